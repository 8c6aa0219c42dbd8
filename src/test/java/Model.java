import java.math.BigInteger;
import java.util.ArrayList;
import java.util.Arrays;
import java.util.HashSet;
import java.util.List;
import java.util.NoSuchElementException;
import java.util.Set;
import java.util.TreeMap;
import java.util.regex.Matcher;
import java.util.regex.Pattern;

/** The document said once more, as plainly and slowly as it goes, for FuzzTest to hold TunerRounds against. */
final class Model {
    static final int NONE = -1;
    private static final Set<String> RESERVED = new HashSet<>(Arrays.asList((
        "table damp term fee sure cake walk work day piano tuner pupil teach fork home school hall stove slip frail "
        + "open tuned found broke paid ate concert moved on known").split(" ")));
    private static final List<String> KINDS = Arrays.asList("home", "school", "hall");

    static final class Piano {
        String name;
        int[] facts = {0, 0, 0, 0, 0, 0, 0, 0, 0, 1440};
        int[] slip = {1, 1, 1, 1, 1, 1, 1, 1, 1, 1, 1, 1};
        int[] frail = new int[4];
    }

    static final class Tuner {
        String name;
        int x;
        int y;
        int fork;
    }

    static final class House {
        int[] table;
        int[] damp = new int[52];
        int[] term = new int[52];
        List<int[]> fees = new ArrayList<>();
        int sure = 0;
        int cake = 0;
        int walk = 5;
        int work = 60;
        int dayA = 480;
        int dayB = 1080;
        List<Piano> pianos = new ArrayList<>();
        List<Tuner> tuners = new ArrayList<>();
        List<String> pupils = new ArrayList<>();
        int[][] teach = new int[6][6];
        int lines = 0;

        House() {
            Arrays.fill(damp, 20);
        }
    }

    static final class Rec {
        String kind;
        int piano;
        int tuner;
        int a;
        int b;
        int on;
        int known;
        TreeMap<Integer, Integer> notes = new TreeMap<>();

        int left(int note) {
            return notes.getOrDefault(note, 0);
        }
    }

    static final class Fault extends RuntimeException {
        final int kind;
        final int place;

        Fault(int kind, int place) {
            this.kind = kind;
            this.place = place;
        }
    }

    // ---- state

    List<Integer> tape = new ArrayList<>();
    House house = new House();
    List<Rec> recs = new ArrayList<>();
    int fault = 0;
    BigInteger[] slipped = null;
    List<Integer> lastRound = new ArrayList<>();
    int lastHome = NONE;
    long lastChance = 0;
    List<Integer> lastPupils = new ArrayList<>();
    House[] keptHouse = new House[2];
    List<List<Rec>> keptRecs = new ArrayList<>(Arrays.asList(null, null));

    // ---- the tape

    int feed(int... fives) {
        if (tape.size() + 20 > 1240) {
            return NONE;
        }
        for (int f : fives) {
            for (int k = 3; k >= 0; k--) {
                tape.add(f >> (8 * k) & 255);
            }
        }
        return tape.size();
    }

    boolean end(int n) {
        if (n < 0 || n > tape.size()) {
            return false;
        }
        tape = new ArrayList<>(tape.subList(0, n));
        return true;
    }

    // ---- texts

    private static final class Text {
        final List<String> words = new ArrayList<>();
        final List<Integer> places = new ArrayList<>();
        int at = 0;

        Text(List<Integer> tape, int limit) {
            StringBuilder all = new StringBuilder();
            for (int b : tape) {
                all.append((char) b);
            }
            Matcher m = Pattern.compile("[a-z0-9]+|[^ \\n]", Pattern.DOTALL).matcher(all);
            boolean over = tape.size() > limit;
            while (m.find()) {
                if (over && m.start() >= limit) {
                    break;
                }
                words.add(m.group());
                places.add(m.start());
            }
            words.add(over ? "?" : "");
            places.add(over ? limit : tape.size());
        }

        String see() {
            return words.get(at);
        }

        int place() {
            return places.get(at);
        }

        boolean isWord() {
            return see().matches("[a-z]{1,8}");
        }

        boolean isNumber() {
            return see().matches("[0-9]{1,5}");
        }

        void must(boolean holds, int kind) {
            if (!holds) {
                throw new Fault(kind, place());
            }
        }

        boolean skip(String word) {
            if (see().equals(word)) {
                at++;
                return true;
            }
            return false;
        }

        int number(int least, int most) {
            int v = look(least, most);
            at++;
            return v;
        }

        int look(int least, int most) {
            must(isNumber(), 1);
            int v = Integer.parseInt(see());
            must(v >= least && v <= most, 2);
            return v;
        }

        int signed(int most) {
            boolean minus = skip("-");
            int v = number(0, most);
            return minus ? -v : v;
        }

        int kind() {
            int k = KINDS.indexOf(see());
            must(k >= 0, 1);
            at++;
            return k;
        }

        void name() {
            must(isWord() && !RESERVED.contains(see()), 1);
        }
    }

    int house() {
        Text t = new Text(tape, 1200);
        tape.clear();
        try {
            House h = parseHouse(t);
            house = h;
            recs = new ArrayList<>();
            fault = 0;
            return h.lines;
        } catch (Fault f) {
            fault = f.kind;
            return -1 - f.place;
        }
    }

    private static House parseHouse(Text t) {
        House h = new House();
        Set<String> once = new HashSet<>();
        Set<String> names = new HashSet<>();
        while (!t.see().isEmpty()) {
            String word = t.see();
            t.must(Arrays.asList("table", "damp", "term", "fee", "sure", "cake", "walk", "work", "day", "piano",
                "tuner", "pupil", "teach").contains(word), 1);
            if (Arrays.asList("table", "sure", "cake", "walk", "work", "day").contains(word)) {
                t.must(once.add(word), 3);
            }
            t.must(!word.equals("piano") || h.pianos.size() < 16, 4);
            t.must(!word.equals("tuner") || h.tuners.size() < 6, 4);
            t.must(!word.equals("pupil") || h.pupils.size() < 6, 4);
            t.must(!word.equals("fee") || h.fees.size() < 16, 4);
            t.at++;
            parseHouseLine(t, h, word, names);
            t.must(t.see().equals(";"), 1);
            t.at++;
            h.lines++;
        }
        return h;
    }

    private static void parseHouseLine(Text t, House h, String word, Set<String> names) {
        switch (word) {
            case "table": {
                int[] table = new int[12];
                table[0] = t.number(1000, 99999);
                for (int i = 1; i < 12; i++) {
                    table[i] = t.number(table[i - 1] + 1, Math.min(99999, table[0] * 2 - 1));
                }
                h.table = table;
                return;
            }
            case "damp": {
                int a = t.number(0, 51);
                int b = t.number(a, 51);
                int v = t.number(0, 40);
                for (int w = a; w <= b; w++) {
                    h.damp[w] = v;
                }
                return;
            }
            case "term": {
                int a = t.number(0, 51);
                int b = t.number(a, 51);
                for (int w = a; w <= b; w++) {
                    h.term[w] = 1;
                }
                return;
            }
            case "fee":
                h.fees.add(new int[] {t.kind(), t.number(0, 9999), t.number(0, 363)});
                return;
            case "sure":
                h.sure = t.number(0, 99);
                return;
            case "cake":
                h.cake = t.number(0, 999);
                return;
            case "walk":
                h.walk = t.number(1, 20);
                return;
            case "work":
                h.work = t.number(10, 120);
                return;
            case "day":
                h.dayA = t.number(0, 1440);
                h.dayB = t.number(h.dayA + 1, 1440);
                return;
            case "piano":
                parsePiano(t, h, names);
                return;
            case "tuner": {
                Tuner u = new Tuner();
                u.name = newName(t, names);
                u.x = t.number(0, 99);
                u.y = t.number(0, 99);
                if (t.skip("fork")) {
                    u.fork = t.signed(99);
                }
                h.tuners.add(u);
                return;
            }
            case "pupil":
                h.pupils.add(newName(t, names));
                return;
            default: {
                t.name();
                int u = tunerNamed(h, t.see());
                t.must(u >= 0, 3);
                t.at++;
                t.name();
                int p = h.pupils.indexOf(t.see());
                t.must(p >= 0, 3);
                t.at++;
                h.teach[u][p] = t.number(0, 99);
            }
        }
    }

    private static String newName(Text t, Set<String> names) {
        t.name();
        String s = t.see();
        t.must(names.add(s), 3);
        t.at++;
        return s;
    }

    private static void parsePiano(Text t, House h, Set<String> names) {
        Piano p = new Piano();
        p.name = newName(t, names);
        p.facts[0] = t.kind();
        int[] least = {0, 0, 0, 1, 0, 0, 0};
        int[] most = {0, 99, 99, 999, 200, 9999, 9};
        for (int i = 1; i < 7; i++) {
            p.facts[i] = t.number(least[i], most[i]);
        }
        Set<String> told = new HashSet<>();
        while (Arrays.asList("stove", "slip", "frail", "open").contains(t.see())) {
            String word = t.see();
            if (word.equals("stove") || word.equals("open")) {
                t.must(told.add(word), 3);
            }
            t.at++;
            if (word.equals("stove")) {
                p.facts[7] = 1;
            } else if (word.equals("open")) {
                p.facts[8] = t.number(0, 1440);
                p.facts[9] = t.number(p.facts[8] + 1, 1440);
            } else {
                int i = t.look(0, word.equals("slip") ? 11 : 3);
                t.must(told.add(word + i), 3);
                t.at++;
                int v = t.number(0, word.equals("slip") ? 99 : 20);
                (word.equals("slip") ? p.slip : p.frail)[i] = v;
            }
        }
        h.pianos.add(p);
    }

    private static int tunerNamed(House h, String name) {
        for (int i = 0; i < h.tuners.size(); i++) {
            if (h.tuners.get(i).name.equals(name)) {
                return i;
            }
        }
        return NONE;
    }

    private static int pianoNamed(House h, String name) {
        for (int i = 0; i < h.pianos.size(); i++) {
            if (h.pianos.get(i).name.equals(name)) {
                return i;
            }
        }
        return NONE;
    }

    int records() {
        Text t = new Text(tape, 700);
        tape.clear();
        try {
            List<Rec> more = new ArrayList<>(recs);
            while (!t.see().isEmpty()) {
                t.must(Arrays.asList("tuned", "found", "broke", "paid", "ate", "concert", "moved").contains(t.see()), 1);
                t.must(more.size() < 200, 4);
                more.add(parseRecord(t));
                t.must(t.see().equals(";"), 1);
                t.at++;
            }
            recs = more;
            fault = 0;
            return recs.size();
        } catch (Fault f) {
            fault = f.kind;
            return -1 - f.place;
        }
    }

    private Rec parseRecord(Text t) {
        Rec r = new Rec();
        r.kind = t.see();
        t.at++;
        t.name();
        r.piano = pianoNamed(house, t.see());
        t.must(r.piano >= 0, 3);
        t.must(!r.kind.equals("concert") || house.pianos.get(r.piano).facts[0] == 2, 3);
        t.at++;
        switch (r.kind) {
            case "tuned":
                t.name();
                r.tuner = tunerNamed(house, t.see());
                t.must(r.tuner >= 0, 3);
                t.at++;
                break;
            case "broke":
                r.a = t.number(0, 3);
                break;
            case "paid":
                r.a = t.number(1, 9999);
                break;
            case "moved":
                r.a = t.number(0, 99);
                r.b = t.number(0, 99);
                break;
            default:
        }
        t.must(t.see().equals("on"), 1);
        t.at++;
        r.on = t.number(0, 363);
        r.known = r.kind.equals("concert") ? 0 : r.on;
        if (t.skip("known")) {
            r.known = t.number(r.known, 363);
        }
        if (r.kind.equals("found")) {
            t.must(t.isNumber(), 1);
        }
        if (r.kind.equals("found") || r.kind.equals("tuned")) {
            while (t.isNumber()) {
                int note = t.look(0, 11);
                t.must(!r.notes.containsKey(note), 3);
                t.at++;
                r.notes.put(note, t.signed(999));
            }
        }
        return r;
    }

    // ---- plain facts

    private boolean hasPiano(int p) {
        return p >= 0 && p < house.pianos.size();
    }

    private boolean hasTuner(int t) {
        return t >= 0 && t < house.tuners.size();
    }

    private static boolean isDay(int d) {
        return d >= 0 && d <= 363;
    }

    private static boolean isK(int k) {
        return k == NONE || isDay(k);
    }

    private boolean asked(int p, int day, int known) {
        return hasPiano(p) && isDay(day) && isK(known);
    }

    int piano(int p, int what) {
        if (!hasPiano(p) || what < 0 || what > 9) {
            throw new NoSuchElementException();
        }
        return house.pianos.get(p).facts[what];
    }

    int week(int w, int what) {
        if (w < 0 || w > 51 || what < 0 || what > 1) {
            return NONE;
        }
        return what == 0 ? house.damp[w] : house.term[w];
    }

    private int tone(int i) {
        return house.table[i % 12] * (i >= 12 ? 2 : 1);
    }

    int beats(int note, int what) {
        if (note < 0 || note > 11 || house.table == null) {
            return NONE;
        }
        switch (what) {
            case 0:
                return Math.abs(3 * tone(note) - 2 * tone(note + 7));
            case 1:
                return Math.abs(5 * tone(note) - 4 * tone(note + 4));
            case 2:
                return Math.abs(6 * tone(note) - 5 * tone(note + 3));
            case 3:
                return Math.abs(4 * tone(note) - 3 * tone(note + 5));
            default:
                return NONE;
        }
    }

    int wolf(int what) {
        if (beats(0, what) == NONE) {
            return NONE;
        }
        int best = 0;
        for (int i = 0; i < 12; i++) {
            if (beats(i, what) > beats(best, what)) {
                best = i;
            }
        }
        return best;
    }

    // ---- where strings stand

    private List<Rec> of(String kind, int p, int known) {
        List<Rec> some = new ArrayList<>();
        for (Rec r : recs) {
            if (r.kind.equals(kind) && (p == NONE || r.piano == p) && (known == NONE || r.known <= known)) {
                some.add(r);
            }
        }
        return some;
    }

    private static Rec latest(List<Rec> some, int day) {
        Rec best = null;
        for (Rec r : some) {
            if (r.on <= day && (best == null || r.on >= best.on)) {
                best = r;
            }
        }
        return best;
    }

    /** OFFSET on day d of a string left at so much on day t, by moves up to day 'told'. */
    private int stand(int p, int note, int left, int t, int d, List<Rec> moves, int told, int slipMore) {
        Piano q = house.pianos.get(p);
        int value = left;
        for (int x = t + 1; x <= d; x++) {
            int slip = Math.max(0, q.slip[note] + slipMore);
            boolean moved = false;
            for (Rec m : moves) {
                if (m.on <= told && x - m.on >= 1 && x - m.on <= 21) {
                    moved = true;
                }
            }
            value -= moved ? 3 * slip : slip;
            if (q.facts[7] == 1 && (x / 7 <= 8 || x / 7 >= 44)) {
                value -= 2;
            }
        }
        return value + 5 * (house.damp[d / 7] - house.damp[t / 7]);
    }

    private Integer offsetOrNull(int p, int note, int d, int known, int told, int slipMore) {
        Rec r = latest(of("tuned", p, known), told);
        if (r == null) {
            return null;
        }
        int left = r.left(note) + house.tuners.get(r.tuner).fork;
        return stand(p, note, left, r.on, d, of("moved", p, known), told, slipMore);
    }

    private int offOf(int p, int d, int known, int told, int slipMore) {
        int best = NONE;
        for (int note = 0; note < 12; note++) {
            Integer o = offsetOrNull(p, note, d, known, told, slipMore);
            if (o != null) {
                best = Math.max(best, Math.abs(o));
            }
        }
        return best;
    }

    private boolean beyond(int p, int d, int known, int told, int slipMore) {
        int off = offOf(p, d, known, told, slipMore);
        return off == NONE || off > house.pianos.get(p).facts[3];
    }

    int offset(int p, int note, int day, int known) {
        if (!asked(p, day, known) || note < 0 || note > 11) {
            throw new NoSuchElementException();
        }
        Integer o = offsetOrNull(p, note, day, known, day, 0);
        if (o == null) {
            throw new NoSuchElementException();
        }
        return o;
    }

    int off(int p, int day, int known) {
        return asked(p, day, known) ? offOf(p, day, known, day, 0) : -2;
    }

    int due(int p, int day, int known, int how) {
        if (!asked(p, day, known) || how < 0 || how > 2) {
            return -2;
        }
        for (int d = day; d <= 363; d++) {
            if (beyond(p, d, known, day, new int[] {0, 1, -1}[how])) {
                return d;
            }
        }
        return NONE;
    }

    // ---- findings

    private void pairs(int p, int known, long[] falls, long[] days) {
        for (Rec f : of("found", p, known)) {
            Rec t = latest(of("tuned", p, known), f.on);
            if (t != null && t.on < f.on) {
                for (int note : f.notes.keySet()) {
                    falls[note] += t.left(note) - f.left(note);
                    days[note] += f.on - t.on;
                }
            }
        }
    }

    private static BigInteger[] least(BigInteger above, BigInteger below) {
        BigInteger g = above.gcd(below);
        return new BigInteger[] {above.divide(g), below.divide(g)};
    }

    private static BigInteger big(long v) {
        return BigInteger.valueOf(v);
    }

    int slips(int p, int known) {
        if (!hasPiano(p) || !isK(known)) {
            return -2;
        }
        long[] falls = new long[12];
        long[] days = new long[12];
        pairs(p, known, falls, days);
        int best = NONE;
        for (int i = 0; i < 12; i++) {
            if (days[i] > 0 && (best < 0
                || big(falls[i]).multiply(big(days[best])).compareTo(big(falls[best]).multiply(big(days[i]))) > 0)) {
                best = i;
            }
        }
        if (best >= 0) {
            slipped = least(big(falls[best]), big(days[best]));
        }
        return best;
    }

    int slipped(int what) {
        if (slipped == null || what < 0 || what > 1) {
            throw new NoSuchElementException();
        }
        return slipped[what].intValueExact();
    }

    long stove(int known, int what) {
        if (!isK(known) || what < 0 || what > 1) {
            throw new NoSuchElementException();
        }
        long[] fall = new long[2];
        long[] day = new long[2];
        for (int p = 0; p < house.pianos.size(); p++) {
            long[] falls = new long[12];
            long[] days = new long[12];
            pairs(p, known, falls, days);
            int s = house.pianos.get(p).facts[7];
            fall[s] += Arrays.stream(falls).sum();
            day[s] += Arrays.stream(days).sum();
        }
        if (day[0] == 0 || day[1] == 0) {
            throw new NoSuchElementException();
        }
        BigInteger above = big(fall[1]).multiply(big(day[0])).subtract(big(fall[0]).multiply(big(day[1])));
        return least(above, big(day[0]).multiply(big(day[1])))[what].longValueExact();
    }

    int lean(int tuner, int note, int known, int what) {
        if (!hasTuner(tuner) || note < 0 || note > 11 || !isK(known) || what < 0 || what > 1) {
            throw new NoSuchElementException();
        }
        long sum = 0;
        long n = 0;
        for (Rec r : of("tuned", NONE, known)) {
            if (r.tuner == tuner && r.notes.containsKey(note)) {
                sum += r.left(note);
                n++;
            }
        }
        if (n == 0) {
            throw new NoSuchElementException();
        }
        return least(big(sum), big(n))[what].intValueExact();
    }

    int batch(int known) {
        if (!isK(known)) {
            return NONE;
        }
        int best = NONE;
        double most = -1;
        for (int b = 0; b < 10; b++) {
            int pianos = 0;
            int broke = 0;
            for (int p = 0; p < house.pianos.size(); p++) {
                if (house.pianos.get(p).facts[6] == b) {
                    pianos++;
                    broke += of("broke", p, known).size();
                }
            }
            if (pianos > 0 && (double) broke / pianos > most + 1e-9) {
                most = (double) broke / pianos;
                best = b;
            }
        }
        return best;
    }

    int cracked(int p, int known) {
        if (!hasPiano(p) || !isK(known)) {
            return NONE;
        }
        List<Rec> found = of("found", p, known);
        found.sort((a, b) -> Integer.compare(a.on, b.on));
        for (int i = 0; i + 1 < found.size(); i++) {
            Rec a = found.get(i);
            Rec b = found.get(i + 1);
            Set<Integer> both = new HashSet<>(a.notes.keySet());
            both.retainAll(b.notes.keySet());
            boolean up = true;
            boolean down = true;
            for (int note : both) {
                up &= b.left(note) - a.left(note) >= 300;
                down &= a.left(note) - b.left(note) >= 300;
            }
            if (b.on - a.on <= 30 && both.size() >= 3 && (up || down)) {
                return 1;
            }
        }
        return 0;
    }

    // ---- rounds

    int weight(int p, int day) {
        if (!hasPiano(p) || !isDay(day)) {
            return NONE;
        }
        boolean concert = false;
        for (Rec c : of("concert", p, day)) {
            concert |= c.on == day || c.on == day + 1;
        }
        boolean tuned = false;
        for (Rec t : of("tuned", p, day)) {
            tuned |= t.on == day || t.on == day - 1;
        }
        if (concert && !tuned) {
            return 50;
        }
        return beyond(p, day, day, day, 0) ? 10 : 1;
    }

    private List<Integer> takePianos(int least, int most) {
        List<Integer> some = new ArrayList<>(tape);
        tape.clear();
        if (some.size() < least || some.size() > most || new HashSet<>(some).size() < some.size()) {
            return null;
        }
        for (int p : some) {
            if (!hasPiano(p)) {
                return null;
            }
        }
        return some;
    }

    private int[] at(int p, int day) {
        Rec m = latest(of("moved", p, day), day);
        int[] f = house.pianos.get(p).facts;
        return m == null ? new int[] {f[1], f[2]} : new int[] {m.a, m.b};
    }

    private static int steps(int[] a, int[] b) {
        return Math.abs(a[0] - b[0]) + Math.abs(a[1] - b[1]);
    }

    private int[] lives(int tuner) {
        return new int[] {house.tuners.get(tuner).x, house.tuners.get(tuner).y};
    }

    /** Where a walk along some PIANOS ends, or what walked() says of it. */
    private int walk(int tuner, int day, List<Integer> some) {
        int now = house.dayA;
        int[] here = lives(tuner);
        for (int i = 0; i < some.size(); i++) {
            int p = some.get(i);
            int[] f = house.pianos.get(p).facts;
            int[] there = at(p, day);
            now += steps(here, there) * house.walk;
            now = Math.max(now, f[8]) + house.work;
            if (now > f[9] || f[0] == 1 && house.term[day / 7] == 1) {
                return -2 - i;
            }
            here = there;
        }
        now += steps(here, lives(tuner)) * house.walk;
        return now <= house.dayB ? now : -2 - some.size();
    }

    private interface Visit {
        void see(List<Integer> round, int home);
    }

    private void allRounds(int tuner, int day, List<Integer> from, List<Integer> round, Visit visit) {
        int home = walk(tuner, day, round);
        if (home >= 0) {
            visit.see(round, home);
        }
        if (home < 0 && home > -2 - round.size()) {
            return;
        }
        for (int p : from) {
            if (!round.contains(p)) {
                round.add(p);
                allRounds(tuner, day, from, round, visit);
                round.remove(round.size() - 1);
            }
        }
    }

    private static boolean isFirst(List<Integer> a, List<Integer> b) {
        for (int i = 0; i < a.size() && i < b.size(); i++) {
            if (!a.get(i).equals(b.get(i))) {
                return a.get(i) < b.get(i);
            }
        }
        return a.size() < b.size();
    }

    int round(int tuner, int day) {
        List<Integer> some = takePianos(0, 9);
        if (some == null || !hasTuner(tuner) || !isDay(day)) {
            return NONE;
        }
        int[] weights = new int[16];
        for (int p : some) {
            weights[p] = weight(p, day);
        }
        int[] best = {-1, 0};
        List<Integer> order = new ArrayList<>();
        allRounds(tuner, day, some, new ArrayList<>(), (round, home) -> {
            int sum = 0;
            for (int p : round) {
                sum += weights[p];
            }
            boolean better = sum > best[0] || sum == best[0] && home < best[1]
                || sum == best[0] && home == best[1] && isFirst(round, order);
            if (better) {
                best[0] = sum;
                best[1] = home;
                order.clear();
                order.addAll(round);
            }
        });
        lastRound = order;
        lastHome = best[1];
        return best[0];
    }

    int roundAt(int i) {
        return i >= 0 && i < lastRound.size() ? lastRound.get(i) : NONE;
    }

    int home() {
        return lastHome;
    }

    int walked(int tuner, int day) {
        List<Integer> some = takePianos(0, 9);
        if (some == null || !hasTuner(tuner) || !isDay(day)) {
            return NONE;
        }
        return walk(tuner, day, some);
    }

    private Set<Set<Integer>> roundSets(int tuner, int day, List<Integer> some) {
        Set<Set<Integer>> sets = new HashSet<>();
        allRounds(tuner, day, some, new ArrayList<>(), (round, home) -> sets.add(new HashSet<>(round)));
        return sets;
    }

    int two(int one, int other, int day) {
        List<Integer> some = takePianos(0, 9);
        if (some == null || !hasTuner(one) || !hasTuner(other) || one == other || !isDay(day)) {
            return NONE;
        }
        int best = 0;
        for (Set<Integer> a : roundSets(one, day, some)) {
            for (Set<Integer> b : roundSets(other, day, some)) {
                Set<Integer> both = new HashSet<>(a);
                both.addAll(b);
                if (both.size() == a.size() + b.size()) {
                    int sum = 0;
                    for (int p : both) {
                        sum += weight(p, day);
                    }
                    best = Math.max(best, sum);
                }
            }
        }
        return best;
    }

    int festival(int day) {
        List<Integer> some = takePianos(0, 9);
        if (some == null || !isDay(day)) {
            return -2;
        }
        List<Set<Set<Integer>>> sets = new ArrayList<>();
        for (int t = 0; t < house.tuners.size(); t++) {
            sets.add(roundSets(t, day, some));
        }
        int best = NONE;
        for (int bits = 0; bits < 1 << house.tuners.size(); bits++) {
            Set<Set<Integer>> reach = new HashSet<>();
            reach.add(new HashSet<>());
            for (int t = 0; t < house.tuners.size(); t++) {
                if ((bits >> t & 1) == 1) {
                    Set<Set<Integer>> more = new HashSet<>();
                    for (Set<Integer> a : reach) {
                        for (Set<Integer> b : sets.get(t)) {
                            Set<Integer> c = new HashSet<>(a);
                            c.addAll(b);
                            more.add(c);
                        }
                    }
                    reach = more;
                }
            }
            if (reach.contains(new HashSet<>(some))
                && (best < 0 || Integer.bitCount(bits) < Integer.bitCount(best))) {
                best = bits;
            }
        }
        return best;
    }

    // ---- halls and fees

    private boolean isHall(int p) {
        return hasPiano(p) && house.pianos.get(p).facts[0] == 2;
    }

    int unready(int p, int known) {
        if (!isHall(p) || !isK(known)) {
            return NONE;
        }
        int n = 0;
        for (Rec c : of("concert", p, known)) {
            boolean tuned = false;
            for (Rec t : of("tuned", p, known)) {
                tuned |= t.on <= c.on && t.on >= c.on - 2;
            }
            if (!tuned || beyond(p, c.on, known, c.on, 0)) {
                n++;
            }
        }
        return n;
    }

    int whose(int p, int k, int known) {
        if (!isHall(p) || !isK(known) || k < 0 || k >= of("concert", p, known).size()) {
            return NONE;
        }
        Rec c = of("concert", p, known).get(k);
        if (!beyond(p, c.on, known, c.on, 0)) {
            return 0;
        }
        Rec t = latest(of("tuned", p, known), c.on);
        if (t == null || t.on < c.on - 7) {
            return 1;
        }
        int ear = house.pianos.get(p).facts[3];
        boolean strings = false;
        for (int note = 0; note < 12; note++) {
            if (Math.abs(t.left(note) + house.tuners.get(t.tuner).fork) > ear) {
                return 2;
            }
            int dampLess = offsetOrNull(p, note, c.on, known, c.on, 0)
                - 5 * (house.damp[c.on / 7] - house.damp[t.on / 7]);
            strings |= Math.abs(dampLess) > ear;
        }
        return strings ? 4 : 3;
    }

    int fee(int p, int day) {
        if (!hasPiano(p) || !isDay(day)) {
            return NONE;
        }
        int[] best = null;
        for (int[] f : house.fees) {
            if (f[0] == house.pianos.get(p).facts[0] && f[2] <= day && (best == null || f[2] >= best[2])) {
                best = f;
            }
        }
        return best == null ? 0 : best[1];
    }

    private boolean isFree(Rec t, int known) {
        for (Rec o : of("tuned", t.piano, known)) {
            int ahead = t.on - o.on;
            if (ahead >= 1 && ahead <= house.sure) {
                return true;
            }
        }
        return false;
    }

    int owed(int p, int day, int known) {
        if (!asked(p, day, known)) {
            throw new NoSuchElementException();
        }
        int sum = 0;
        for (Rec t : of("tuned", p, known)) {
            if (t.on <= day && !isFree(t, known)) {
                sum += fee(p, t.on);
            }
        }
        for (Rec r : of("paid", p, known)) {
            sum -= r.on <= day ? r.a : 0;
        }
        for (Rec r : of("ate", p, known)) {
            sum -= r.on <= day ? house.cake : 0;
        }
        return sum;
    }

    int free(int p, int day, int known) {
        if (!asked(p, day, known)) {
            return NONE;
        }
        int n = 0;
        for (Rec t : of("tuned", p, known)) {
            n += t.on <= day && isFree(t, known) ? 1 : 0;
        }
        return n;
    }

    int tunings(int p, int day, int known) {
        if (!asked(p, day, known)) {
            return NONE;
        }
        int n = 0;
        int d = due(p, day, known, 0);
        while (d >= 0) {
            n++;
            int from = d;
            d = NONE;
            for (int x = from; x <= 363 && d < 0; x++) {
                int off = 0;
                for (int note = 0; note < 12; note++) {
                    off = Math.max(off, Math.abs(stand(p, note, 0, from, x, of("moved", p, known), day, 0)));
                }
                if (off > house.pianos.get(p).facts[3]) {
                    d = x;
                }
            }
        }
        return n;
    }

    int past(int p, int day, int known) {
        if (!asked(p, day, known)) {
            return NONE;
        }
        return tunings(p, day, known) * fee(p, day) > house.pianos.get(p).facts[5] ? 1 : 0;
    }

    // ---- strings and pupils

    int bag(int n) {
        List<Integer> some = takePianos(1, 8);
        if (some == null || n < 0 || n > 12) {
            return NONE;
        }
        int m = some.size();
        BigInteger[][] parts = new BigInteger[4][9];
        for (int g = 0; g < 4; g++) {
            Arrays.fill(parts[g], BigInteger.ZERO);
            for (int need = 0; need < 1 << m; need++) {
                BigInteger ways = BigInteger.ONE;
                for (int i = 0; i < m; i++) {
                    int f = house.pianos.get(some.get(i)).frail[g];
                    ways = ways.multiply(big((need >> i & 1) == 1 ? f : 20 - f));
                }
                for (int c = Integer.bitCount(need); c < 9; c++) {
                    parts[g][c] = parts[g][c].add(ways);
                }
            }
        }
        int best = NONE;
        BigInteger most = big(-1);
        for (int code = 0; code < 10000; code++) {
            int[] c = {code / 1000, code / 100 % 10, code / 10 % 10, code % 10};
            boolean fits = c[0] + c[1] + c[2] + c[3] <= n;
            BigInteger chance = BigInteger.TEN.pow(15);
            for (int g = 0; g < 4 && fits; g++) {
                fits = c[g] <= 8;
                if (fits) {
                    chance = chance.multiply(parts[g][c[g]]).divide(big(20).pow(m));
                }
            }
            if (fits && chance.compareTo(most) > 0) {
                most = chance;
                best = code;
            }
        }
        lastChance = most.longValueExact();
        return best;
    }

    long chance() {
        return lastChance;
    }

    int pupils() {
        int n = Math.min(house.pupils.size(), house.tuners.size());
        if (n == 0) {
            return NONE;
        }
        int[] best = {-1};
        share(n, 0, new ArrayList<>(), best);
        return best[0];
    }

    private void share(int n, int sum, List<Integer> tuners, int[] best) {
        if (tuners.size() == n) {
            if (sum > best[0]) {
                best[0] = sum;
                lastPupils = new ArrayList<>(tuners);
            }
            return;
        }
        for (int t = 0; t < house.tuners.size(); t++) {
            if (!tuners.contains(t)) {
                int k = tuners.size();
                tuners.add(t);
                share(n, sum + house.teach[t][k], tuners, best);
                tuners.remove(k);
            }
        }
    }

    int pupilOf(int k) {
        return k >= 0 && k < lastPupils.size() ? lastPupils.get(k) : NONE;
    }

    // ---- images

    boolean image(int k) {
        if (k < 0 || k > 1) {
            return false;
        }
        keptHouse[k] = house;
        keptRecs.set(k, recs);
        return true;
    }

    boolean restore(int k) {
        if (k < 0 || k > 1 || keptHouse[k] == null) {
            return false;
        }
        house = keptHouse[k];
        recs = keptRecs.get(k);
        return true;
    }

    int count(int what) {
        switch (what) {
            case 0:
                return house.pianos.size();
            case 1:
                return house.tuners.size();
            case 2:
                return house.pupils.size();
            case 3:
                return recs.size();
            case 4:
                return tape.size();
            case 5:
                return of("concert", NONE, NONE).size();
            case 6:
                return house.fees.size();
            default:
                return NONE;
        }
    }
}
