import java.util.ArrayList;
import java.util.List;
import java.util.NoSuchElementException;
import java.util.Random;

/** Runs of random calls, each answer held against Model's. The seeds are fixed, so a wrong run can be run again. */
public final class FuzzTest {
    private static final int RUNS = 500;
    private static final int CALLS = 400;

    private final Random random;
    private final TunerRounds real = new TunerRounds();
    private final Model model = new Model();
    private final List<String> log = new ArrayList<>();
    private int wrong = 0;

    // Dense runs have few PIANOS, close days and near places, so that rare meetings and ties come.
    private final boolean dense;

    // Late runs have most days at the year's end, where moves, stoves and DUE meet day 363.
    private final boolean late;

    private FuzzTest(long seed) {
        random = new Random(seed);
        dense = seed % 2 == 1;
        late = seed % 5 == 4;
    }

    public static void main(String[] args) {
        int wrong = 0;
        long first = args.length > 0 ? Long.parseLong(args[0]) : 0;
        int runs = args.length > 1 ? Integer.parseInt(args[1]) : RUNS;
        for (long seed = first; seed < first + runs && wrong < 10; seed++) {
            FuzzTest test = new FuzzTest(seed);
            test.run();
            if (test.wrong > 0) {
                System.out.println("seed " + seed + ":");
                test.log.forEach(System.out::println);
                wrong += test.wrong;
            }
        }
        System.out.println(wrong == 0 ? "FuzzTest: all answers alike" : "FuzzTest: " + wrong + " wrong");
        System.exit(wrong == 0 ? 0 : 1);
    }

    private void run() {
        int calls = 0;
        while (calls < CALLS && wrong == 0) {
            int dice = random.nextInt(100);
            if (real.count(0) == 0 || dice < 2) {
                calls += put(houseText(), 1200);
                check("house");
                check("fault");
            } else if (dice < 12 || real.count(3) == 0) {
                calls += put(recordText(), 700);
                check("records");
                check("fault");
            } else if (dice < 32) {
                putPianos();
                check(new String[] {"round", "walked", "two", "festival", "bag", "round"}[random.nextInt(6)]);
                for (int i = 0; i < 4; i++) {
                    check("roundAt");
                }
                check("home");
                check("chance");
                calls += 6;
            } else {
                check(CALL_NAMES[random.nextInt(CALL_NAMES.length)]);
            }
            calls++;
        }
    }

    private static final String[] CALL_NAMES = {"piano", "week", "beats", "wolf", "offset", "offset", "off", "off",
        "due", "due", "due", "slips", "slips", "slipped", "stove", "stove", "lean", "lean", "batch", "batch",
        "cracked", "cracked", "weight", "weight", "unready", "unready", "whose", "whose", "fee", "owed", "owed",
        "free", "free", "tunings", "past", "pupils", "pupilOf", "image", "restore", "count", "round", "walked",
        "two", "festival", "bag", "records", "fault", "end", "roundAt", "home", "chance"};

    // ---- one call on both

    private interface Call {
        long on(boolean isReal);
    }

    private String outcome(Call call, boolean isReal) {
        try {
            return Long.toString(call.on(isReal));
        } catch (NoSuchElementException e) {
            return "NoSuchElementException";
        } catch (RuntimeException e) {
            return "threw " + e;
        }
    }

    private void same(String name, Call call) {
        String got = outcome(call, true);
        String want = outcome(call, false);
        log.add(name + " -> " + got + (got.equals(want) ? "" : "  WRONG, due " + want));
        if (!got.equals(want)) {
            wrong++;
        }
    }

    private static long bit(boolean b) {
        return b ? 1 : 0;
    }

    private int p() {
        return random.nextInt(40) == 0 ? random.nextInt(20) - 2 : random.nextInt(Math.max(1, real.count(0)));
    }

    private int t() {
        return random.nextInt(40) == 0 ? random.nextInt(9) - 2 : random.nextInt(Math.max(1, real.count(1)));
    }

    private int day() {
        int dice = random.nextInt(60);
        return dice == 0 ? -1 : dice == 1 ? 364 : dice < 6 ? random.nextInt(364) : nearDay(dense ? 30 : 80);
    }

    private int nearDay(int days) {
        return random.nextInt(days) + (late ? 364 - days : 0);
    }

    private int known() {
        int dice = random.nextInt(60);
        return dice == 0 ? -2 : dice == 1 ? 364 : dice < 30 ? -1 : nearDay(100);
    }

    private int what(int bound) {
        return random.nextInt(20) == 0 ? random.nextInt(bound + 3) - 1 : random.nextInt(bound);
    }

    private void check(String name) {
        int p = p();
        int t = t();
        int u = t();
        int day = day();
        int known = known();
        switch (name) {
            case "house":
                same("house()", r -> r ? real.house() : model.house());
                break;
            case "records":
                same("records()", r -> r ? real.records() : model.records());
                break;
            case "fault":
                same("fault()", r -> r ? real.fault() : model.fault);
                break;
            case "end": {
                int n = random.nextInt(25) - 2;
                same("end(" + n + ")", r -> bit(r ? real.end(n) : model.end(n)));
                break;
            }
            case "piano": {
                int w = what(10);
                same("piano(" + p + "," + w + ")", r -> r ? real.piano(p, w) : model.piano(p, w));
                break;
            }
            case "week": {
                int week = what(52);
                int w = what(2);
                same("week(" + week + "," + w + ")", r -> r ? real.week(week, w) : model.week(week, w));
                break;
            }
            case "beats": {
                int note = what(12);
                int w = what(4);
                same("beats(" + note + "," + w + ")", r -> r ? real.beats(note, w) : model.beats(note, w));
                break;
            }
            case "wolf": {
                int w = what(4);
                same("wolf(" + w + ")", r -> r ? real.wolf(w) : model.wolf(w));
                break;
            }
            case "offset": {
                int note = what(12);
                same("offset(" + p + "," + note + "," + day + "," + known + ")",
                    r -> r ? real.offset(p, note, day, known) : model.offset(p, note, day, known));
                break;
            }
            case "off":
                same("off(" + p + "," + day + "," + known + ")",
                    r -> r ? real.off(p, day, known) : model.off(p, day, known));
                break;
            case "due": {
                int how = what(3);
                same("due(" + p + "," + day + "," + known + "," + how + ")",
                    r -> r ? real.due(p, day, known, how) : model.due(p, day, known, how));
                break;
            }
            default:
                checkMore(name, p, t, u, day, known);
        }
    }

    private void checkMore(String name, int p, int t, int u, int day, int known) {
        switch (name) {
            case "slips":
                same("slips(" + p + "," + known + ")", r -> r ? real.slips(p, known) : model.slips(p, known));
                same("slipped(0)", r -> r ? real.slipped(0) : model.slipped(0));
                same("slipped(1)", r -> r ? real.slipped(1) : model.slipped(1));
                break;
            case "slipped": {
                int w = what(2);
                same("slipped(" + w + ")", r -> r ? real.slipped(w) : model.slipped(w));
                break;
            }
            case "stove": {
                int w = what(2);
                same("stove(" + known + "," + w + ")", r -> r ? real.stove(known, w) : model.stove(known, w));
                break;
            }
            case "lean": {
                int note = what(12);
                int w = what(2);
                same("lean(" + t + "," + note + "," + known + "," + w + ")",
                    r -> r ? real.lean(t, note, known, w) : model.lean(t, note, known, w));
                break;
            }
            case "batch":
                same("batch(" + known + ")", r -> r ? real.batch(known) : model.batch(known));
                break;
            case "cracked":
                same("cracked(" + p + "," + known + ")", r -> r ? real.cracked(p, known) : model.cracked(p, known));
                break;
            case "weight":
                same("weight(" + p + "," + day + ")", r -> r ? real.weight(p, day) : model.weight(p, day));
                break;
            case "round":
                same("round(" + t + "," + day + ")", r -> r ? real.round(t, day) : model.round(t, day));
                break;
            case "roundAt": {
                int i = what(5);
                same("roundAt(" + i + ")", r -> r ? real.roundAt(i) : model.roundAt(i));
                break;
            }
            case "home":
                same("home()", r -> r ? real.home() : model.home());
                break;
            case "walked":
                same("walked(" + t + "," + day + ")", r -> r ? real.walked(t, day) : model.walked(t, day));
                break;
            case "two":
                same("two(" + t + "," + u + "," + day + ")", r -> r ? real.two(t, u, day) : model.two(t, u, day));
                break;
            case "festival":
                same("festival(" + day + ")", r -> r ? real.festival(day) : model.festival(day));
                break;
            default:
                checkRest(name, p, day, known);
        }
    }

    private void checkRest(String name, int p, int day, int known) {
        switch (name) {
            case "unready":
                same("unready(" + p + "," + known + ")", r -> r ? real.unready(p, known) : model.unready(p, known));
                break;
            case "whose": {
                int k = what(3);
                same("whose(" + p + "," + k + "," + known + ")",
                    r -> r ? real.whose(p, k, known) : model.whose(p, k, known));
                break;
            }
            case "fee":
                same("fee(" + p + "," + day + ")", r -> r ? real.fee(p, day) : model.fee(p, day));
                break;
            case "owed":
                same("owed(" + p + "," + day + "," + known + ")",
                    r -> r ? real.owed(p, day, known) : model.owed(p, day, known));
                break;
            case "free":
                same("free(" + p + "," + day + "," + known + ")",
                    r -> r ? real.free(p, day, known) : model.free(p, day, known));
                break;
            case "tunings":
                same("tunings(" + p + "," + day + "," + known + ")",
                    r -> r ? real.tunings(p, day, known) : model.tunings(p, day, known));
                break;
            case "past":
                same("past(" + p + "," + day + "," + known + ")",
                    r -> r ? real.past(p, day, known) : model.past(p, day, known));
                break;
            case "bag": {
                int n = what(13);
                same("bag(" + n + ")", r -> r ? real.bag(n) : model.bag(n));
                break;
            }
            case "chance":
                same("chance()", r -> r ? real.chance() : model.chance());
                break;
            case "pupils":
                same("pupils()", r -> r ? real.pupils() : model.pupils());
                for (int k = -1; k < 7; k++) {
                    int at = k;
                    same("pupilOf(" + at + ")", r -> r ? real.pupilOf(at) : model.pupilOf(at));
                }
                break;
            case "pupilOf": {
                int k = what(6);
                same("pupilOf(" + k + ")", r -> r ? real.pupilOf(k) : model.pupilOf(k));
                break;
            }
            case "image": {
                int k = what(2);
                same("image(" + k + ")", r -> bit(r ? real.image(k) : model.image(k)));
                break;
            }
            case "restore": {
                int k = what(2);
                same("restore(" + k + ")", r -> bit(r ? real.restore(k) : model.restore(k)));
                break;
            }
            default: {
                int w = what(7);
                same("count(" + w + ")", r -> r ? real.count(w) : model.count(w));
            }
        }
    }

    // ---- the tape

    private int put(String text, int limit) {
        String whole = text;
        if (random.nextInt(25) == 0) {
            StringBuilder padded = new StringBuilder(text);
            int to = limit + random.nextInt(5) - 2;
            while (padded.length() < to) {
                padded.insert(random.nextInt(4) == 0 ? padded.length() : padded.indexOf(" ") + 1, ' ');
            }
            whole = padded.toString();
        }
        if (whole.length() > 1240) {
            whole = whole.substring(0, 1240);
        }
        return putBytes(whole);
    }

    private int putBytes(String bytes) {
        int calls = 0;
        same("end(0)", r -> bit(r ? real.end(0) : model.end(0)));
        for (int at = 0; at < bytes.length(); at += 20) {
            int[] f = new int[5];
            for (int i = 0; i < 20; i++) {
                int b = at + i < bytes.length() ? bytes.charAt(at + i) : 0;
                f[i / 4] = f[i / 4] << 8 | b;
            }
            same("feed", r -> r ? real.feed(f[0], f[1], f[2], f[3], f[4]) : model.feed(f));
            calls++;
        }
        same("end(n)", r -> bit(r ? real.end(bytes.length()) : model.end(bytes.length())));
        log.add("   tape: " + bytes.replace("\n", "\\n"));
        return calls + 2;
    }

    private void putPianos() {
        int pianos = real.count(0);
        List<Integer> all = new ArrayList<>();
        for (int i = 0; i < pianos; i++) {
            all.add(i);
        }
        java.util.Collections.shuffle(all, random);
        StringBuilder bytes = new StringBuilder();
        // Model walks all orders, so seven PIANOS and more are dear.
        int n = Math.min(all.size(), random.nextInt(100) == 0 ? 7 + random.nextInt(3) : random.nextInt(7));
        for (int i = 0; i < n; i++) {
            bytes.append((char) (int) all.get(i));
        }
        if (random.nextInt(30) == 0) {
            bytes.append((char) random.nextInt(256));
        }
        putBytes(bytes.toString());
    }

    // ---- texts

    private List<String> tokens = new ArrayList<>();
    private int pianos;
    private int tuners;
    private int pupils;
    private final String[] kindNames = {"home", "school", "hall"};

    private void say(Object... some) {
        for (Object o : some) {
            tokens.add(o.toString());
        }
    }

    private int upTo(int most) {
        if (random.nextInt(1500) == 0) {
            return most + 1;
        }
        return random.nextInt(most + 1);
    }

    private int place() {
        return dense ? upTo(2) : random.nextInt(20) == 0 ? upTo(99) : upTo(9);
    }

    private int nearWeek(int weeks) {
        return random.nextInt(weeks) + (late ? 52 - weeks : 0);
    }

    private String houseText() {
        tokens = new ArrayList<>();
        pianos = 0;
        tuners = 0;
        pupils = 0;
        int many = random.nextInt(3);
        int wantPianos = many == 2 ? 9 + random.nextInt(9) : 1 + random.nextInt(dense ? 3 : 8);
        int wantTuners = random.nextInt(20) == 0 ? 7 : 1 + random.nextInt(random.nextBoolean() ? 6 : 3);
        int wantPupils = random.nextInt(random.nextInt(5) == 0 ? 8 : 5);
        sayRules();
        for (int i = 0; i < wantPianos; i++) {
            sayPiano();
        }
        for (int i = 0; i < wantTuners; i++) {
            say("tuner", "t" + (char) ('a' + tuners), place(), place());
            if (random.nextBoolean()) {
                say("fork");
                if (random.nextBoolean()) {
                    say("-");
                }
                say(random.nextInt(3) == 0 ? upTo(99) : upTo(9));
            }
            say(";");
            tuners++;
        }
        for (int i = 0; i < wantPupils; i++) {
            say("pupil", "x" + (char) ('a' + pupils), ";");
            pupils++;
        }
        for (int i = random.nextInt(12); i > 0 && pupils > 0; i--) {
            say("teach", "t" + (char) ('a' + random.nextInt(tuners)), "x" + (char) ('a' + random.nextInt(pupils)),
                upTo(random.nextBoolean() ? 3 : 99), ";");
        }
        return spoil(join());
    }

    private void sayRules() {
        if (random.nextInt(2) == 0) {
            say("table");
            int tone = 1000 + random.nextInt(random.nextInt(5) == 0 ? 99000 : 2000);
            int step = Math.max(2, tone / 13);
            for (int i = 0; i < 12; i++) {
                say(tone);
                tone += 1 + random.nextInt(step);
            }
            say(";");
        }
        for (int i = random.nextInt(4); i > 0; i--) {
            int from = nearWeek(dense ? 5 : random.nextBoolean() ? 15 : 52);
            say("damp", from, Math.min(51, from + random.nextInt(4)), upTo(40), ";");
        }
        for (int i = random.nextInt(3); i > 0; i--) {
            int from = nearWeek(random.nextBoolean() ? 10 : 52);
            say("term", from, Math.min(51, from + random.nextInt(4)), ";");
        }
        for (int i = random.nextInt(random.nextInt(20) == 0 ? 18 : 6); i > 0; i--) {
            say("fee", kindNames[random.nextInt(3)], upTo(random.nextBoolean() ? 50 : 9999),
                random.nextBoolean() ? upTo(20) : upTo(363), ";");
        }
        if (random.nextBoolean()) {
            say("sure", upTo(random.nextBoolean() ? 10 : 99), ";");
        }
        if (random.nextBoolean()) {
            say("cake", upTo(999), ";");
        }
        if (random.nextBoolean()) {
            say("walk", 1 + upTo(19), ";");
        }
        if (random.nextBoolean()) {
            say("work", 10 + upTo(110), ";");
        }
        if (random.nextBoolean()) {
            int from = random.nextInt(700);
            say("day", from, from + 1 + random.nextInt(Math.min(740, 1440 - from)), ";");
        }
    }

    private void sayPiano() {
        String name = "p" + (char) ('a' + pianos);
        String kind = kindNames[dense && random.nextBoolean() ? 2 : random.nextInt(3)];
        int ear = random.nextInt(3) == 0 ? 1 + random.nextInt(999) : 1 + random.nextInt(80);
        say("piano", name, kind, place(), place(), ear, upTo(200), upTo(random.nextBoolean() ? 9999 : 500),
            upTo(random.nextBoolean() ? 9 : 2));
        pianos++;
        if (random.nextInt(3) == 0) {
            say("stove");
        }
        for (int i = random.nextInt(3); i > 0; i--) {
            say("slip", i * 3 + random.nextInt(3), upTo(random.nextBoolean() ? 5 : 99));
        }
        for (int i = random.nextInt(3); i > 0; i--) {
            say("frail", (i + pianos) % 4, random.nextInt(6) == 0 ? 20 : upTo(20));
        }
        if (random.nextInt(3) == 0) {
            int from = random.nextInt(900);
            say("open", from, from + 1 + random.nextInt(500));
        }
        say(";");
    }

    private String recordText() {
        tokens = new ArrayList<>();
        int lines = 1 + random.nextInt(random.nextInt(5) == 0 ? 40 : 18);
        for (int i = 0; i < lines; i++) {
            sayRecord();
        }
        return spoil(join());
    }

    private String somePiano() {
        return "p" + (char) ('a' + random.nextInt(Math.max(1, real.count(0))));
    }

    private void sayRecord() {
        String[] kinds = {"tuned", "tuned", "tuned", "found", "found", "found", "broke", "paid", "ate", "concert",
            "concert", "moved", "moved"};
        String kind = kinds[random.nextInt(kinds.length)];
        List<String> halls = new ArrayList<>();
        for (int i = 0; i < real.count(0); i++) {
            if (real.piano(i, 0) == 2) {
                halls.add("p" + (char) ('a' + i));
            }
        }
        if (kind.equals("concert") && halls.isEmpty()) {
            kind = "tuned";
        }
        say(kind, kind.equals("concert") ? halls.get(random.nextInt(halls.size())) : somePiano());
        switch (kind) {
            case "tuned":
                say("t" + (char) ('a' + random.nextInt(Math.max(1, real.count(1)))));
                break;
            case "broke":
                say(upTo(3));
                break;
            case "paid":
                say(1 + upTo(9998));
                break;
            case "moved":
                say(place(), place());
                break;
            default:
        }
        int on = random.nextInt(20) == 0 ? random.nextInt(364) : nearDay(dense ? 30 : 80);
        say("on", on);
        if (random.nextInt(4) == 0) {
            say("known", kind.equals("concert") ? nearDay(100) : Math.min(363, on + random.nextInt(dense ? 8 : 30)));
        }
        if (kind.equals("tuned") || kind.equals("found")) {
            sayNotes(kind.equals("found") ? 1 : 0);
        }
        say(";");
    }

    private void sayNotes(int least) {
        int note = random.nextInt(4);
        int big = random.nextInt(3);
        boolean below = random.nextBoolean();
        for (int i = Math.max(least, random.nextInt(6)); i > 0 && note < 12; i--) {
            say(note);
            if (big == 0 ? below : random.nextBoolean()) {
                say("-");
            }
            say(big == 0 ? 140 + random.nextInt(300) : upTo(big == 1 ? 9 : 99));
            note += 1 + random.nextInt(2);
        }
    }

    private String join() {
        StringBuilder text = new StringBuilder();
        String ahead = ";";
        for (String token : tokens) {
            boolean canTouch = ahead.equals(";") || ahead.equals("-") || token.equals(";") || token.equals("-");
            if (!canTouch || random.nextInt(6) == 0) {
                text.append(random.nextInt(10) == 0 ? "\n" : " ");
            }
            text.append(token);
            ahead = token;
        }
        return text.toString();
    }

    /** Sometimes puts a fault into a text. */
    private String spoil(String text) {
        if (random.nextInt(10) < 8 || text.isEmpty()) {
            return text;
        }
        StringBuilder spoilt = new StringBuilder(text);
        int at = random.nextInt(text.length());
        String signs = "a0 ;-9z\nA{/:`\0\u00e9";
        switch (random.nextInt(6)) {
            case 0:
                spoilt.setCharAt(at, signs.charAt(random.nextInt(signs.length())));
                break;
            case 1:
                spoilt.insert(at, signs.charAt(random.nextInt(signs.length())));
                break;
            case 2:
                spoilt.deleteCharAt(at);
                break;
            case 3:
                spoilt.setLength(at);
                break;
            default:
                return spoilToken();
        }
        return spoilt.toString();
    }

    private String spoilToken() {
        int at = random.nextInt(tokens.size());
        String[] some = {"table", "home", "hall", "on", "known", "fork", "stove", "slip", "frail", "open", "pa", "pb",
            "ta", "xa", "zz", "0", "1", "11", "12", "364", "99999", "100000", "-", ";", "sure", "day", "piano", "tuned",
            "concert", "abcdefgh", "abcdefghi", "007", "00007", "000007"};
        switch (random.nextInt(4)) {
            case 0:
                tokens.set(at, some[random.nextInt(some.length)]);
                break;
            case 1:
                tokens.add(at, some[random.nextInt(some.length)]);
                break;
            case 2:
                tokens.add(at, tokens.get(random.nextInt(tokens.size())));
                break;
            default:
                tokens.remove(at);
        }
        return join();
    }
}
