import java.util.NoSuchElementException;

/** What the tests with answers worked out by hand share: a call held against its answer, texts and PIANOS on the tape. */
abstract class Checks {
    static final long THROWS = Long.MIN_VALUE;
    static final int NONE = TunerRounds.NONE;
    static final String SMALL = "piano a home 1 1 9 9 9 9;piano h hall 1 1 9 9 9 9;tuner t 1 1;pupil q;";

    static String promise = "";
    private static int wrong = 0;
    private static int checks = 0;

    interface Call {
        long answer();
    }

    static void is(String what, long want, Call call) {
        checks++;
        long got;
        try {
            got = call.answer();
        } catch (NoSuchElementException e) {
            got = THROWS;
        }
        if (got != want) {
            wrong++;
            System.out.println(promise + ": " + what + " answered " + word(got) + ", due is " + word(want));
        }
    }

    static void finish(String name) {
        System.out.println(name + ": " + checks + " checks, " + wrong + " wrong");
        System.exit(wrong == 0 ? 0 : 1);
    }

    private static String word(long v) {
        return v == THROWS ? "NoSuchElementException" : Long.toString(v);
    }

    static long bit(boolean b) {
        return b ? 1 : 0;
    }

    static void put(TunerRounds x, String bytes) {
        for (int at = 0; at < bytes.length(); at += 20) {
            int[] f = new int[5];
            for (int i = 0; i < 20; i++) {
                f[i / 4] = f[i / 4] << 8 | (at + i < bytes.length() ? bytes.charAt(at + i) : 0);
            }
            x.feed(f[0], f[1], f[2], f[3], f[4]);
        }
        x.end(bytes.length());
    }

    static void pianos(TunerRounds x, int... some) {
        StringBuilder bytes = new StringBuilder();
        for (int p : some) {
            bytes.append((char) p);
        }
        put(x, bytes.toString());
    }

    static TunerRounds told(String house, String... records) {
        TunerRounds x = new TunerRounds();
        put(x, house);
        is("house() of " + house, 1, () -> bit(x.house() >= 0));
        for (String r : records) {
            put(x, r);
            is("records() of " + r, 1, () -> bit(x.records() >= 0));
        }
        return x;
    }

    static void goodHouse(String text, int lines) {
        TunerRounds x = new TunerRounds();
        put(x, text);
        is("house() of " + text, lines, x::house);
        is("fault() of " + text, 0, x::fault);
        is("the tape is empty", 0, () -> x.count(4));
    }

    static void badHouse(String text, int kind, int place) {
        TunerRounds x = told("pupil kept;");
        put(x, text);
        is("house() of " + text, -1 - place, x::house);
        is("fault() of " + text, kind, x::fault);
        is("the HOUSE stays", 1, () -> x.count(2));
        is("the tape is empty", 0, () -> x.count(4));
    }

    static void badRecords(String text, int kind, int place) {
        TunerRounds x = told(SMALL, "ate a on 1;");
        put(x, text);
        is("records() of " + text, -1 - place, x::records);
        is("fault() of " + text, kind, x::fault);
        is("the RECORDS stay", 1, () -> x.count(3));
        is("the tape is empty", 0, () -> x.count(4));
    }

    static void goodRecords(String text, int lines) {
        TunerRounds x = told(SMALL);
        put(x, text);
        is("records() of " + text, lines, x::records);
        is("fault() of " + text, 0, x::fault);
    }

    /** The text n times, '#' being a, b, c .. */
    static String times(int n, String text) {
        StringBuilder all = new StringBuilder();
        for (int i = 0; i < n; i++) {
            all.append(text.replace('#', (char) ('a' + i)));
        }
        return all.toString();
    }

    static String blanks(int n) {
        return " ".repeat(n);
    }

    static void isRound(TunerRounds x, int tuner, int day, int[] some, int sum, int home, int... order) {
        pianos(x, some);
        is("round", sum, () -> x.round(tuner, day));
        is("the tape is empty", 0, () -> x.count(4));
        is("home", home, x::home);
        for (int i = 0; i < order.length; i++) {
            int at = i;
            is("roundAt(" + i + ")", order[i], () -> x.roundAt(at));
        }
        is("roundAt behind", NONE, () -> x.roundAt(order.length));
    }

    static void isBag(TunerRounds x, int n, int[] some, int bag, long chance) {
        pianos(x, some);
        is("bag(" + n + ")", bag, () -> x.bag(n));
        is("chance()", chance, x::chance);
        is("the tape is empty", 0, () -> x.count(4));
    }
}
