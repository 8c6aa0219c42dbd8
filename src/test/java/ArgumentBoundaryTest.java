/**
 * What holds of every call: arguments one beyond their least and greatest, and the least and greatest int; calls
 * ahead of any that would tell something; the tape, emptied or left alone; "A call that throws changes nothing."
 */
public final class ArgumentBoundaryTest extends Checks {
    private static final int LAST_DAY = 363;

    private interface Asked {
        long answer(int[] a);
    }

    public static void main(String[] args) {
        feedUpTo1240();
        endOfTape();
        factsAsked();
        stringsAsked();
        findingsAsked();
        roundsAsked();
        booksAsked();
        imagesAsked();
        nothingOfAnEmptyHouse();
        tapeIsEmptyThen();
        tapeIsLeftAlone();
        throwingChangesNothing();
        refusedTextsChangeNothing();
        restoredAsKept();
        fullOfRecords();
        countsOfAll();
        finish("ArgumentBoundaryTest");
    }

    // ---- 2, 3: the tape

    private static void feedUpTo1240() {
        promise = "2 of each number the highest first";
        TunerRounds x = new TunerRounds();
        is("feed", 20, () -> x.feed(0x70757069, 0x6c206162, 0x3b63616b, 0x6520353b, 0x73757265));
        is("house() of pupil ab;cake 5;sure", -1 - 20, x::house);
        x.feed(0x70757069, 0x6c206162, 0x3b63616b, 0x6520353b, 0x0a202020);
        is("house() of pupil ab;cake 5;", 2, x::house);
        promise = "2 how many it has";
        for (int i = 1; i <= 62; i++) {
            int n = 20 * i;
            is("feed to " + n, n, () -> x.feed(0x20202020, 0x20202020, 0x20202020, 0x20202020, 0x20202020));
        }
        promise = "2 NONE, and none come, if it would have more than 1240";
        is("feed over 1240", NONE, () -> x.feed(-1, -1, -1, -1, -1));
        is("count(4)", 1240, () -> x.count(4));
        is("end(1221)", 1, () -> bit(x.end(1221)));
        is("feed to 1241", NONE, () -> x.feed(-1, -1, -1, -1, -1));
        is("count(4)", 1221, () -> x.count(4));
        is("end(1200)", 1, () -> bit(x.end(1200)));
        is("all blanks yet", 0, x::house);
        put(x, "cake 5;" + blanks(1213));
        is("count(4)", 1220, () -> x.count(4));
        is("feed to 1240", 1240, () -> x.feed(-1, -1, -1, -1, -1));
        is("end(1200)", 1, () -> bit(x.end(1200)));
        is("house()", 1, x::house);
        is("feed of an empty tape", 20, () -> x.feed(0, 0, 0, 0, 0));
    }

    private static void endOfTape() {
        promise = "3 false, if it has not so many, or n is below 0";
        TunerRounds x = new TunerRounds();
        is("end(0) of an empty tape", 1, () -> bit(x.end(0)));
        is("end(1) of an empty tape", 0, () -> bit(x.end(1)));
        is("end(-1) of an empty tape", 0, () -> bit(x.end(-1)));
        put(x, "cake 5;pupil a;");
        for (int n : new int[] {16, 17, -1, -15, Integer.MAX_VALUE, Integer.MIN_VALUE}) {
            is("end(" + n + ")", 0, () -> bit(x.end(n)));
            is("count(4)", 15, () -> x.count(4));
        }
        promise = "3 The tape has its first n bytes alone";
        is("end(15)", 1, () -> bit(x.end(15)));
        is("count(4)", 15, () -> x.count(4));
        is("end(7)", 1, () -> bit(x.end(7)));
        is("end(8)", 0, () -> bit(x.end(8)));
        is("house()", 1, x::house);
        is("no PUPIL", 0, () -> x.count(2));
        x.feed(0x63616b65, 0x20353b78, 0, 0, 0);
        x.end(7);
        is("feed behind the cut", 27, () -> x.feed(0x70757069, 0x6c20613b, 0x20202020, 0x20202020, 0x20202020));
        is("house()", 2, x::house);
        is("a PUPIL", 1, () -> x.count(2));
    }

    // ---- no such ones

    /** A HOUSE of 16 halls, six TUNERS and PUPILS, in which every call with arguments in their bounds has an answer. */
    private static TunerRounds full() {
        StringBuilder house = new StringBuilder("table 1000 1001 1002 1003 1004 1005 1006 1007 1008 1009 1010 1011;");
        house.append("piano pa hall 0 0 999 0 0 0 stove;");
        for (char c = 'b'; c <= 'p'; c++) {
            house.append("piano p").append(c).append(" hall 0 0 999 0 0 9;");
        }
        house.append(times(6, "tuner t# 0 0;")).append(times(6, "pupil q#;")).append("fee hall 1 0;");
        String notes = " 0 1 1 1 2 1 3 1 4 1 5 1 6 1 7 1 8 1 9 1 10 1 11 1;";
        return told(house.toString(), times(16, "tuned p# ta on 0;") + "tuned pa ta on 0" + notes + "tuned pa tf on 0" + notes,
            times(16, "concert p# on 5;concert p# on 6;"), "found pa on 9 0 0;found pb on 9 0 0;");
    }

    /** Each argument in turn at its bounds and beyond, the others as in good. */
    private static void asked(String name, long none, int[] good, int[] least, int[] most, Asked call) {
        for (int i = 0; i < good.length; i++) {
            int at = i;
            for (int v : new int[] {least[i] - 1, most[i] + 1, Integer.MIN_VALUE, Integer.MAX_VALUE}) {
                is(name + ", argument " + i + " is " + v, none, () -> call.answer(with(good, at, v)));
            }
            for (int v : new int[] {least[i], most[i], good[i]}) {
                is(name + ", argument " + i + " is " + v, 1, () -> bit(call.answer(with(good, at, v)) != none));
            }
        }
    }

    private static int[] with(int[] good, int at, int v) {
        int[] a = good.clone();
        a[at] = v;
        return a;
    }

    private static int[] row(int... numbers) {
        return numbers;
    }

    private static void factsAsked() {
        TunerRounds x = full();
        promise = "7 NoSuchElementException: no such ones";
        asked("piano", THROWS, row(3, 3), row(0, 0), row(15, 9), a -> x.piano(a[0], a[1]));
        promise = "8 NONE: no such ones";
        asked("week", NONE, row(3, 0), row(0, 0), row(51, 1), a -> x.week(a[0], a[1]));
        promise = "9 NONE: no such ones, or no table";
        asked("beats", NONE, row(3, 0), row(0, 0), row(11, 3), a -> x.beats(a[0], a[1]));
        promise = "10 NONE: no such what, or no table";
        asked("wolf", NONE, row(2), row(0), row(3), a -> x.wolf(a[0]));
        promise = "9, 10 no table";
        TunerRounds bare = told("cake 5;");
        for (int what = 0; what < 4; what++) {
            int w = what;
            is("beats(0, " + w + ")", NONE, () -> bare.beats(0, w));
            is("wolf(" + w + ")", NONE, () -> bare.wolf(w));
        }
        promise = "40 NONE for another what";
        asked("count", NONE, row(0), row(0), row(6), a -> x.count(a[0]));
    }

    private static void stringsAsked() {
        TunerRounds x = full();
        promise = "11 NoSuchElementException: no such ones";
        asked("offset", THROWS, row(3, 3, 3, 3), row(0, 0, 0, NONE), row(15, 11, LAST_DAY, LAST_DAY),
            a -> x.offset(a[0], a[1], a[2], a[3]));
        promise = "12 -2: no such ones";
        asked("off", -2, row(3, 3, 3), row(0, 0, NONE), row(15, LAST_DAY, LAST_DAY), a -> x.off(a[0], a[1], a[2]));
        promise = "13 -2: no such ones";
        asked("due", -2, row(3, 3, 3, 0), row(0, 0, NONE, 0), row(15, LAST_DAY, LAST_DAY, 2),
            a -> x.due(a[0], a[1], a[2], a[3]));
        promise = "20 NONE: no such ones";
        asked("weight", NONE, row(3, 3), row(0, 0), row(15, LAST_DAY), a -> x.weight(a[0], a[1]));
    }

    private static void findingsAsked() {
        TunerRounds x = full();
        promise = "14 -2: no such ones";
        asked("slips", -2, row(3, 3), row(0, NONE), row(15, LAST_DAY), a -> x.slips(a[0], a[1]));
        promise = "15 NoSuchElementException: ahead of any, another what";
        TunerRounds y = full();
        for (int what = -1; what < 3; what++) {
            int w = what;
            is("slipped(" + w + ") ahead of any", THROWS, () -> y.slipped(w));
        }
        is("slips() that tells no NOTE", NONE, () -> y.slips(3, NONE));
        is("slipped(0) ahead of any that told a NOTE", THROWS, () -> y.slipped(0));
        is("slips()", 0, () -> y.slips(1, NONE));
        asked("slipped", THROWS, row(0), row(0), row(1), a -> y.slipped(a[0]));
        promise = "16 NoSuchElementException: no such ones";
        asked("stove", THROWS, row(NONE, 0), row(NONE, 0), row(LAST_DAY, 1), a -> x.stove(a[0], a[1]));
        promise = "17 NoSuchElementException: no such ones";
        asked("lean", THROWS, row(0, 3, 3, 0), row(0, 0, NONE, 0), row(5, 11, LAST_DAY, 1),
            a -> x.lean(a[0], a[1], a[2], a[3]));
        promise = "18 NONE: no PIANOS, or no such K";
        asked("batch", NONE, row(0), row(NONE), row(LAST_DAY), a -> x.batch(a[0]));
        promise = "19 NONE: no such ones";
        asked("cracked", NONE, row(3, 3), row(0, NONE), row(15, LAST_DAY), a -> x.cracked(a[0], a[1]));
    }

    private static void roundsAsked() {
        TunerRounds x = full();
        promise = "21 NONE: not as told";
        asked("round", NONE, row(0, 3), row(0, 0), row(5, LAST_DAY), a -> x.round(a[0], a[1]));
        promise = "24 NONE: not as told";
        asked("walked", NONE, row(0, 3), row(0, 0), row(5, LAST_DAY), a -> x.walked(a[0], a[1]));
        promise = "25 NONE: not as told, or one TUNER";
        asked("two", NONE, row(1, 2, 3), row(0, 0, 0), row(5, 5, LAST_DAY), a -> x.two(a[0], a[1], a[2]));
        for (int t = 0; t < 6; t++) {
            int one = t;
            is("one TUNER", NONE, () -> x.two(one, one, 3));
        }
        promise = "26 -2: not as told";
        asked("festival", -2, row(3), row(0), row(LAST_DAY), a -> x.festival(a[0]));
        promise = "the tape's PIANOS: (0 to 9 unlike PIANOS)";
        isTape(x, 1, 15);
        isTape(x, 0, 16);
        isTape(x, 0, 255);
        isTape(x, 0, 128);
        isTape(x, 1, 15, 14);
        isTape(x, 0, 15, 15);
        isTape(x, 0, 15, 0, 15);
        isTape(x, 0, 14, 15, 16);
        isTape(x, 1, 0, 1, 2, 3, 4, 5, 6, 7);
        isTape(x, 1, 0, 1, 2, 3, 4, 5, 6, 7, 8);
        isTape(x, 0, 0, 1, 2, 3, 4, 5, 6, 7, 0);
        isTape(x, 0, 0, 1, 2, 3, 4, 5, 6, 7, 16);
        isTape(x, 0, 0, 1, 2, 3, 4, 5, 6, 7, 8, 9);
        isTape(x, 0, 0, 1, 2, 3, 4, 5, 6, 7, 8, 9, 10, 11, 12, 13, 14, 15);
        isTape(x, 1);
        promise = "34 NONE: not as told";
        asked("bag", NONE, row(3), row(0), row(12), a -> {
            pianos(x, 0, 1);
            return x.bag(a[0]);
        });
        promise = "34 for the tape's PIANOS (1 to 8 unlike ones)";
        isBagTape(x, 0);
        isBagTape(x, 1, 15);
        isBagTape(x, 0, 16);
        isBagTape(x, 0, 255);
        isBagTape(x, 1, 14, 15);
        isBagTape(x, 0, 15, 15);
        isBagTape(x, 1, 0, 1, 2, 3, 4, 5, 6, 7);
        isBagTape(x, 0, 0, 1, 2, 3, 4, 5, 6, 0);
        isBagTape(x, 0, 0, 1, 2, 3, 4, 5, 6, 7, 8);
        promise = "22 NONE: there is none such, or ahead of any";
        TunerRounds y = full();
        is("roundAt(0) ahead of any", NONE, () -> y.roundAt(0));
        is("home() ahead of any", NONE, y::home);
        pianos(y, 4, 2);
        y.round(0, 3);
        asked("roundAt", NONE, row(0), row(0), row(1), a -> y.roundAt(a[0]));
    }

    private static void isTape(TunerRounds x, int isGood, int... some) {
        pianos(x, some);
        is("round() of " + some.length, isGood, () -> bit(x.round(0, 3) != NONE));
        pianos(x, some);
        is("walked() of " + some.length, isGood, () -> bit(x.walked(0, 3) != NONE));
        pianos(x, some);
        is("two() of " + some.length, isGood, () -> bit(x.two(0, 1, 3) != NONE));
        pianos(x, some);
        is("festival() of " + some.length, isGood, () -> bit(x.festival(3) != -2));
    }

    private static void isBagTape(TunerRounds x, int isGood, int... some) {
        pianos(x, some);
        is("bag() of " + some.length, isGood, () -> bit(x.bag(3) != NONE));
    }

    private static void booksAsked() {
        TunerRounds x = full();
        promise = "27 NONE: no such ones, no hall";
        asked("unready", NONE, row(3, 3), row(0, NONE), row(15, LAST_DAY), a -> x.unready(a[0], a[1]));
        promise = "28 NONE: no such ones";
        asked("whose", NONE, row(3, 0, 3), row(0, 0, NONE), row(15, 1, LAST_DAY), a -> x.whose(a[0], a[1], a[2]));
        promise = "29 NONE: no such ones";
        asked("fee", NONE, row(3, 3), row(0, 0), row(15, LAST_DAY), a -> x.fee(a[0], a[1]));
        promise = "30 NoSuchElementException: no such ones";
        asked("owed", THROWS, row(3, 3, 3), row(0, 0, NONE), row(15, LAST_DAY, LAST_DAY), a -> x.owed(a[0], a[1], a[2]));
        promise = "31 NONE: no such ones";
        asked("free", NONE, row(3, 3, 3), row(0, 0, NONE), row(15, LAST_DAY, LAST_DAY), a -> x.free(a[0], a[1], a[2]));
        promise = "32 NONE: no such ones";
        asked("tunings", NONE, row(3, 3, 3), row(0, 0, NONE), row(15, LAST_DAY, LAST_DAY),
            a -> x.tunings(a[0], a[1], a[2]));
        promise = "33 NONE: no such ones";
        asked("past", NONE, row(3, 3, 3), row(0, 0, NONE), row(15, LAST_DAY, LAST_DAY), a -> x.past(a[0], a[1], a[2]));
        promise = "37 NONE: none, or ahead of any";
        is("pupilOf(0) ahead of any", NONE, () -> x.pupilOf(0));
        x.pupils();
        asked("pupilOf", NONE, row(3), row(0), row(5), a -> x.pupilOf(a[0]));
        promise = "27, 28 no hall";
        TunerRounds y = told("piano a home 0 0 9 0 0 0;piano s school 0 0 9 0 0 0;piano h hall 0 0 9 0 0 0;", "concert h on 5;");
        int[] unready = {NONE, NONE, 1};
        for (int p = 0; p < 3; p++) {
            int at = p;
            is("unready(" + p + ")", unready[p], () -> y.unready(at, NONE));
            is("whose(" + p + ")", unready[p], () -> y.whose(at, 0, NONE));
        }
    }

    private static void imagesAsked() {
        promise = "38 place k (0 or 1): true; false: no such one";
        TunerRounds x = told("pupil a;");
        promise = "39 false: nothing is kept there";
        is("restore(0)", 0, () -> bit(x.restore(0)));
        is("restore(1)", 0, () -> bit(x.restore(1)));
        for (int k : new int[] {-1, 2, Integer.MIN_VALUE, Integer.MAX_VALUE}) {
            is("image(" + k + ")", 0, () -> bit(x.image(k)));
            is("restore(" + k + ")", 0, () -> bit(x.restore(k)));
        }
        is("image(1)", 1, () -> bit(x.image(1)));
        is("restore(0) yet", 0, () -> bit(x.restore(0)));
        put(x, "pupil a;pupil b;");
        x.house();
        is("restore(0) that is false", 0, () -> bit(x.restore(0)));
        is("leaves the HOUSE", 2, () -> x.count(2));
        is("image(0)", 1, () -> bit(x.image(0)));
        is("restore(1)", 1, () -> bit(x.restore(1)));
        is("one PUPIL", 1, () -> x.count(2));
        is("restore(0)", 1, () -> bit(x.restore(0)));
        is("two PUPILS", 2, () -> x.count(2));
        is("image(1) again", 1, () -> bit(x.image(1)));
        x.house();
        is("restore(1) is the latest kept", 1, () -> bit(x.restore(1)));
        is("two PUPILS", 2, () -> x.count(2));
        for (int k : new int[] {-1, 2}) {
            is("restore(" + k + ") when both are kept", 0, () -> bit(x.restore(k)));
        }
        TunerRounds empty = new TunerRounds();
        is("image(0) of the empty HOUSE", 1, () -> bit(empty.image(0)));
        put(empty, "pupil a;");
        empty.house();
        is("restore(0) of the empty HOUSE", 1, () -> bit(empty.restore(0)));
        is("no PUPILS", 0, () -> empty.count(2));
    }

    private static void nothingOfAnEmptyHouse() {
        promise = "1 An empty HOUSE, no RECORDS; an empty tape";
        TunerRounds x = new TunerRounds();
        for (int what = 0; what < 7; what++) {
            int w = what;
            is("count(" + w + ")", 0, () -> x.count(w));
        }
        is("piano", THROWS, () -> x.piano(0, 0));
        is("offset", THROWS, () -> x.offset(0, 0, 0, NONE));
        is("off", -2, () -> x.off(0, 0, NONE));
        is("due", -2, () -> x.due(0, 0, NONE, 0));
        is("slips", -2, () -> x.slips(0, NONE));
        is("slipped", THROWS, () -> x.slipped(0));
        is("stove", THROWS, () -> x.stove(NONE, 0));
        is("lean", THROWS, () -> x.lean(0, 0, NONE, 0));
        is("batch", NONE, () -> x.batch(NONE));
        is("batch AS KNOWN", NONE, () -> x.batch(0));
        is("cracked", NONE, () -> x.cracked(0, NONE));
        is("weight", NONE, () -> x.weight(0, 0));
        is("round", NONE, () -> x.round(0, 0));
        is("walked", NONE, () -> x.walked(0, 0));
        is("two", NONE, () -> x.two(0, 1, 0));
        is("festival of no PIANOS", 0, () -> x.festival(0));
        pianos(x, 0);
        is("festival of a PIANO that is none", -2, () -> x.festival(0));
        is("unready", NONE, () -> x.unready(0, NONE));
        is("whose", NONE, () -> x.whose(0, 0, NONE));
        is("fee", NONE, () -> x.fee(0, 0));
        is("owed", THROWS, () -> x.owed(0, 0, NONE));
        is("free", NONE, () -> x.free(0, 0, NONE));
        is("tunings", NONE, () -> x.tunings(0, 0, NONE));
        is("past", NONE, () -> x.past(0, 0, NONE));
        is("bag", NONE, () -> x.bag(0));
        is("chance", 0, x::chance);
        is("pupils", NONE, x::pupils);
        is("pupilOf", NONE, () -> x.pupilOf(0));
        is("fault", 0, x::fault);
    }

    // ---- the tape, and calls that throw

    private static void tapeIsEmptyThen() {
        promise = "4 The tape (empty then, here and below)";
        TunerRounds x = full();
        String[] names = {"house", "records", "round", "round of no TUNER", "walked", "walked of no day", "two",
            "two of one TUNER", "festival", "festival of no day", "bag", "bag of 13"};
        for (int i = 0; i < names.length; i++) {
            int call = i;
            for (int[] some : new int[][] {{1, 2}, {200}, {1, 1}, {0, 1, 2, 3, 4, 5, 6, 7, 8, 9}}) {
                pianos(x, some);
                readTape(x, call);
                is(names[i] + " of " + some.length, 0, () -> x.count(4));
            }
        }
        put(x, "cake 5;");
        x.house();
        is("house() without a FAULT", 0, () -> x.count(4));
        put(x, " ");
        x.records();
        is("records() without a FAULT", 0, () -> x.count(4));
    }

    private static void readTape(TunerRounds x, int call) {
        switch (call) {
            case 0 -> x.house();
            case 1 -> x.records();
            case 2 -> x.round(0, 0);
            case 3 -> x.round(6, 0);
            case 4 -> x.walked(0, 0);
            case 5 -> x.walked(0, 364);
            case 6 -> x.two(0, 1, 0);
            case 7 -> x.two(1, 1, 0);
            case 8 -> x.festival(0);
            case 9 -> x.festival(-1);
            case 10 -> x.bag(0);
            default -> x.bag(13);
        }
    }

    private static void tapeIsLeftAlone() {
        promise = "calls that do not read the tape leave it";
        TunerRounds x = full();
        put(x, "cake 5;");
        x.fault();
        x.piano(0, 0);
        x.week(0, 0);
        x.beats(0, 0);
        x.wolf(0);
        x.offset(0, 0, 0, NONE);
        x.off(0, 0, NONE);
        x.due(0, 0, NONE, 0);
        x.slips(0, NONE);
        x.slipped(0);
        x.stove(NONE, 0);
        x.lean(0, 0, NONE, 0);
        x.batch(NONE);
        x.cracked(0, NONE);
        x.weight(0, 0);
        x.roundAt(0);
        x.home();
        x.unready(0, NONE);
        x.whose(0, 0, NONE);
        x.fee(0, 0);
        x.owed(0, 0, NONE);
        x.free(0, 0, NONE);
        x.tunings(0, 0, NONE);
        x.past(0, 0, NONE);
        x.chance();
        x.pupils();
        x.pupilOf(0);
        x.image(0);
        x.restore(0);
        x.count(4);
        is("count(4)", 7, () -> x.count(4));
        is("house()", 1, x::house);
    }

    private static void throwingChangesNothing() {
        promise = "A call that throws changes nothing.";
        TunerRounds x = told("piano a home 0 0 10 0 0 0 frail 0 10;piano b home 0 0 10 0 0 0;tuner t 0 0;tuner u 0 0;pupil q;teach t q 9;",
            "tuned a t on 0 0 9;found a on 6 0 -1;");
        is("slips()", 0, () -> x.slips(0, NONE));
        pianos(x, 1, 0);
        x.round(0, 20);
        pianos(x, 0);
        x.bag(0);
        x.pupils();
        put(x, "ate z on 1;");
        x.records();
        put(x, "five5");
        Call[] throwing = {() -> x.piano(2, 0), () -> x.piano(0, 10), () -> x.offset(1, 0, 0, NONE),
            () -> x.offset(0, 12, 0, NONE), () -> x.offset(0, 0, 364, NONE), () -> x.slipped(2), () -> x.stove(NONE, 0),
            () -> x.stove(364, 0), () -> x.stove(NONE, 2), () -> x.lean(0, 5, NONE, 0), () -> x.lean(1, 0, NONE, 0),
            () -> x.lean(2, 0, NONE, 0), () -> x.lean(0, 0, NONE, 2), () -> x.owed(2, 0, NONE), () -> x.owed(0, 364, NONE),
            () -> x.owed(0, 0, -2)};
        for (int i = 0; i < throwing.length; i++) {
            is("call " + i, THROWS, throwing[i]);
            is("the tape", 5, () -> x.count(4));
            is("fault()", 3, x::fault);
            is("slipped(0)", 5, () -> x.slipped(0));
            is("slipped(1)", 3, () -> x.slipped(1));
            is("roundAt(0)", 0, () -> x.roundAt(0));
            is("home()", 600, x::home);
            is("chance()", 500000000000000L, x::chance);
            is("pupilOf(0)", 0, () -> x.pupilOf(0));
            is("PIANOS", 2, () -> x.count(0));
            is("RECORDS", 2, () -> x.count(3));
            is("offset", 9, () -> x.offset(0, 0, 0, NONE));
        }
    }

    // ---- refused texts, images, 200 RECORDS: all answers

    private static final String RICH = "table 1000 1060 1120 1190 1260 1330 1410 1500 1590 1680 1780 1890;damp 1 1 30;term 2 2;"
        + "fee hall 50 0;fee home 40 3;sure 5;cake 7;walk 3;work 20;day 400 1000;piano a hall 2 3 40 5 60 1 stove slip 0 2 frail 0 5;"
        + "piano b hall 1 1 30 5 60 2 frail 1 7 open 10 900;tuner t 0 0 fork 2;tuner u 5 5;pupil q;pupil r;teach t q 4;teach u q 9;";
    private static final String RICH_RECORDS = "tuned a t on 1 0 5 3 -4;found a on 8 0 -20 1 -7 2 -7;concert a on 9;tuned b u on 2 1 6;"
        + "found b on 6 1 -5 2 0;moved b 4 4 on 3;paid a 9 on 4;ate a on 5;broke b 1 on 7;concert b on 11 known 10;";
    private static final String[] OTHER_LINES = {"tuned a u on 9 0 30 1 30 2 30 4 30;", "tuned b t on 6 1 9;",
        "found a on 10 0 -330 1 -330 2 -330;", "found b on 8 3 -99;", "broke a 0 on 1;", "paid a 99 on 1;", "ate b on 1;",
        "concert a on 30;", "concert b on 3;", "moved a 9 9 on 1;", "moved b 0 0 on 4;"};

    /** Some 250 answers that the HOUSE and the RECORDS give, as one text. */
    private static String answers(TunerRounds x) {
        StringBuilder all = new StringBuilder();
        for (int what = 0; what < 7; what++) {
            all.append(' ').append(what == 4 ? 0 : x.count(what));
        }
        for (int p = 0; p < 2; p++) {
            for (int day : new int[] {2, 9, 20, 363}) {
                for (int known : new int[] {NONE, 7, 10}) {
                    int at = p;
                    all.append(' ').append(orThrows(() -> x.offset(at, 0, day, known)));
                    all.append(' ').append(x.off(p, day, known)).append(' ').append(x.due(p, day, known, 0));
                    all.append(' ').append(x.owed(p, day, known)).append(' ').append(x.free(p, day, known));
                    all.append(' ').append(x.tunings(p, day, known)).append(' ').append(x.past(p, day, known));
                }
                all.append(' ').append(x.weight(p, day)).append(' ').append(x.fee(p, day));
            }
            all.append(" slips ").append(x.slips(p, NONE)).append(' ').append(orThrows(() -> x.slipped(0)));
            all.append(' ').append(x.cracked(p, NONE)).append(' ').append(x.unready(p, NONE));
            all.append(' ').append(x.whose(p, 0, NONE)).append(' ').append(x.whose(p, 1, NONE));
        }
        for (int note = 0; note < 5; note++) {
            int at = note;
            all.append(' ').append(orThrows(() -> x.lean(0, at, NONE, 0))).append(' ').append(orThrows(() -> x.lean(1, at, NONE, 0)));
            all.append(' ').append(x.week(note, 0)).append(' ').append(x.week(note, 1)).append(' ').append(x.beats(note, 2));
        }
        all.append(" stove ").append(orThrows(() -> x.stove(NONE, 0))).append(" batch ").append(x.batch(NONE));
        all.append(" pupils ").append(x.pupils()).append(' ').append(x.pupilOf(0)).append(" tape ");
        for (int day : new int[] {3, 9}) {
            pianos(x, 1, 0);
            all.append(' ').append(x.round(0, day)).append(' ').append(x.home());
            pianos(x, 1, 0);
            all.append(' ').append(x.walked(1, day));
            pianos(x, 1, 0);
            all.append(' ').append(x.two(0, 1, day));
            pianos(x, 1, 0);
            all.append(' ').append(x.festival(day));
        }
        pianos(x, 0, 1);
        return all.append(' ').append(x.bag(1)).append(' ').append(x.chance()).toString();
    }

    private static String orThrows(Call call) {
        try {
            return "" + call.answer();
        } catch (java.util.NoSuchElementException e) {
            return "throws";
        }
    }

    private static void isAlike(String what, String want, TunerRounds x) {
        String got = answers(x);
        is(what + (got.equals(want) ? "" : ": " + got + " and not " + want), 1, () -> bit(got.equals(want)));
    }

    private static void refusedTextsChangeNothing() {
        promise = "5 -1 less the place of a FAULT: none come";
        String want = answers(told(RICH, RICH_RECORDS));
        for (String line : OTHER_LINES) {
            TunerRounds x = told(RICH, RICH_RECORDS);
            put(x, line + ".");
            is("records() of " + line + ".", -1 - line.length(), x::records);
            isAlike("refused: " + line, want, x);
            TunerRounds y = told(RICH, RICH_RECORDS);
            put(y, line);
            y.records();
            is("taken: " + line, 0, () -> bit(answers(y).equals(want)));
        }
        promise = "4 -1 less the place of a FAULT: it stays";
        String[] lines = RICH.split(";");
        for (String line : lines) {
            TunerRounds x = told(RICH, RICH_RECORDS);
            String other = line.startsWith("teach") ? "tuner t 9 9;pupil q;teach t q 1;" : line.replace("1", "2") + ";";
            put(x, other + ".");
            is("house() of " + other + ".", 1, () -> bit(x.house() < 0));
            isAlike("refused: " + other, want, x);
        }
    }

    private static void restoredAsKept() {
        promise = "39 HOUSE and RECORDS are as kept in place k";
        String want = answers(told(RICH, RICH_RECORDS));
        for (int k = 0; k < 2; k++) {
            for (String line : OTHER_LINES) {
                TunerRounds x = told(RICH, RICH_RECORDS);
                x.image(k);
                put(x, line.repeat(3));
                x.records();
                x.image(1 - k);
                x.restore(k);
                isAlike("restored behind " + line, want, x);
            }
            TunerRounds y = told(RICH, RICH_RECORDS);
            y.image(k);
            put(y, "damp 0 51 1;term 0 51;sure 1;cake 1;walk 1;work 10;day 1 2;fee hall 1 1;fee home 1 1;piano x home 9 9 9 9 9 9;"
                + "piano y home 9 9 9 9 9 9 stove;piano z home 9 9 9 9 9 9;tuner v 9 9 fork 9;tuner w 9 9;pupil o;pupil p;teach w p 3;");
            y.house();
            put(y, "tuned x v on 1 0 9 1 9 2 9 3 9 4 9;".repeat(12));
            y.records();
            y.image(1 - k);
            y.restore(k);
            isAlike("restored behind another HOUSE", want, y);
        }
    }

    private static void fullOfRecords() {
        promise = "200 RECORDS, and every call has its answer";
        for (String line : OTHER_LINES) {
            TunerRounds x = told(RICH, RICH_RECORDS);
            for (int i = 0; i < 3; i++) {
                put(x, "ate b on 1;".repeat(60));
                x.records();
            }
            put(x, line.repeat(10));
            is("RECORDS", 200, x::records);
            is("an answer", 1, () -> bit(answers(x).length() > 500));
            put(x, line);
            is("a 201st", -1, x::records);
            is("an image", 1, () -> bit(x.image(0)));
            is("restored", 1, () -> bit(x.restore(0)));
            is("RECORDS", 200, () -> x.count(3));
        }
        promise = "200 FOUND: the last two are CRACKED";
        TunerRounds found = told("piano a home 0 0 9 0 0 0;");
        for (int i = 0; i < 9; i++) {
            put(found, "found a on 5 0 1 1 1 2 1;".repeat(22));
            found.records();
        }
        put(found, "found a on 5 0 1 1 1 2 1;");
        is("199 RECORDS", 199, found::records);
        is("not CRACKED", 0, () -> found.cracked(0, NONE));
        put(found, "found a on 5 0 301 1 301 2 301;");
        is("200 RECORDS", 200, found::records);
        is("CRACKED", 1, () -> found.cracked(0, NONE));
    }

    private static void countsOfAll() {
        promise = "40 PIANOS, TUNERS, PUPILS, RECORDS, bytes of the tape, concerts told, fees";
        TunerRounds x = full();
        int[] due = {16, 6, 6, 52, 0, 32, 1};
        for (int what = 0; what < 7; what++) {
            int w = what;
            is("count(" + w + ")", due[w], () -> x.count(w));
        }
        x.feed(0, 0, 0, 0, 0);
        is("count(4)", 20, () -> x.count(4));
        x.end(19);
        is("count(4)", 19, () -> x.count(4));
        is("count(5) of concerts known later", 1, () -> told(SMALL, "concert h on 5 known 363;ate h on 5;").count(5));
    }
}
