/**
 * The boundary cases that the document names for beats, for where strings stand, when they are DUE and what the
 * RECORDS tell of them, each sentence with a test of its own, on both sides of the boundary where it has two.
 */
public final class StringBoundaryTest extends Checks {
    private static final String ONE = "piano a home 0 0 10 0 0 0;tuner t 0 0;";
    private static final String DEAF = "piano a home 0 0 999 0 0 0 slip 0 2;tuner t 0 0;";

    public static void main(String[] args) {
        beatsAcrossTheOctave();
        wolfOfLikeOnes();
        asKnown();
        ofADay();
        leftAndFork();
        slipOfEachDay();
        movedDays();
        stoveWeeks();
        dampWeeks();
        offWithoutSign();
        beyondEar();
        dueToTheEnd();
        dueByRecordsOfTheDay();
        earlyAndLate();
        pairsOfAnEarlierDay();
        slipsAsFractions();
        slippedInLeastNumbers();
        stovesOfEither();
        leansToldAlone();
        batchesByPiano();
        crackedDays();
        crackedNotes();
        crackedNeighbours();
        weightOfConcerts();
        weightBeyond();
        finish("StringBoundaryTest");
    }

    // ---- 9, 10

    private static void beatsAcrossTheOctave() {
        promise = "9 (f, the octave above twice)";
        TunerRounds x = told("table 1000 1060 1120 1190 1260 1330 1410 1500 1590 1680 1780 1890;");
        int[][] due = {{4, 0, 0}, {5, 0, 10}, {11, 0, 30}, {0, 0, 0}, {7, 1, 60}, {8, 1, 50}, {11, 1, 70}, {0, 1, 40},
            {8, 2, 90}, {9, 2, 80}, {11, 2, 140}, {0, 2, 50}, {6, 3, 30}, {7, 3, 0}, {11, 3, 0}, {0, 3, 10}};
        for (int[] d : due) {
            is("beats(" + d[0] + ", " + d[1] + ")", d[2], () -> x.beats(d[0], d[1]));
        }
        promise = "9 the greatest table";
        TunerRounds high = told("table 99988 99989 99990 99991 99992 99993 99994 99995 99996 99997 99998 99999;");
        is("beats(0, 0)", 99974, () -> high.beats(0, 0));
        is("beats(11, 0)", 2 * 2 * 99994 - 3 * 99999, () -> high.beats(11, 0));
        is("beats(11, 2)", 5 * 2 * 99990 - 6 * 99999, () -> high.beats(11, 2));
    }

    private static void wolfOfLikeOnes() {
        promise = "10 of like ones the least";
        // NOTE 1: 3 times 1150 less 2 times 1460 is 530; none has more.
        is("wolf(0) at NOTE 1", 1, () -> told("table 1000 1150 1160 1200 1290 1350 1370 1430 1460 1760 1830 1870;").wolf(0));
        String[] tables = {"1000 1010 1070 1130 1190 1220 1260 1330 1420 1490 1550 1650",
            "1000 1010 1160 1200 1350 1360 1440 1510 1520 1530 1580 1650",
            "1000 1040 1070 1100 1120 1190 1340 1440 1520 1560 1650 1670",
            "1000 1060 1070 1160 1260 1310 1330 1380 1470 1560 1620 1720",
            "1000 1150 1300 1450 1510 1600 1750 1800 1810 1850 1930 1990",
            "1000 1060 1150 1250 1310 1340 1400 1450 1540 1560 1610 1760",
            "1000 1080 1120 1270 1340 1440 1450 1520 1670 1760 1840 1940",
            "1000 1080 1090 1120 1220 1260 1280 1320 1400 1460 1550 1610"};
        int[][] due = {{0, 0, 5}, {0, 9, 11}, {1, 0, 9}, {1, 9, 11}, {2, 0, 6}, {2, 10, 11}, {3, 0, 9}, {3, 8, 11}};
        for (int i = 0; i < tables.length; i++) {
            TunerRounds x = told("table " + tables[i] + ";");
            int[] d = due[i];
            is("as many BEATS at both", 0, () -> x.beats(d[1], d[0]) - x.beats(d[2], d[0]));
            is("wolf(" + d[0] + ")", d[1], () -> x.wolf(d[0]));
        }
    }

    // ---- AS KNOWN, OF

    private static void asKnown() {
        promise = "AS KNOWN on day K (0 to 363; NONE: all): RECORDS known later are left out";
        TunerRounds x = told(ONE, "tuned a t on 0 0 1;tuned a t on 0 known 1 0 2;tuned a t on 0 known 363 0 3;");
        is("K 0", 1, () -> x.offset(0, 0, 0, 0));
        is("K 1", 2, () -> x.offset(0, 0, 0, 1));
        is("K 362", 2, () -> x.offset(0, 0, 0, 362));
        is("K 363", 3, () -> x.offset(0, 0, 0, 363));
        is("all", 3, () -> x.offset(0, 0, 0, NONE));
        is("K -2", THROWS, () -> x.offset(0, 0, 0, -2));
        is("K 364", THROWS, () -> x.offset(0, 0, 0, 364));
        TunerRounds y = told(ONE, "tuned a t on 363;");
        is("K 362", NONE, () -> y.off(0, 363, 362));
        is("K 363", 0, () -> y.off(0, 363, 363));
    }

    private static void ofADay() {
        promise = "OF a day: of those on that day or ahead the one on the latest day";
        TunerRounds x = told(ONE, "tuned a t on 20 0 1;tuned a t on 10 0 2;tuned a t on 30 0 3;");
        is("day 9", THROWS, () -> x.offset(0, 0, 9, NONE));
        is("day 10", 2, () -> x.offset(0, 0, 10, NONE));
        is("day 19", 2 - 9, () -> x.offset(0, 0, 19, NONE));
        is("day 20", 1, () -> x.offset(0, 0, 20, NONE));
        is("day 29", 1 - 9, () -> x.offset(0, 0, 29, NONE));
        is("day 30", 3, () -> x.offset(0, 0, 30, NONE));
        promise = "OF a day: (of like ones the one told last)";
        TunerRounds y = told(ONE, "tuned a t on 20 0 1;tuned a t on 20 0 2;tuned a t on 10 0 3;");
        is("day 20", 2, () -> y.offset(0, 0, 20, NONE));
        put(y, "tuned a t on 20 known 25 0 4;");
        y.records();
        is("of those known", 2, () -> y.offset(0, 0, 20, 24));
        is("told last and known", 4, () -> y.offset(0, 0, 20, 25));
    }

    // ---- 11

    private static void leftAndFork() {
        promise = "11 what was left of that NOTE (0 where not told) and the TUNER's fork";
        TunerRounds x = told("piano a home 0 0 10 0 0 0;tuner t 0 0 fork 99;tuner u 0 0 fork -99;",
            "tuned a t on 1 0 999 11 -999;tuned a u on 2 0 999 11 -999;");
        is("left and fork above", 1098, () -> x.offset(0, 0, 1, NONE));
        is("left below, fork above", -900, () -> x.offset(0, 11, 1, NONE));
        is("not told, fork above", 99, () -> x.offset(0, 5, 1, NONE));
        is("left above, fork below", 900, () -> x.offset(0, 0, 2, NONE));
        is("left and fork below", -1098, () -> x.offset(0, 11, 2, NONE));
        is("not told, fork below", -99, () -> x.offset(0, 5, 2, NONE));
        is("off", 1098, () -> x.off(0, 2, NONE));
    }

    private static void slipOfEachDay() {
        promise = "11 less, for each day behind that one up to d, its slip";
        TunerRounds x = told("piano a home 0 0 999 0 0 0 slip 0 0 slip 11 99;tuner t 0 0;", "tuned a t on 0;");
        is("no day, slip 99", 0, () -> x.offset(0, 11, 0, NONE));
        is("a day, slip 99", -99, () -> x.offset(0, 11, 1, NONE));
        is("two days, slip 99", -198, () -> x.offset(0, 11, 2, NONE));
        is("363 days, slip 99", -99 * 363, () -> x.offset(0, 11, 363, NONE));
        is("363 days, slip 0", 0, () -> x.offset(0, 0, 363, NONE));
        is("a day, slip not told", -1, () -> x.offset(0, 5, 1, NONE));
        is("363 days, slip not told", -363, () -> x.offset(0, 5, 363, NONE));
    }

    private static void movedDays() {
        promise = "11 three times, if the PIANO was MOVED 1 to 21 days ahead of that day";
        TunerRounds x = told(DEAF, "tuned a t on 0;moved a 1 1 on 100;");
        int[][] due = {{99, -198}, {100, -200}, {101, -206}, {102, -212}, {120, -320}, {121, -326}, {122, -328}, {123, -330}};
        for (int[] d : due) {
            is("day " + d[0], d[1], () -> x.offset(0, 0, d[0], NONE));
        }
        promise = "11 three times, MOVED twice";
        TunerRounds twice = told(DEAF, "tuned a t on 0;moved a 1 1 on 100;moved a 2 2 on 100;moved a 3 3 on 121;");
        is("day 100", -200, () -> twice.offset(0, 0, 100, NONE));
        is("day 101", -206, () -> twice.offset(0, 0, 101, NONE));
        is("day 121", -326, () -> twice.offset(0, 0, 121, NONE));
        is("day 122", -332, () -> twice.offset(0, 0, 122, NONE));
        is("day 142", -452, () -> twice.offset(0, 0, 142, NONE));
        is("day 143", -454, () -> twice.offset(0, 0, 143, NONE));
        promise = "11 MOVED ahead of the TUNED day";
        TunerRounds ahead = told(DEAF, "moved a 1 1 on 79;moved a 1 1 on 80;tuned a t on 100;");
        is("21 days behind the second", -6, () -> ahead.offset(0, 0, 101, NONE));
        is("22 days behind it", -8, () -> ahead.offset(0, 0, 102, NONE));
        TunerRounds over = told(DEAF, "moved a 1 1 on 79;tuned a t on 100;");
        is("22 days behind the first", -2, () -> over.offset(0, 0, 101, NONE));
        promise = "11 MOVED on the first and the last days";
        TunerRounds first = told(DEAF, "moved a 1 1 on 0;tuned a t on 0;moved a 1 1 on 362;");
        is("day 1", -6, () -> first.offset(0, 0, 1, NONE));
        is("day 21", -126, () -> first.offset(0, 0, 21, NONE));
        is("day 22", -128, () -> first.offset(0, 0, 22, NONE));
        is("day 362", -808, () -> first.offset(0, 0, 362, NONE));
        is("day 363", -814, () -> first.offset(0, 0, 363, NONE));
        promise = "11 MOVED AS KNOWN";
        TunerRounds late = told(DEAF, "tuned a t on 0;moved a 1 1 on 100 known 110;");
        is("K 109", -202, () -> late.offset(0, 0, 101, 109));
        is("K 110", -206, () -> late.offset(0, 0, 101, 110));
        promise = "11 MOVED is another PIANO";
        TunerRounds other = told(DEAF + "piano b home 0 0 9 0 0 0;", "tuned a t on 0;moved b 1 1 on 100;");
        is("day 101", -202, () -> other.offset(0, 0, 101, NONE));
    }

    private static void stoveWeeks() {
        promise = "11 2 more with a stove in a WEEK up to 8 or from 44 on";
        String stove = "piano a home 0 0 999 0 0 0 stove slip 0 0;piano b home 0 0 999 0 0 0 slip 0 0;tuner t 0 0;";
        TunerRounds x = told(stove, "tuned a t on 0;tuned b t on 0;");
        int[][] due = {{0, 0}, {1, -2}, {55, -110}, {62, -124}, {63, -124}, {64, -124}, {300, -124}, {307, -124}, {308, -126},
            {309, -128}, {363, -236}};
        for (int[] d : due) {
            is("day " + d[0], d[1], () -> x.offset(0, 0, d[0], NONE));
            is("without a stove, day " + d[0], 0, () -> x.offset(1, 0, d[0], NONE));
        }
        promise = "11 the TUNED day itself is not counted";
        TunerRounds y = told(stove, "tuned a t on 62;tuned a t on 307;tuned a t on 308;");
        is("from the last day of WEEK 8", 0, () -> y.offset(0, 0, 63, NONE));
        is("on the last day of WEEK 43", 0, () -> y.offset(0, 0, 307, NONE));
        is("on the first day of WEEK 44", 0, () -> y.offset(0, 0, 308, NONE));
        is("a day behind it", -2, () -> y.offset(0, 0, 309, NONE));
        promise = "11 a stove's 2 are not three times";
        TunerRounds z = told("piano a home 0 0 999 0 0 0 stove slip 0 5;tuner t 0 0;", "tuned a t on 10;moved a 1 1 on 10;");
        is("slip 5, MOVED, stove", -17, () -> z.offset(0, 0, 11, NONE));
    }

    private static void dampWeeks() {
        promise = "11 5 times as much as the damp of d's WEEK is above that of the TUNED day's";
        String damp = "damp 10 10 40;damp 11 11 0;piano a home 0 0 999 0 0 0 slip 0 0;tuner t 0 0;";
        TunerRounds x = told(damp, "tuned a t on 69;");
        int[][] due = {{69, 0}, {70, 100}, {76, 100}, {77, -100}, {83, -100}, {84, 0}};
        for (int[] d : due) {
            is("TUNED on 69, day " + d[0], d[1], () -> x.offset(0, 0, d[0], NONE));
        }
        TunerRounds wet = told(damp, "tuned a t on 70;");
        is("TUNED on 70, day 76", 0, () -> wet.offset(0, 0, 76, NONE));
        is("TUNED on 70, day 77", -200, () -> wet.offset(0, 0, 77, NONE));
        is("TUNED on 70, day 84", -100, () -> wet.offset(0, 0, 84, NONE));
        TunerRounds dry = told(damp, "tuned a t on 77;");
        is("TUNED on 77, day 84", 100, () -> dry.offset(0, 0, 84, NONE));
    }

    // ---- 12, 13

    private static void offWithoutSign() {
        promise = "12 OFF: the greatest OFFSET without sign";
        TunerRounds x = told("piano a home 0 0 999 0 0 0;tuner t 0 0;",
            "tuned a t on 1 0 7 11 -6;tuned a t on 2 0 6 11 -7;tuned a t on 3 5 7;tuned a t on 4;");
        is("above", 7, () -> x.off(0, 1, NONE));
        is("below", 7, () -> x.off(0, 2, NONE));
        is("one NOTE", 7, () -> x.off(0, 3, NONE));
        is("none", 0, () -> x.off(0, 4, NONE));
        promise = "12 NONE: it never was TUNED";
        TunerRounds y = told(ONE, "tuned a t on 5 known 7;");
        is("ahead of it", NONE, () -> y.off(0, 4, NONE));
        is("on its day", 0, () -> y.off(0, 5, NONE));
        is("not known", NONE, () -> y.off(0, 5, 6));
        is("known", 0, () -> y.off(0, 5, 7));
        is("offset ahead of it", THROWS, () -> y.offset(0, 0, 4, NONE));
        is("offset not known", THROWS, () -> y.offset(0, 0, 5, 6));
        is("offset known", 0, () -> y.offset(0, 0, 5, 7));
    }

    private static void beyondEar() {
        promise = "13 BEYOND, if OFF is above EAR";
        TunerRounds least = told("piano a home 0 0 1 0 0 0;tuner t 0 0;", "tuned a t on 0;");
        is("EAR 1, off of day 1", 1, () -> least.off(0, 1, NONE));
        is("EAR 1, DUE", 2, () -> least.due(0, 0, NONE, 0));
        is("EAR 1, DUE from day 1", 2, () -> least.due(0, 1, NONE, 0));
        TunerRounds most = told("piano a home 0 0 999 0 0 0;tuner t 0 0;", "tuned a t on 0 0 999;tuned a t on 9 0 -999;tuned a t on 20 0 -998;");
        is("left at EAR, above", NONE, () -> most.due(0, 0, NONE, 0));
        is("left at EAR, below", 10, () -> most.due(0, 9, NONE, 0));
        is("left one within EAR, below", 22, () -> most.due(0, 20, NONE, 0));
        TunerRounds up = told("piano a home 0 0 100 0 0 0;tuner t 0 0;", "tuned a t on 0 0 101;tuned a t on 9 0 100;tuned a t on 30 0 -101;");
        is("one beyond EAR, above", 0, () -> up.due(0, 0, NONE, 0));
        is("and a day behind it is not", 101, () -> up.due(0, 1, NONE, 0));
        is("at EAR, above", 110, () -> up.due(0, 9, NONE, 0));
        is("one beyond EAR, below", 30, () -> up.due(0, 30, NONE, 0));
        promise = "13 or it never was TUNED";
        TunerRounds never = told(ONE, "tuned a t on 50;");
        is("the day ahead", 49, () -> never.due(0, 49, NONE, 0));
        is("that day", 61, () -> never.due(0, 50, NONE, 0));
    }

    private static void dueToTheEnd() {
        promise = "13 the first day, d or later (to 363)";
        TunerRounds x = told(ONE, "tuned a t on 352;");
        is("DUE on the last day", 363, () -> x.due(0, 352, NONE, 0));
        is("from the last day", 363, () -> x.due(0, 363, NONE, 0));
        TunerRounds y = told(ONE, "tuned a t on 353;");
        is("a day too late", NONE, () -> y.due(0, 353, NONE, 0));
        is("from the last day", NONE, () -> y.due(0, 363, NONE, 0));
        TunerRounds z = told(ONE, "tuned a t on 0;");
        is("ahead of DUE", 11, () -> z.due(0, 10, NONE, 0));
        is("on DUE", 11, () -> z.due(0, 11, NONE, 0));
        is("behind DUE", 12, () -> z.due(0, 12, NONE, 0));
        promise = "13 by the damp alone";
        TunerRounds damp = told("damp 51 51 23;piano a home 0 0 10 0 0 0 slip 0 0 slip 1 0 slip 2 0 slip 3 0 slip 4 0 slip 5 0 "
            + "slip 6 0 slip 7 0 slip 8 0 slip 9 0 slip 10 0 slip 11 0;tuner t 0 0;", "tuned a t on 0;");
        is("the first day of the WEEK", 357, () -> damp.due(0, 0, NONE, 0));
    }

    private static void dueByRecordsOfTheDay() {
        promise = "13 BEYOND by RECORDS OF d alone";
        TunerRounds tuned = told(ONE, "tuned a t on 0;tuned a t on 5;");
        is("TUNED a day behind d", 11, () -> tuned.due(0, 4, NONE, 0));
        is("TUNED on d", 16, () -> tuned.due(0, 5, NONE, 0));
        TunerRounds moved = told(ONE, "tuned a t on 0;moved a 1 1 on 5;");
        is("MOVED a day behind d", 11, () -> moved.due(0, 4, NONE, 0));
        is("MOVED on d", 7, () -> moved.due(0, 5, NONE, 0));
        is("and OFF on that day", 11, () -> moved.off(0, 7, NONE));
        TunerRounds both = told(ONE, "tuned a t on 0;moved a 1 1 on 1;moved a 1 1 on 3;");
        // By the first move alone: 1, 4, 7, 10, 13; the second changes nothing up to day 22.
        is("both moves", 5, () -> both.due(0, 3, NONE, 0));
        is("K", 11, () -> told(ONE, "tuned a t on 0;moved a 1 1 on 5 known 6;").due(0, 5, 5, 0));
        is("K", 7, () -> told(ONE, "tuned a t on 0;moved a 1 1 on 5 known 6;").due(0, 5, 6, 0));
    }

    private static String allSlips(int n) {
        StringBuilder slips = new StringBuilder();
        for (int note = 0; note < 12; note++) {
            slips.append(" slip ").append(note).append(' ').append(n);
        }
        return slips.toString();
    }

    private static void earlyAndLate() {
        promise = "13 EARLY: with all slips by 1 more";
        TunerRounds most = told("piano a home 0 0 999 0 0 0 slip 3 99;tuner t 0 0;", "tuned a t on 0;");
        is("DUE, slip 99", 11, () -> most.due(0, 0, NONE, 0));
        is("EARLY, slip 99", 10, () -> most.due(0, 0, NONE, 1));
        is("LATE, slip 99", 11, () -> most.due(0, 0, NONE, 2));
        TunerRounds ear = told("piano a home 0 0 980 0 0 0 slip 3 99;tuner t 0 0;", "tuned a t on 0;");
        is("DUE, slip 99 and EAR 980", 10, () -> ear.due(0, 0, NONE, 0));
        is("LATE, slip 99 and EAR 980", 11, () -> ear.due(0, 0, NONE, 2));
        promise = "13 LATE: by 1 less (0 at least)";
        TunerRounds none = told("piano a home 0 0 10 0 0 0" + allSlips(0) + ";tuner t 0 0;", "tuned a t on 0;");
        is("DUE, slips 0", NONE, () -> none.due(0, 0, NONE, 0));
        is("EARLY, slips 0", 11, () -> none.due(0, 0, NONE, 1));
        is("LATE, slips 0", NONE, () -> none.due(0, 0, NONE, 2));
        TunerRounds one = told(ONE, "tuned a t on 0;");
        is("DUE, slips 1", 11, () -> one.due(0, 0, NONE, 0));
        is("EARLY, slips 1", 6, () -> one.due(0, 0, NONE, 1));
        is("LATE, slips 1", NONE, () -> one.due(0, 0, NONE, 2));
        TunerRounds two = told("piano a home 0 0 10 0 0 0" + allSlips(2) + ";tuner t 0 0;", "tuned a t on 0;");
        is("LATE, slips 2", 11, () -> two.due(0, 0, NONE, 2));
        promise = "13 EARLY, LATE of one that was MOVED";
        TunerRounds moved = told("piano a home 0 0 17 0 0 0" + allSlips(2) + ";tuner t 0 0;", "tuned a t on 0;moved a 1 1 on 0;");
        is("DUE: 6 a day", 3, () -> moved.due(0, 0, NONE, 0));
        is("EARLY: 9 a day", 2, () -> moved.due(0, 0, NONE, 1));
        is("LATE: 3 a day", 6, () -> moved.due(0, 0, NONE, 2));
        promise = "13 EARLY, LATE of one never TUNED";
        TunerRounds never = told(ONE);
        for (int how = 0; how < 3; how++) {
            int h = how;
            is("how " + how, 9, () -> never.due(0, 9, NONE, h));
        }
        promise = "13 EARLY, LATE with a stove";
        TunerRounds stove = told("piano a home 0 0 10 0 0 0 stove;tuner t 0 0;", "tuned a t on 0;");
        is("DUE: 3 a day", 4, () -> stove.due(0, 0, NONE, 0));
        is("EARLY: 4 a day", 3, () -> stove.due(0, 0, NONE, 1));
        is("LATE: 2 a day", 6, () -> stove.due(0, 0, NONE, 2));
    }

    // ---- 14 to 16

    private static void pairsOfAnEarlierDay() {
        promise = "14 PAIRS: the latest TUNED OF its day, if that is on an earlier day";
        is("TUNED the day ahead", 0, () -> told(ONE, "tuned a t on 9;found a on 10 0 -5;").slips(0, NONE));
        is("TUNED on that day", NONE, () -> told(ONE, "tuned a t on 10;found a on 10 0 -5;").slips(0, NONE));
        is("TUNED on that day, told behind", NONE, () -> told(ONE, "found a on 10 0 -5;tuned a t on 10;").slips(0, NONE));
        is("TUNED the day behind", NONE, () -> told(ONE, "tuned a t on 11;found a on 10 0 -5;").slips(0, NONE));
        is("TUNED on an earlier day and on that day", NONE,
            () -> told(ONE, "tuned a t on 5;tuned a t on 10;found a on 10 0 -5;").slips(0, NONE));
        TunerRounds later = told(ONE, "tuned a t on 5;tuned a t on 10 known 20;found a on 10 0 -5;");
        is("the later one not known", 0, () -> later.slips(0, 19));
        is("5 by 5 days: above", 1, () -> later.slipped(0));
        is("the later one known", NONE, () -> later.slips(0, 20));
        is("nothing known", NONE, () -> later.slips(0, 9));
        promise = "14 what was left (0 where not told) less what was found, in so many DAYS";
        TunerRounds left = told("piano a home 0 0 10 0 0 0;tuner t 0 0 fork 50;", "tuned a t on 10 0 7;found a on 13 0 -2;");
        is("slips", 0, () -> left.slips(0, NONE));
        is("7 less -2, without the fork", 3, () -> left.slipped(0));
        is("in 3 days", 1, () -> left.slipped(1));
        TunerRounds untold = told(ONE, "tuned a t on 10 0 7;found a on 13 1 -2;");
        is("not told in TUNED", 1, () -> untold.slips(0, NONE));
        is("0 less -2", 2, () -> untold.slipped(0));
        is("in 3 days", 3, () -> untold.slipped(1));
        promise = "14 a TUNED of the same day makes no PAIR beside others";
        TunerRounds same = told(ONE, "found a on 10 0 -9;tuned a t on 0;found a on 4 0 -4;tuned a t on 10;");
        is("slips", 0, () -> same.slips(0, NONE));
        is("4 by 4 days: above", 1, () -> same.slipped(0));
        is("4 by 4 days: below", 1, () -> same.slipped(1));
        TunerRounds first = told(ONE, "found a on 4 0 -4;tuned a t on 0;");
        is("the first RECORD", 0, () -> first.slips(0, NONE));
        promise = "14 the first and the last day";
        TunerRounds far = told(ONE, "tuned a t on 0 11 999;found a on 363 11 -999;");
        is("slips", 11, () -> far.slips(0, NONE));
        is("1998 by 363, least", 666, () -> far.slipped(0));
        is("below", 121, () -> far.slipped(1));
        promise = "14 NONE: there are no PAIRS";
        TunerRounds two = told(ONE + "piano b home 0 0 9 0 0 0;", "tuned a t on 1;found b on 5 0 -5;");
        is("of another PIANO", NONE, () -> two.slips(0, NONE));
        is("of another PIANO", NONE, () -> two.slips(1, NONE));
    }

    private static void slipsAsFractions() {
        promise = "14 the NOTE with the most (fractions; of like ones the least NOTE)";
        is("33 by 100, 1 by 3", 1, () -> told(ONE, "tuned a t on 0;found a on 100 0 -33;found a on 3 1 -1;").slips(0, NONE));
        is("34 by 100, 1 by 3", 0, () -> told(ONE, "tuned a t on 0;found a on 100 0 -34;found a on 3 1 -1;").slips(0, NONE));
        is("1 by 3, 33 by 100", 0, () -> told(ONE, "tuned a t on 0;found a on 100 1 -33;found a on 3 0 -1;").slips(0, NONE));
        is("1 by 3, 34 by 100", 1, () -> told(ONE, "tuned a t on 0;found a on 100 1 -34;found a on 3 0 -1;").slips(0, NONE));
        is("like ones, told backwards", 3, () -> told(ONE, "tuned a t on 0;found a on 100 11 -50;found a on 2 3 -1;").slips(0, NONE));
        is("like ones in one LINE", 4, () -> told(ONE, "tuned a t on 0;found a on 10 11 -5 4 -5 5 -4;").slips(0, NONE));
        is("like ones at 0", 2, () -> told(ONE, "tuned a t on 0;found a on 10 7 0 2 0;").slips(0, NONE));
        is("rising ones: the least rise", 5, () -> told(ONE, "tuned a t on 0;found a on 10 2 9 5 8 7 9;").slips(0, NONE));
        is("a fall ahead of a rise", 7, () -> told(ONE, "tuned a t on 0;found a on 10 2 9 7 -1;").slips(0, NONE));
        is("0 ahead of a rise", 7, () -> told(ONE, "tuned a t on 0;found a on 10 2 1 7 0;").slips(0, NONE));
        promise = "14 falls and DAYS too great for an int's product";
        TunerRounds x = told(ONE, "tuned a t on 0 0 999 1 999;");
        for (int i = 0; i < 8; i++) {
            put(x, "found a on 363 0 -999 1 -999;".repeat(24));
            x.records();
        }
        put(x, "found a on 363 0 -998 1 -999;");
        is("RECORDS", 194, x::records);
        is("the second by one more", 1, () -> x.slips(0, NONE));
        is("1998 by 363, least", 666, () -> x.slipped(0));
    }

    private static void slippedInLeastNumbers() {
        promise = "15 in least numbers (above 0 below)";
        int[][] due = {{-6, 4, 3, 2}, {-4, 4, 1, 1}, {-8, 4, 2, 1}, {-5, 4, 5, 4}, {6, 4, -3, 2}, {4, 4, -1, 1}, {0, 4, 0, 1},
            {0, 363, 0, 1}, {-1, 363, 1, 363}, {1, 363, -1, 363}, {-363, 363, 1, 1}};
        for (int[] d : due) {
            TunerRounds x = told(ONE, "tuned a t on 0;found a on " + d[1] + " 0 " + d[0] + ";");
            is("slips()", 0, () -> x.slips(0, NONE));
            is("above", d[2], () -> x.slipped(0));
            is("below", d[3], () -> x.slipped(1));
        }
        promise = "15 by the latest slips() that told a NOTE";
        TunerRounds y = told(ONE + "piano b home 0 0 9 0 0 0 stove;piano c home 0 0 9 0 0 0;",
            "tuned a t on 0 5 3;found a on 4 0 -5;tuned b t on 0;found b on 4 0 -7;");
        y.slips(0, NONE);
        y.slips(1, NONE);
        is("the second", 7, () -> y.slipped(0));
        y.slips(2, NONE);
        y.slips(3, NONE);
        y.slips(0, 364);
        is("NONE and -2 leave it", 7, () -> y.slipped(0));
        y.slips(0, NONE);
        is("the first again", 5, () -> y.slipped(0));
        is("stove() and lean() tell others", 1, () -> y.stove(NONE, 0));
        is("stove() and lean() tell others", 3, () -> y.lean(0, 5, NONE, 0));
        is("and leave it: above", 5, () -> y.slipped(0));
        is("and leave it: below", 4, () -> y.slipped(1));
    }

    private static void stovesOfEither() {
        promise = "16 no PAIRS of either";
        String both = "piano s home 0 0 9 0 0 0 stove;piano b home 0 0 9 0 0 0;tuner t 0 0;";
        String tuned = "tuned s t on 0;tuned b t on 0;";
        is("none at all", THROWS, () -> told(both, tuned).stove(NONE, 0));
        is("with a stove alone", THROWS, () -> told(both, tuned + "found s on 5 0 -5;").stove(NONE, 0));
        is("without a stove alone", THROWS, () -> told(both, tuned + "found b on 5 0 -5;").stove(NONE, 0));
        is("of both", 0, () -> told(both, tuned + "found s on 5 0 -5;found b on 5 0 -5;").stove(NONE, 0));
        is("FOUND that makes no PAIR", THROWS, () -> told(both, tuned + "found s on 5 0 -5;found b on 0 0 -5;").stove(NONE, 0));
        TunerRounds k = told(both, tuned + "found s on 5 known 8 0 -6;found b on 4 known 9 0 -4;");
        is("K 8", THROWS, () -> k.stove(8, 0));
        is("K 9: 6 by 5 less 1", 1, () -> k.stove(9, 0));
        is("K 9: below", 5, () -> k.stove(9, 1));
        promise = "16 in least numbers: 1 below (above 0)";
        TunerRounds less = told(both, tuned + "found s on 6 0 -5;found b on 4 0 -10;");
        // 5 by 6 less 10 by 4: -40 by 24.
        is("above", -5, () -> less.stove(NONE, 0));
        is("below", 3, () -> less.stove(NONE, 1));
        TunerRounds none = told(both, tuned + "found s on 6 0 -9;found b on 4 0 -6;");
        is("above", 0, () -> none.stove(NONE, 0));
        is("below", 1, () -> none.stove(NONE, 1));
        promise = "16 falls of all NOTES of all PIANOS by their DAYS";
        TunerRounds notes = told(both, tuned + "found s on 5 0 -5 1 -10;found b on 5 0 -5;");
        // 15 by 10 less 5 by 5.
        is("above", 1, () -> notes.stove(NONE, 0));
        is("below", 2, () -> notes.stove(NONE, 1));
        promise = "16 too great for an int";
        TunerRounds great = told(both, "tuned s t on 0 0 999;tuned b t on 0;");
        for (int i = 0; i < 4; i++) {
            put(great, "found s on 363 0 -999;".repeat(24));
            great.records();
        }
        for (int i = 0; i < 4; i++) {
            put(great, "found b on 361 0 -1;".repeat(25));
            great.records();
        }
        // 96 times 1998 by 96 times 363, less 100 times 1 by 100 times 361: 666 by 121 less 1 by 361.
        is("above", 666 * 361 - 121, () -> great.stove(NONE, 0));
        is("below", 121 * 361, () -> great.stove(NONE, 1));
    }

    // ---- 17 to 19

    private static void leansToldAlone() {
        promise = "17 (told ones alone), added, by how often";
        TunerRounds x = told(ONE + "tuner u 0 0 fork 9;",
            "tuned a t on 1 0 5;tuned a t on 2;tuned a t on 3 0 0;tuned a t on 4 1 7;tuned a u on 5 0 -8 11 -999;tuned a u on 6 known 9 0 -6;");
        is("5 and 0: above", 5, () -> x.lean(0, 0, NONE, 0));
        is("5 and 0: below", 2, () -> x.lean(0, 0, NONE, 1));
        is("told once", 7, () -> x.lean(0, 1, NONE, 0));
        is("below", 1, () -> x.lean(0, 1, NONE, 1));
        is("never told", THROWS, () -> x.lean(0, 2, NONE, 0));
        is("never told, what 1", THROWS, () -> x.lean(0, 2, NONE, 1));
        is("told by another", THROWS, () -> x.lean(0, 11, NONE, 0));
        is("the other, without the fork", -7, () -> x.lean(1, 0, NONE, 0));
        is("below", 1, () -> x.lean(1, 0, NONE, 1));
        is("K 8", -8, () -> x.lean(1, 0, 8, 0));
        is("K 9", -7, () -> x.lean(1, 0, 9, 0));
        is("K 4", THROWS, () -> x.lean(1, 0, 4, 0));
        is("K 5", -8, () -> x.lean(1, 0, 5, 0));
        is("the least left", -999, () -> x.lean(1, 11, NONE, 0));
        promise = "17 FOUND is not what was left";
        is("FOUND alone", THROWS, () -> told(ONE, "tuned a t on 0;found a on 1 0 5;").lean(0, 0, NONE, 0));
        TunerRounds sum = told(ONE, "tuned a t on 1 0 4;tuned a t on 2 0 -4;tuned a t on 3 0 -3;");
        is("-3 by 3: above", -1, () -> sum.lean(0, 0, NONE, 0));
        is("-3 by 3: below", 1, () -> sum.lean(0, 0, NONE, 1));
        is("0 by 2: above", 0, () -> sum.lean(0, 0, 2, 0));
        is("0 by 2: below", 1, () -> sum.lean(0, 0, 2, 1));
    }

    private static void batchesByPiano() {
        promise = "18 of those of which there are PIANOS";
        is("9 alone", 9, () -> told("piano a home 0 0 9 0 0 9;").batch(NONE));
        is("0 alone", 0, () -> told("piano a home 0 0 9 0 0 0;").batch(NONE));
        is("none BROKE: the least number", 4, () -> told("piano a home 0 0 9 0 0 9;piano b home 0 0 9 0 0 4;").batch(NONE));
        promise = "18 NONE: no PIANOS, or no such K";
        is("no PIANOS", NONE, () -> told("tuner t 0 0;").batch(NONE));
        promise = "18 the one with the most BROKE by PIANO (of like ones the least number)";
        String three = "piano a home 0 0 9 0 0 2;piano b home 0 0 9 0 0 2;piano c home 0 0 9 0 0 2;piano d home 0 0 9 0 0 0;"
            + "piano e home 0 0 9 0 0 0;piano f home 0 0 9 0 0 9;";
        is("1 by 3", 2, () -> told(three, "broke a 0 on 1;").batch(NONE));
        is("1 by 3, 1 by 2", 0, () -> told(three, "broke a 0 on 1;broke d 0 on 1;").batch(NONE));
        is("2 by 3, 1 by 2", 2, () -> told(three, "broke a 0 on 1;broke b 3 on 1;broke d 0 on 1;").batch(NONE));
        is("3 by 3, 2 by 2, 1 by 1", 0,
            () -> told(three, "broke a 0 on 1;broke a 0 on 1;broke a 0 on 1;broke d 0 on 1;broke e 0 on 1;broke f 0 on 1;").batch(NONE));
        is("3 by 3, 1 by 1", 2, () -> told(three, "broke a 0 on 1;broke a 0 on 1;broke a 0 on 1;broke f 0 on 1;").batch(NONE));
        is("2 by 3, 1 by 1", 9, () -> told(three, "broke a 0 on 1;broke a 0 on 1;broke f 0 on 1;").batch(NONE));
        TunerRounds again = told(three, "broke a 0 on 1;broke d 0 on 1;");
        is("1 by 3, 1 by 2", 0, () -> again.batch(NONE));
        put(again, "piano a home 0 0 9 0 0 0;piano b home 0 0 9 0 0 3;");
        again.house();
        put(again, "broke a 0 on 1;broke b 0 on 1;");
        again.records();
        is("1 by 1 and 1 by 1 of another HOUSE", 0, () -> again.batch(NONE));
        put(again, "piano a home 0 0 9 0 0 3;");
        again.house();
        is("3 alone", 3, () -> again.batch(NONE));
        TunerRounds k = told(three, "broke a 0 on 1;broke f 0 on 1 known 7;");
        is("K 0", 0, () -> k.batch(0));
        is("K 1", 2, () -> k.batch(1));
        is("K 6", 2, () -> k.batch(6));
        is("K 7", 9, () -> k.batch(7));
    }

    private static long cracked(String... records) {
        return told(ONE, records).cracked(0, NONE);
    }

    private static void crackedDays() {
        promise = "19 two FOUND on days no more than 30 apart";
        String first = "found a on 10 0 0 1 0 2 0;";
        is("29", 1, () -> cracked(first + "found a on 39 0 -300 1 -300 2 -300;"));
        is("30", 1, () -> cracked(first + "found a on 40 0 -300 1 -300 2 -300;"));
        is("31", 0, () -> cracked(first + "found a on 41 0 -300 1 -300 2 -300;"));
        is("0", 1, () -> cracked(first + "found a on 10 0 -300 1 -300 2 -300;"));
        is("30 back", 1, () -> cracked("found a on 40 0 0 1 0 2 0;found a on 10 0 -300 1 -300 2 -300;"));
        is("31 back", 0, () -> cracked("found a on 41 0 0 1 0 2 0;found a on 10 0 -300 1 -300 2 -300;"));
        is("the first and the last day", 0, () -> cracked("found a on 0 0 0 1 0 2 0;found a on 363 0 -300 1 -300 2 -300;"));
        is("by days, not as known", 1, () -> cracked(first + "found a on 40 known 363 0 -300 1 -300 2 -300;"));
        promise = "19 one FOUND";
        is("none", 0, () -> cracked());
        is("one", 0, () -> cracked(first));
        is("one and a TUNED", 0, () -> cracked(first + "tuned a t on 11 0 -300 1 -300 2 -300;"));
        is("a TUNED and one", 0, () -> cracked("tuned a t on 9 0 -300 1 -300 2 -300;" + first));
    }

    private static void crackedNotes() {
        promise = "19 differ by 300 and more";
        String first = "found a on 10 0 0 1 0 2 0 3 0;";
        is("300 below", 1, () -> cracked(first + "found a on 11 0 -300 1 -300 2 -300;"));
        is("299 below", 0, () -> cracked(first + "found a on 11 0 -299 1 -300 2 -300;"));
        is("300 above", 1, () -> cracked(first + "found a on 11 0 300 1 300 2 300;"));
        is("299 above", 0, () -> cracked(first + "found a on 11 0 300 1 300 2 299;"));
        is("the greatest", 1, () -> cracked("found a on 10 0 999 1 999 2 999;found a on 11 0 -999 1 -999 2 -999;"));
        is("300 by both", 1, () -> cracked("found a on 10 0 150 1 150 2 150;found a on 11 0 -150 1 -150 2 -150;"));
        promise = "19 all NOTES told in both";
        is("one of four differs less", 0, () -> cracked(first + "found a on 11 0 -300 1 -300 2 -300 3 -299;"));
        is("four", 1, () -> cracked(first + "found a on 11 0 -300 1 -300 2 -300 3 -300;"));
        is("one that the first has not", 1, () -> cracked(first + "found a on 11 0 -300 1 -300 2 -300 4 -1;"));
        promise = "19 all the same way";
        is("one of three up", 0, () -> cracked(first + "found a on 11 0 -300 1 300 2 -300;"));
        is("one of four up", 0, () -> cracked(first + "found a on 11 0 -300 1 -300 2 -300 3 300;"));
        promise = "19 three NOTES at least";
        is("two", 0, () -> cracked(first + "found a on 11 0 -300 1 -300;"));
        is("two and others", 0, () -> cracked(first + "found a on 11 0 -300 1 -300 5 -300 6 -300;"));
        is("three", 1, () -> cracked(first + "found a on 11 0 -300 3 -300 1 -300;"));
        is("none in both", 0, () -> cracked("found a on 10 0 5 1 5 2 5;found a on 11 3 5 4 5 5 5;"));
        is("9, 10, 11", 1, () -> cracked("found a on 10 9 5 10 5 11 5;found a on 11 9 305 10 305 11 305;"));
    }

    private static void crackedNeighbours() {
        promise = "19 (one behind the other in days, those of one day as told)";
        String first = "found a on 10 0 0 1 0 2 0;";
        String last = "found a on 20 0 -300 1 -300 2 -300;";
        is("one between", 0, () -> cracked(first + last + "found a on 15 5 5;"));
        is("one ahead", 1, () -> cracked(first + last + "found a on 9 5 5;"));
        is("one behind", 1, () -> cracked(first + last + "found a on 21 5 5;"));
        is("one on the first day, told ahead", 1, () -> cracked("found a on 10 5 5;" + first + last));
        is("one on the first day, told behind", 0, () -> cracked(first + "found a on 10 5 5;" + last));
        is("one on the last day, told ahead", 0, () -> cracked("found a on 20 5 5;" + last + first));
        is("one on the last day, told behind", 1, () -> cracked(last + first + "found a on 20 5 5;"));
        TunerRounds k = told(ONE, first + last + "found a on 15 known 25 5 5;");
        is("the one between not known", 1, () -> k.cracked(0, 24));
        is("the one between known", 0, () -> k.cracked(0, 25));
        is("the last not known", 0, () -> k.cracked(0, 19));
        is("the last known", 1, () -> k.cracked(0, 20));
        TunerRounds other = told(ONE + "piano b home 0 0 9 0 0 0;", first + last + "found b on 15 5 5;");
        is("one of another PIANO between", 1, () -> other.cracked(0, NONE));
        is("the other", 0, () -> other.cracked(1, NONE));
    }

    // ---- 20

    private static void weightOfConcerts() {
        promise = "20 50 a hall with a concert on that day or the next one";
        String hall = "piano h hall 0 0 10 0 0 0;tuner t 0 0;";
        TunerRounds x = told(hall, "concert h on 100;tuned h t on 94;");
        int[] due = {1, 1, 1, 50, 50, 1};
        for (int i = 0; i < due.length; i++) {
            int day = 96 + i;
            is("day " + day, due[i], () -> x.weight(0, day));
        }
        TunerRounds edges = told(hall, "concert h on 0;concert h on 363;");
        is("a concert on day 0", 50, () -> edges.weight(0, 0));
        is("day 1", 10, () -> edges.weight(0, 1));
        is("day 361", 10, () -> edges.weight(0, 361));
        is("day 362", 50, () -> edges.weight(0, 362));
        is("a concert on day 363", 50, () -> edges.weight(0, 363));
        promise = "20 that was not TUNED on that day or the one ahead of it";
        for (int tuned = 97; tuned <= 101; tuned++) {
            TunerRounds y = told(hall, "concert h on 100;concert h on 101;tuned h t on " + tuned + ";");
            int of100 = tuned == 99 || tuned == 100 ? 1 : 50;
            int of99 = tuned == 98 || tuned == 99 ? 1 : 50;
            is("TUNED on " + tuned + ", day 99", of99, () -> y.weight(0, 99));
            is("TUNED on " + tuned + ", day 100", of100, () -> y.weight(0, 100));
        }
        TunerRounds first = told(hall, "concert h on 0;tuned h t on 0;");
        is("TUNED on day 0", 1, () -> first.weight(0, 0));
        promise = "20 (AS KNOWN on that day)";
        TunerRounds k = told(hall, "concert h on 100 known 100;concert h on 200 known 199;concert h on 300;tuned h t on 300 known 301;");
        is("a concert not known the day ahead", 10, () -> k.weight(0, 99));
        is("known on its day", 50, () -> k.weight(0, 100));
        is("known the day ahead", 50, () -> k.weight(0, 199));
        is("TUNED but not known", 50, () -> k.weight(0, 300));
        TunerRounds known = told(hall, "concert h on 300;concert h on 301;tuned h t on 300 known 301;");
        is("TUNED, known the next day", 1, () -> known.weight(0, 301));
    }

    private static void weightBeyond() {
        promise = "20 else 10 if BEYOND; else 1";
        TunerRounds x = told(ONE, "tuned a t on 50;");
        is("never TUNED", 10, () -> x.weight(0, 49));
        is("TUNED", 1, () -> x.weight(0, 50));
        is("at EAR", 1, () -> x.weight(0, 60));
        is("above EAR", 10, () -> x.weight(0, 61));
        TunerRounds k = told(ONE, "tuned a t on 50 known 55;");
        is("not known", 10, () -> k.weight(0, 54));
        is("known", 1, () -> k.weight(0, 55));
        TunerRounds hall = told("piano h hall 0 0 10 0 0 0;tuner t 0 0;", "tuned h t on 50 0 11;concert h on 50;");
        is("TUNED on the day of a concert, BEYOND", 10, () -> hall.weight(0, 50));
        TunerRounds move = told(ONE, "tuned a t on 50;moved a 1 1 on 56 known 58;");
        // 51 .. 56: 6; 57: 9; 58: 12 if the move is known.
        is("moved, not known", 1, () -> move.weight(0, 57));
        is("moved, known", 10, () -> move.weight(0, 58));
    }
}
