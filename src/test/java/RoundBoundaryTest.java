/**
 * The boundary cases that the document names for rounds, concerts, fees, bags and pupils, each sentence with a test
 * of its own, on both sides of the boundary where it has two.
 */
public final class RoundBoundaryTest extends Checks {
    private static final long WHOLE = 1000000000000000L;
    private static final String LIVES = "tuner t 0 0;";
    private static final String HALL = "piano h hall 0 0 10 0 0 0;tuner t 0 0;";

    public static void main(String[] args) {
        begunNoSooner();
        doneBy();
        backBy();
        stepsOnFoot();
        rulesUntold();
        rulesTold();
        shutSchools();
        movedPianos();
        nineWalked();
        firstThatCannot();
        noPianos();
        greatestSum();
        homeSoonest();
        firstOfLikeOnes();
        latestRound();
        twoWithoutAPianoInBoth();
        fewestTuners();
        leastSetOfTuners();
        readyDays();
        readyEar();
        whoseHouse();
        whoseTuner();
        whoseDamp();
        concertsAsTold();
        feeDays();
        freeDays();
        owedUpToADay();
        tuningsToTheEnd();
        tuningsWithoutFork();
        tuningsByRecordsOfTheDay();
        pastItsWorth();
        bagOfN();
        bagOfLikeOnes();
        chanceCut();
        pupilsAndTuners();
        pupilsOfLikeOnes();
        imageAndRestore();
        finish("RoundBoundaryTest");
    }

    private static long walk(TunerRounds x, int tuner, int day, int... some) {
        pianos(x, some);
        return x.walked(tuner, day);
    }

    // ---- 21 to 24: one TUNER

    private static void begunNoSooner() {
        promise = "21 begun no sooner than 'open' A";
        int[][] due = {{0, 540}, {479, 540}, {480, 540}, {481, 541}, {600, 660}, {1020, 1080}};
        for (int[] d : due) {
            TunerRounds x = told("piano a home 0 0 10 0 0 0 open " + d[0] + " 1440;" + LIVES);
            isRound(x, 0, 0, new int[] {0}, 10, d[1], 0);
            is("walked", d[1], () -> walk(x, 0, 0, 0));
        }
    }

    private static void doneBy() {
        promise = "21 done by 'open' B";
        TunerRounds at = told("piano a home 0 0 10 0 0 0 open 0 540;" + LIVES);
        isRound(at, 0, 0, new int[] {0}, 10, 540, 0);
        is("walked", 540, () -> walk(at, 0, 0, 0));
        TunerRounds late = told("piano a home 0 0 10 0 0 0 open 0 539;" + LIVES);
        isRound(late, 0, 0, new int[] {0}, 0, 480);
        is("walked", -2, () -> walk(late, 0, 0, 0));
        TunerRounds far = told("piano a home 1 0 10 0 0 0 open 0 545;piano b home 1 0 10 0 0 0 open 0 544;" + LIVES);
        is("walked 5 minutes to it", 550, () -> walk(far, 0, 0, 0));
        is("a minute late", -2, () -> walk(far, 0, 0, 1));
        promise = "21 'open' is shorter than 'work'";
        TunerRounds shortly = told("piano a home 0 0 10 0 0 0 open 600 659;piano b home 0 0 10 0 0 0 open 600 660;" + LIVES);
        is("59 minutes", -2, () -> walk(shortly, 0, 0, 0));
        is("60 minutes", 660, () -> walk(shortly, 0, 0, 1));
    }

    private static void backBy() {
        promise = "21 back by 'day' B";
        TunerRounds at = told("day 480 550;piano a home 1 0 10 0 0 0;" + LIVES);
        isRound(at, 0, 0, new int[] {0}, 10, 550, 0);
        is("walked", 550, () -> walk(at, 0, 0, 0));
        TunerRounds late = told("day 480 549;piano a home 1 0 10 0 0 0;" + LIVES);
        isRound(late, 0, 0, new int[] {0}, 0, 480);
        is("walked", -3, () -> walk(late, 0, 0, 0));
        TunerRounds two = told("day 480 609;piano a home 0 0 10 0 0 0;piano b home 0 1 10 0 0 0;" + LIVES);
        is("walked one", 540, () -> walk(two, 0, 0, 0));
        is("walked two", -4, () -> walk(two, 0, 0, 0, 1));
        isRound(two, 0, 0, new int[] {0, 1}, 10, 540, 0);
    }

    private static void stepsOnFoot() {
        promise = "21 on foot (X and Y steps together, 'walk' minutes each)";
        TunerRounds x = told("piano a home 3 4 10 0 0 0;piano b home 1 1 10 0 0 0;tuner t 1 1;tuner u 3 4;tuner v 1 4;");
        is("X and Y up", 480 + 25 + 60 + 25, () -> walk(x, 0, 0, 0));
        is("X and Y down", 480 + 25 + 60 + 25, () -> walk(x, 1, 0, 1));
        is("X alone", 480 + 10 + 60 + 10, () -> walk(x, 2, 0, 0));
        is("Y alone", 480 + 15 + 60 + 15, () -> walk(x, 2, 0, 1));
        is("no step", 540, () -> walk(x, 1, 0, 0));
        is("from one to the other", 480 + 10 + 60 + 25 + 60 + 15, () -> walk(x, 2, 0, 0, 1));
        TunerRounds far = told("day 0 1440;walk 1;piano a home 99 99 10 0 0 0;" + LIVES);
        is("the farthest", 198 + 60 + 198, () -> walk(far, 0, 0, 0));
        TunerRounds slow = told("day 0 1440;walk 20;piano a home 99 99 10 0 0 0;" + LIVES);
        is("the farthest, slowly", -2, () -> walk(slow, 0, 0, 0));
        pianos(slow, 0);
        is("the farthest, slowly", 0, () -> slow.round(0, 0));
    }

    private static void rulesUntold() {
        promise = "'walk' 5, 'work' 60, 'day' 480 1080, 'open' 0 1440 where not told";
        TunerRounds x = told("piano a home 1 0 10 0 0 0;piano b home 0 0 10 0 0 0 open 1020 1440;"
            + "piano c home 0 0 10 0 0 0 open 1021 1440;" + LIVES);
        is("walk and work", 480 + 5 + 60 + 5, () -> walk(x, 0, 0, 0));
        is("home at 1080", 1080, () -> walk(x, 0, 0, 1));
        is("home at 1081", -3, () -> walk(x, 0, 0, 2));
        TunerRounds last = told("day 1380 1440;piano a home 0 0 10 0 0 0;" + LIVES);
        is("done at 1440", 1440, () -> walk(last, 0, 0, 0));
        TunerRounds late = told("day 1381 1440;piano a home 0 0 10 0 0 0;" + LIVES);
        is("done at 1441", -2, () -> walk(late, 0, 0, 0));
        TunerRounds early = told("day 0 1440;piano a home 0 0 10 0 0 0;" + LIVES);
        is("begun at 0", 60, () -> walk(early, 0, 0, 0));
        promise = "'sure' 0, 'cake' 0 where not told";
        TunerRounds bare = told("fee home 7 0;piano a home 0 0 10 0 0 0;" + LIVES, "tuned a t on 0;tuned a t on 1;ate a on 1;");
        is("none is FREE", 0, () -> bare.free(0, 363, NONE));
        is("owed", 14, () -> bare.owed(0, 363, NONE));
    }

    private static long walkBy(String rule) {
        return walk(told(rule + "piano a home 1 0 10 0 0 0;" + LIVES), 0, 0, 0);
    }

    private static void rulesTold() {
        promise = "'walk', 'work', 'day' at their least and greatest";
        is("walk 1", 542, () -> walkBy("walk 1;"));
        is("walk 20", 580, () -> walkBy("walk 20;"));
        is("work 10", 500, () -> walkBy("work 10;"));
        is("work 120", 610, () -> walkBy("work 120;"));
        is("day 0 70", 70, () -> walkBy("day 0 70;"));
        is("day 0 69", -3, () -> walkBy("day 0 69;"));
        is("day 1370 1440", 1440, () -> walkBy("day 1370 1440;"));
        is("day 1371 1440", -3, () -> walkBy("day 1371 1440;"));
        is("day 1439 1440", -2, () -> walkBy("day 1439 1440;"));
        promise = "'cake' at its least and greatest";
        String[] cakes = {"cake 0;", "cake 999;", ""};
        int[] due = {0, -1998, 0};
        for (int i = 0; i < 3; i++) {
            int at = i;
            is(cakes[i], due[i], () -> told(cakes[at] + HALL, "ate h on 0;ate h on 363;").owed(0, 363, NONE));
        }
    }

    private static void shutSchools() {
        promise = "21 A school is shut in WEEKS of a term";
        TunerRounds x = told("term 3 4;piano s school 0 0 10 0 0 0;piano a home 0 0 10 0 0 0;piano h hall 0 0 10 0 0 0;" + LIVES);
        int[][] due = {{20, 540}, {21, -2}, {27, -2}, {28, -2}, {34, -2}, {35, 540}};
        for (int[] d : due) {
            is("day " + d[0], d[1], () -> walk(x, 0, d[0], 0));
            is("a home, day " + d[0], 540, () -> walk(x, 0, d[0], 1));
            is("a hall, day " + d[0], 540, () -> walk(x, 0, d[0], 2));
            pianos(x, 0);
            is("round, day " + d[0], d[1] > 0 ? 10 : 0, () -> x.round(0, d[0]));
            pianos(x, 0);
            is("festival, day " + d[0], d[1] > 0 ? 1 : NONE, () -> x.festival(d[0]));
        }
        TunerRounds edges = told("term 0 0;term 51 51;piano s school 0 0 10 0 0 0;" + LIVES);
        int[][] first = {{0, -2}, {6, -2}, {7, 540}, {356, 540}, {357, -2}, {363, -2}};
        for (int[] d : first) {
            is("day " + d[0], d[1], () -> walk(edges, 0, d[0], 0));
        }
    }

    private static void movedPianos() {
        promise = "21 PIANOS stand where the latest MOVED OF the day (AS KNOWN on it) left them, else as told";
        TunerRounds x = told("piano a home 1 0 10 0 0 0;" + LIVES, "moved a 3 0 on 50;moved a 2 0 on 40;");
        int[][] due = {{0, 550}, {39, 550}, {40, 560}, {49, 560}, {50, 570}, {363, 570}};
        for (int[] d : due) {
            is("day " + d[0], d[1], () -> walk(x, 0, d[0], 0));
        }
        is("X as told", 1, () -> x.piano(0, 1));
        TunerRounds known = told("piano a home 1 0 10 0 0 0;" + LIVES, "moved a 0 3 on 50 known 52;moved a 0 2 on 50;");
        is("day 51", 560, () -> walk(known, 0, 51, 0));
        is("day 52: of like ones the one told last", 560, () -> walk(known, 0, 52, 0));
        TunerRounds last = told("piano a home 1 0 10 0 0 0;" + LIVES, "moved a 0 2 on 50;moved a 0 3 on 50 known 52;");
        is("day 51", 560, () -> walk(last, 0, 51, 0));
        is("day 52", 570, () -> walk(last, 0, 52, 0));
        TunerRounds corner = told("walk 1;piano a home 1 0 10 0 0 0;" + LIVES, "moved a 99 99 on 1;moved a 0 0 on 2;");
        is("to 99 99", 480 + 198 + 60 + 198, () -> walk(corner, 0, 1, 0));
        is("to 0 0", 540, () -> walk(corner, 0, 2, 0));
    }

    private static void nineWalked() {
        promise = "24 the first one (0 to 8) that can't be done in time";
        String eight = times(8, "piano # home 0 0 10 0 0 0;") + LIVES + "work 10;";
        int[] nine = {0, 1, 2, 3, 4, 5, 6, 7, 8};
        is("the ninth in time", 570, () -> walk(told(eight + "piano i home 0 0 10 0 0 0 open 0 570;"), 0, 0, nine));
        is("the ninth late", -10, () -> walk(told(eight + "piano i home 0 0 10 0 0 0 open 0 569;"), 0, 0, nine));
        promise = "24 or that many, if home is not reached by 'day' B";
        is("home in time", 570, () -> walk(told("day 480 570;" + eight + "piano i home 0 0 10 0 0 0;"), 0, 0, nine));
        is("home late", -11, () -> walk(told("day 480 569;" + eight + "piano i home 0 0 10 0 0 0;"), 0, 0, nine));
        TunerRounds all = told(eight + "piano i home 0 0 10 0 0 0;piano j home 0 0 10 0 0 0;");
        isRound(all, 0, 0, new int[] {8, 7, 6, 5, 4, 3, 2, 1, 0}, 90, 570, 0, 1, 2, 3, 4, 5, 6, 7, 8);
        isRound(all, 0, 0, new int[] {9, 8, 7, 6, 5, 4, 3, 2, 1}, 90, 570, 1, 2, 3, 4, 5, 6, 7, 8, 9);
        TunerRounds fewer = told("day 480 569;" + eight + "piano i home 0 0 10 0 0 0;");
        isRound(fewer, 0, 0, nine, 80, 560, 0, 1, 2, 3, 4, 5, 6, 7);
    }

    private static void firstThatCannot() {
        promise = "24 -2 less the place of the first one that can't be done in time";
        TunerRounds x = told("piano a home 0 0 10 0 0 0;piano b home 0 0 10 0 0 0 open 0 100;piano c home 0 0 10 0 0 0 open 0 100;"
            + "piano d home 0 0 10 0 0 0 open 1060 1440;" + LIVES);
        is("at place 0", -2, () -> walk(x, 0, 0, 1, 0));
        is("at place 1", -3, () -> walk(x, 0, 0, 0, 1));
        is("at 1 and 2", -3, () -> walk(x, 0, 0, 0, 1, 2));
        is("the other way", -3, () -> walk(x, 0, 0, 0, 2, 1));
        is("at 0, and home too late", -2, () -> walk(x, 0, 0, 1, 3));
        is("home too late alone", -4, () -> walk(x, 0, 0, 0, 3));
        is("at 1, behind 'day' B", -3, () -> walk(x, 0, 0, 3, 1));
        is("done behind 'day' B, by 'open' B", -4, () -> walk(x, 0, 0, 3, 0));
    }

    private static void noPianos() {
        promise = "21, 24 to 26 of no PIANOS";
        TunerRounds x = told("day 700 701;tuner t 9 9;tuner u 0 0;");
        isRound(x, 0, 0, new int[] {}, 0, 700);
        is("walked", 700, () -> walk(x, 0, 0));
        pianos(x);
        is("two", 0, () -> x.two(0, 1, 0));
        pianos(x);
        is("festival", 0, () -> x.festival(0));
    }

    private static void greatestSum() {
        promise = "21 BEST: the greatest sum of WEIGHTS";
        // Time for one alone: 50 ahead of 10 ahead of 1.
        TunerRounds x = told("day 480 540;piano a home 0 0 99 0 0 0;piano b home 0 0 99 0 0 0;piano h hall 0 0 99 0 0 0;" + LIVES,
            "tuned a t on 0;tuned h t on 0;concert h on 6;");
        isRound(x, 0, 4, new int[] {0, 2}, 1, 540, 0);
        isRound(x, 0, 4, new int[] {0, 1, 2}, 10, 540, 1);
        isRound(x, 0, 5, new int[] {0, 1, 2}, 50, 540, 2);
        promise = "21 more WEIGHT, though home later";
        TunerRounds far = told("day 480 560;piano a home 0 0 99 0 0 0;piano b home 2 0 99 0 0 0;" + LIVES, "tuned a t on 0;");
        isRound(far, 0, 0, new int[] {0, 1}, 10, 560, 1);
        promise = "21 one that can't be done is left out";
        TunerRounds some = told("piano a home 0 0 99 0 0 0 open 0 400;piano b home 0 0 99 0 0 0;" + LIVES);
        isRound(some, 0, 0, new int[] {0, 1}, 10, 540, 1);
    }

    private static void homeSoonest() {
        promise = "21 of like ones home soonest";
        TunerRounds one = told("day 480 570;piano a home 2 0 10 0 0 0;piano b home 1 0 10 0 0 0;" + LIVES);
        isRound(one, 0, 0, new int[] {0, 1}, 10, 550, 1);
        TunerRounds order = told("piano a home 0 0 10 0 0 0 open 600 1440;piano b home 0 0 10 0 0 0;" + LIVES);
        isRound(order, 0, 0, new int[] {0, 1}, 20, 660, 1, 0);
        TunerRounds minute = told("piano a home 0 0 10 0 0 0 open 541 1440;piano b home 0 0 10 0 0 0;" + LIVES);
        isRound(minute, 0, 0, new int[] {0, 1}, 20, 601, 1, 0);
        TunerRounds same = told("piano a home 0 0 10 0 0 0 open 480 1440;piano b home 0 0 10 0 0 0;" + LIVES);
        isRound(same, 0, 0, new int[] {0, 1}, 20, 600, 0, 1);
    }

    private static void firstOfLikeOnes() {
        promise = "21 of like ones the first (PIANO by PIANO, the lesser number)";
        TunerRounds one = told("day 480 560;piano a home 1 0 10 0 0 0;piano b home 0 1 10 0 0 0;piano c home 0 1 10 0 0 0;" + LIVES);
        isRound(one, 0, 0, new int[] {2, 1, 0}, 10, 550, 0);
        isRound(one, 0, 0, new int[] {2, 1}, 10, 550, 1);
        TunerRounds all = told(times(4, "piano # home 0 0 10 0 0 0;") + LIVES);
        isRound(all, 0, 0, new int[] {3, 1, 2, 0}, 40, 720, 0, 1, 2, 3);
        isRound(all, 0, 0, new int[] {3, 1}, 20, 600, 1, 3);
        promise = "21 like ones of unlike sets";
        // Time for two of three: 0 with 1, 0 with 2 and 1 with 2 all come home at 600.
        TunerRounds two = told("day 480 600;" + times(3, "piano # home 0 0 10 0 0 0;") + LIVES);
        isRound(two, 0, 0, new int[] {2, 1, 0}, 20, 600, 0, 1);
        promise = "21 like ones around a square";
        TunerRounds square = told("piano a home 0 1 10 0 0 0;piano b home 1 1 10 0 0 0;piano c home 1 0 10 0 0 0;" + LIVES);
        isRound(square, 0, 0, new int[] {2, 1, 0}, 30, 680, 0, 1, 2);
        TunerRounds turned = told("piano a home 1 1 10 0 0 0;piano b home 1 0 10 0 0 0;piano c home 0 1 10 0 0 0;" + LIVES);
        isRound(turned, 0, 0, new int[] {2, 1, 0}, 30, 680, 1, 0, 2);
    }

    private static void latestRound() {
        promise = "22, 23 by the latest round() that was not NONE";
        TunerRounds x = told(times(3, "piano # home 0 0 10 0 0 0;") + LIVES);
        isRound(x, 0, 0, new int[] {2, 0}, 20, 600, 0, 2);
        pianos(x, 3);
        is("round() that is NONE", NONE, () -> x.round(0, 0));
        is("roundAt(1)", 2, () -> x.roundAt(1));
        is("home()", 600, x::home);
        pianos(x, 1);
        x.walked(0, 0);
        pianos(x, 1);
        x.festival(0);
        x.house();
        is("roundAt(1) of a HOUSE that was", 2, () -> x.roundAt(1));
        is("home() of a HOUSE that was", 600, x::home);
        put(x, LIVES);
        x.house();
        isRound(x, 0, 0, new int[] {}, 0, 480);
        is("roundAt(0) of an empty ROUND", NONE, () -> x.roundAt(0));
    }

    // ---- 25, 26

    private static long sumOfTwo(TunerRounds x, int one, int other, int day, int... some) {
        pianos(x, some);
        return x.two(one, other, day);
    }

    private static void twoWithoutAPianoInBoth() {
        promise = "25 two TUNERS' ROUNDS without a PIANO in both: the greatest sum";
        TunerRounds x = told("day 480 600;" + times(5, "piano # home 0 0 10 0 0 0;") + "tuner t 0 0;tuner u 0 0;");
        is("one PIANO", 10, () -> sumOfTwo(x, 0, 1, 0, 0));
        is("two PIANOS", 20, () -> sumOfTwo(x, 0, 1, 0, 0, 1));
        is("four PIANOS, two each", 40, () -> sumOfTwo(x, 0, 1, 0, 0, 1, 2, 3));
        is("five PIANOS, two each", 40, () -> sumOfTwo(x, 0, 1, 0, 0, 1, 2, 3, 4));
        promise = "25 not one BEST behind the other";
        // t can do either, u only a: t's BEST by itself is a, as the lesser number, yet both are done.
        TunerRounds both = told("day 480 560;piano a home 0 0 10 0 0 0;piano b home 2 0 10 0 0 0;tuner t 0 0;tuner u 0 2;tuner v 99 99;");
        is("t and u", 20, () -> sumOfTwo(both, 0, 1, 0, 0, 1));
        is("u and t", 20, () -> sumOfTwo(both, 1, 0, 0, 0, 1));
        is("one that can do nothing", 10, () -> sumOfTwo(both, 0, 2, 0, 0, 1));
        is("the other way", 10, () -> sumOfTwo(both, 2, 0, 0, 0, 1));
        promise = "25 nine PIANOS";
        TunerRounds nine = told("day 480 525;work 10;" + times(9, "piano # home 0 0 10 0 0 0;") + "tuner t 0 0;tuner u 0 0;");
        is("four each", 80, () -> sumOfTwo(nine, 0, 1, 0, 0, 1, 2, 3, 4, 5, 6, 7, 8));
    }

    private static long bits(TunerRounds x, int day, int... some) {
        pianos(x, some);
        return x.festival(day);
    }

    private static void fewestTuners() {
        promise = "26 the fewest TUNERS whose ROUNDS together have all of some PIANOS";
        TunerRounds x = told("day 480 540;" + times(7, "piano # home 0 0 10 0 0 0;") + times(6, "tuner t# 0 0;"));
        is("one", 1, () -> bits(x, 0, 6));
        is("two", 3, () -> bits(x, 0, 6, 5));
        is("five", 31, () -> bits(x, 0, 0, 1, 2, 3, 4));
        is("six", 63, () -> bits(x, 0, 0, 1, 2, 3, 4, 5));
        promise = "26 NONE: all of them do not";
        is("seven", NONE, () -> bits(x, 0, 0, 1, 2, 3, 4, 5, 6));
        TunerRounds nine = told(times(9, "piano # home 0 0 10 0 0 0;") + times(6, "tuner t# 0 0;"));
        is("nine, the first alone", 1, () -> bits(nine, 0, 0, 1, 2, 3, 4, 5, 6, 7, 8));
        TunerRounds far = told("piano a home 99 99 10 0 0 0;" + times(5, "tuner t# 0 0;") + "tuner u 99 99;");
        is("the sixth alone", 32, () -> bits(far, 0, 0));
        TunerRounds none = told("piano a home 0 0 10 0 0 0;");
        is("no TUNERS", NONE, () -> bits(none, 0, 0));
        is("no TUNERS and no PIANOS", 0, () -> bits(none, 0));
    }

    private static void leastSetOfTuners() {
        promise = "26 (of all sets of TUNERS; of like ones the least set as bits)";
        TunerRounds x = told("piano a home 0 0 10 0 0 0;tuner t 99 99;tuner u 0 0;tuner v 0 0;");
        is("the second ahead of the third", 2, () -> bits(x, 0, 0));
        TunerRounds pairs = told("day 480 540;piano a home 0 0 10 0 0 0;piano b home 50 50 10 0 0 0;"
            + "tuner t 50 50;tuner u 50 50;tuner v 0 0;tuner w 0 0;");
        is("the first and the third", 5, () -> bits(pairs, 0, 0, 1));
        promise = "26 fewer TUNERS ahead of lesser bits";
        String three = "work 20;piano a home 0 0 10 0 0 0;piano b home 8 0 10 0 0 0;tuner t 0 6;tuner u 8 6;tuner v 4 0;";
        TunerRounds one = told("day 480 600;" + three);
        is("the third alone", 4, () -> bits(one, 0, 0, 1));
        TunerRounds late = told("day 480 599;" + three);
        is("a minute less: the first two", 3, () -> bits(late, 0, 0, 1));
    }

    // ---- 27, 28

    private static void readyDays() {
        promise = "27 READY: TUNED on its day or on one of the two ahead of it";
        int[] due = {1, 0, 0, 0, 1};
        for (int i = 0; i < 5; i++) {
            int tuned = 97 + i;
            is("TUNED on " + tuned, due[i], () -> told(HALL, "concert h on 100;tuned h t on " + tuned + ";").unready(0, NONE));
        }
        is("never TUNED", 1, () -> told(HALL, "concert h on 100;").unready(0, NONE));
        is("no concerts", 0, () -> told(HALL).unready(0, NONE));
        is("a concert on day 0", 1, () -> told(HALL, "concert h on 0;tuned h t on 1;").unready(0, NONE));
        is("a concert on day 0, TUNED", 0, () -> told(HALL, "concert h on 0;tuned h t on 0;").unready(0, NONE));
        is("a concert on day 363, TUNED", 0, () -> told(HALL, "concert h on 363;tuned h t on 361;").unready(0, NONE));
        is("a concert on day 363, TUNED", 1, () -> told(HALL, "concert h on 363;tuned h t on 360;").unready(0, NONE));
        promise = "27 AS KNOWN";
        TunerRounds k = told(HALL, "concert h on 100 known 90;tuned h t on 100 known 101;");
        is("K 89", 0, () -> k.unready(0, 89));
        is("K 90", 1, () -> k.unready(0, 90));
        is("K 100", 1, () -> k.unready(0, 100));
        is("K 101", 0, () -> k.unready(0, 101));
    }

    private static void readyEar() {
        promise = "27 READY: and is not BEYOND on its day";
        int[][] due = {{10, 0}, {11, 1}, {-10, 0}, {-11, 1}};
        for (int[] d : due) {
            is("left at " + d[0], d[1], () -> told(HALL, "concert h on 100;tuned h t on 100 0 " + d[0] + ";").unready(0, NONE));
        }
        is("two days of slip, at EAR", 0, () -> told(HALL, "concert h on 100;tuned h t on 98 0 -8;").unready(0, NONE));
        is("two days of slip, beyond EAR", 1, () -> told(HALL, "concert h on 100;tuned h t on 98 0 -9;").unready(0, NONE));
        is("the latest TUNED counts", 1,
            () -> told(HALL, "concert h on 100;tuned h t on 99;tuned h t on 100 0 11;").unready(0, NONE));
    }

    private static long whose(String house, String records) {
        return told(house, records).whose(0, 0, NONE);
    }

    private static void whoseHouse() {
        promise = "28 0 nobody's (its hall is not BEYOND on its day)";
        String ear = "piano h hall 0 0 # 0 0 0;tuner t 0 0;";
        is("at EAR", 0, () -> whose(ear.replace("#", "10"), "concert h on 100;tuned h t on 90;"));
        is("above EAR", 1, () -> whose(ear.replace("#", "9"), "concert h on 100;tuned h t on 90;"));
        promise = "28 1 the house's (not TUNED on its day or one of the 7 ahead of it)";
        is("six days ahead", 4, () -> whose(ear.replace("#", "5"), "concert h on 100;tuned h t on 94;"));
        is("seven days ahead", 4, () -> whose(ear.replace("#", "6"), "concert h on 100;tuned h t on 93;"));
        is("eight days ahead", 1, () -> whose(ear.replace("#", "7"), "concert h on 100;tuned h t on 92;"));
        is("eight days ahead, left beyond EAR", 1, () -> whose(ear.replace("#", "7"), "concert h on 100;tuned h t on 92 0 99;"));
        is("on its day", 2, () -> whose(ear.replace("#", "7"), "concert h on 100;tuned h t on 100 0 8;"));
        is("the day behind", 1, () -> whose(ear.replace("#", "7"), "concert h on 100;tuned h t on 101;"));
        is("never TUNED", 1, () -> whose(ear.replace("#", "999"), "concert h on 100;"));
    }

    private static void whoseTuner() {
        promise = "28 2 the TUNER's (what was left, with the fork, of some NOTE above EAR, without sign)";
        String hall = "piano h hall 0 0 10 0 0 0 slip 0 5;tuner t 0 0;tuner u 0 0 fork 10;tuner v 0 0 fork 11;tuner w 0 0 fork -11;";
        is("left at EAR, below", 4, () -> whose(hall, "concert h on 100;tuned h t on 99 5 -10;"));
        is("left beyond EAR, below", 2, () -> whose(hall, "concert h on 100;tuned h t on 99 5 -11;"));
        is("left at EAR, above", 4, () -> whose(hall, "concert h on 100;tuned h t on 97 5 10;"));
        is("left beyond EAR, above", 2, () -> whose(hall, "concert h on 100;tuned h t on 97 5 11;"));
        is("left beyond EAR, above, and slipped within", 0, () -> whose(hall, "concert h on 100;tuned h t on 99 5 11;"));
        is("the fork at EAR", 0, () -> whose(hall, "concert h on 100;tuned h u on 100;"));
        is("left 1 with the fork at EAR", 2, () -> whose(hall, "concert h on 100;tuned h u on 100 11 1;"));
        is("the fork beyond EAR", 2, () -> whose(hall, "concert h on 100;tuned h v on 100;"));
        is("the fork beyond EAR, below", 2, () -> whose(hall, "concert h on 100;tuned h w on 100;"));
        is("one NOTE of twelve", 2, () -> whose(hall, "concert h on 100;tuned h v on 100 0 -11 1 -11 2 -11 3 -11 4 -11 5 -11 6 -11 7 -11 "
            + "8 -11 9 -11 10 -11;"));
        is("no NOTE of twelve", 0, () -> whose(hall, "concert h on 100;tuned h v on 100 0 -11 1 -11 2 -11 3 -11 4 -11 5 -11 6 -11 7 -11 "
            + "8 -11 9 -11 10 -11 11 -11;"));
    }

    private static void whoseDamp() {
        promise = "28 3 the damp's (OFF would not be above EAR with the damp as on the TUNED day); else 4 the strings'";
        // WEEK 14 begins on day 98: five times one less pulls all strings down by 5.
        String hall = "damp 14 14 19;piano h hall 0 0 10 0 0 0;tuner t 0 0;";
        is("5 by the damp and 2 by slips, at EAR with 3 left", 0, () -> whose(hall, "concert h on 99;tuned h t on 97 0 -3;"));
        is("5 by the damp and 2 by slips, beyond EAR with 4 left", 3, () -> whose(hall, "concert h on 99;tuned h t on 97 0 -4;"));
        is("at EAR without the damp", 3, () -> whose(hall, "concert h on 99;tuned h t on 97 0 -8;"));
        is("beyond EAR without the damp", 4, () -> whose(hall, "concert h on 99;tuned h t on 97 0 -9;"));
        is("TUNED in the same WEEK", 4, () -> whose(hall, "concert h on 100;tuned h t on 98 0 -9;"));
        String wet = "damp 14 14 23;piano h hall 0 0 10 0 0 0;tuner t 0 0;";
        is("up by the damp: 15 less 2", 3, () -> whose(wet, "concert h on 99;tuned h t on 97;"));
        is("up by the damp, one beyond EAR without it", 4, () -> whose(wet, "concert h on 99;tuned h t on 97 0 -9;"));
        is("up by the damp, one at EAR without it", 3, () -> whose(wet, "concert h on 99;tuned h t on 97 0 -8;"));
    }

    private static void concertsAsTold() {
        promise = "28 k-th concert (from 0, of those AS KNOWN, as told)";
        TunerRounds x = told(HALL + "piano g hall 0 0 9 0 0 0;",
            "concert h on 200;concert g on 1;concert h on 100 known 50;concert h on 150 known 60;tuned h t on 100;");
        is("0", 1, () -> x.whose(0, 0, NONE));
        is("1", 0, () -> x.whose(0, 1, NONE));
        is("2", 1, () -> x.whose(0, 2, NONE));
        is("3", NONE, () -> x.whose(0, 3, NONE));
        is("the other's", 1, () -> x.whose(1, 0, NONE));
        is("the other's", NONE, () -> x.whose(1, 1, NONE));
        is("K 49: one", 1, () -> x.whose(0, 0, 49));
        is("K 49: one", NONE, () -> x.whose(0, 1, 49));
        is("K 50: two", 1, () -> x.whose(0, 1, 50));
        is("K 50: two", NONE, () -> x.whose(0, 2, 50));
        is("K 60: three", 1, () -> x.whose(0, 2, 60));
        is("K 99: the TUNED is not known", 1, () -> x.whose(0, 1, 99));
        is("K 100: it is", 0, () -> x.whose(0, 1, 100));
        is("no concert", NONE, () -> told(HALL).whose(0, 0, NONE));
    }

    // ---- 29 to 33

    private static void feeDays() {
        promise = "29 of its KIND's fees with a DAY up to it the one with the latest DAY; 0 without";
        TunerRounds x = told("fee home 9999 363;fee home 50 100;fee home 70 200;fee school 8 0;fee hall 0 0;fee hall 9 1;"
            + "piano a home 0 0 10 0 0 0;piano s school 0 0 10 0 0 0;piano h hall 0 0 10 0 0 0;");
        int[][] due = {{0, 0, 0}, {0, 99, 0}, {0, 100, 50}, {0, 199, 50}, {0, 200, 70}, {0, 362, 70}, {0, 363, 9999},
            {1, 0, 8}, {1, 363, 8}, {2, 0, 0}, {2, 1, 9}};
        for (int[] d : due) {
            is("fee(" + d[0] + ", " + d[1] + ")", d[2], () -> x.fee(d[0], d[1]));
        }
        promise = "29 (of like ones the last told)";
        TunerRounds like = told("fee home 50 100;fee home 60 100;fee home 40 99;fee hall 70 100;piano a home 0 0 10 0 0 0;");
        is("day 99", 40, () -> like.fee(0, 99));
        is("day 100", 60, () -> like.fee(0, 100));
    }

    private static void freeDays() {
        promise = "31 another TUNED of that PIANO is 1 to 'sure' days ahead";
        String sure = "sure 5;fee home 10 0;piano a home 0 0 10 0 0 0;piano b home 0 0 10 0 0 0;" + LIVES;
        int[][] due = {{93, 0}, {94, 0}, {95, 1}, {99, 1}, {100, 0}, {101, 1}, {105, 1}, {106, 0}};
        for (int[] d : due) {
            TunerRounds x = told(sure, "tuned a t on 100;tuned a t on " + d[0] + ";");
            is("TUNED on 100 and " + d[0], d[1], () -> x.free(0, 363, NONE));
            is("owed", 20 - 10 * d[1], () -> x.owed(0, 363, NONE));
        }
        is("of another PIANO", 0, () -> told(sure, "tuned a t on 100;tuned b t on 99;").free(0, 363, NONE));
        is("by one that is FREE itself", 2, () -> told(sure, "tuned a t on 100;tuned a t on 105;tuned a t on 110;").free(0, 363, NONE));
        is("two on one day", 2, () -> told(sure, "tuned a t on 100;tuned a t on 101;tuned a t on 101;").free(0, 363, NONE));
        promise = "31 if 'sure' is above 0";
        String two = "piano a home 0 0 10 0 0 0;" + LIVES;
        is("'sure' 0", 0, () -> told("sure 0;" + two, "tuned a t on 100;tuned a t on 101;tuned a t on 100;").free(0, 363, NONE));
        is("'sure' 1", 1, () -> told("sure 1;" + two, "tuned a t on 100;tuned a t on 101;tuned a t on 103;").free(0, 363, NONE));
        is("'sure' 99, 99 days", 1, () -> told("sure 99;" + two, "tuned a t on 0;tuned a t on 99;").free(0, 363, NONE));
        is("'sure' 99, 100 days", 0, () -> told("sure 99;" + two, "tuned a t on 0;tuned a t on 100;").free(0, 363, NONE));
        promise = "31 TUNED up to a day, AS KNOWN";
        TunerRounds k = told(sure, "tuned a t on 100 known 120;tuned a t on 101 known 110;");
        is("up to day 100", 0, () -> k.free(0, 100, NONE));
        is("up to day 101", 1, () -> k.free(0, 101, NONE));
        is("K 119: the one ahead is not known", 0, () -> k.free(0, 363, 119));
        is("K 119: owed", 10, () -> k.owed(0, 363, 119));
        is("K 120", 1, () -> k.free(0, 363, 120));
        is("K 120: owed", 10, () -> k.owed(0, 363, 120));
        is("K 109: owed", 0, () -> k.owed(0, 363, 109));
    }

    private static void owedUpToADay() {
        promise = "30 OWED up to a day AS KNOWN";
        String house = "fee home 100 0;fee home 150 51;cake 7;piano a home 0 0 10 0 0 0;piano b home 0 0 10 0 0 0;" + LIVES;
        TunerRounds x = told(house, "tuned a t on 50 known 80;paid a 30 on 60 known 81;ate a on 70 known 82;tuned b t on 50;");
        int[][] days = {{49, 0}, {50, 100}, {59, 100}, {60, 70}, {69, 70}, {70, 63}, {363, 63}};
        for (int[] d : days) {
            is("up to day " + d[0], d[1], () -> x.owed(0, d[0], NONE));
        }
        int[][] known = {{79, 0}, {80, 100}, {81, 70}, {82, 63}, {363, 63}};
        for (int[] d : known) {
            is("K " + d[0], d[1], () -> x.owed(0, 363, d[0]));
        }
        is("the other", 100, () -> x.owed(1, 363, NONE));
        promise = "30 the FEE of the TUNED day";
        is("on 51", 150, () -> told(house, "tuned a t on 51;").owed(0, 363, NONE));
        is("on 50", 100, () -> told(house, "tuned a t on 50;").owed(0, 363, NONE));
        promise = "30 other RECORDS owe nothing";
        is("found, broke, moved, concert", 100, () -> told("fee hall 100 0;" + HALL,
            "tuned h t on 0;found h on 1 0 5;broke h 0 on 1;moved h 1 1 on 1;concert h on 1;").owed(0, 363, NONE));
        promise = "30 below 0";
        is("paid 9999 twice", -19998, () -> told(house, "paid a 9999 on 1;paid a 9999 on 2;").owed(0, 363, NONE));
        promise = "30 the greatest sum";
        TunerRounds great = told("fee home 9999 0;piano a home 0 0 10 0 0 0;" + LIVES);
        for (int i = 0; i < 5; i++) {
            put(great, "tuned a t on 0;".repeat(40));
            great.records();
        }
        is("200 FEES of 9999", 1999800, () -> great.owed(0, 0, NONE));
        is("and each could be FREE", 0, () -> great.free(0, 0, NONE));
    }

    private static void tuningsToTheEnd() {
        promise = "32 till the end of day 363";
        String one = "piano a home 0 0 10 0 0 0;" + LIVES;
        is("11, 22 .. 363", 33, () -> told(one, "tuned a t on 0;").tunings(0, 0, NONE));
        is("12, 23 .. 353", 32, () -> told(one, "tuned a t on 1;").tunings(0, 1, NONE));
        is("363 alone", 1, () -> told(one, "tuned a t on 352;").tunings(0, 352, NONE));
        is("364 is none", 0, () -> told(one, "tuned a t on 353;").tunings(0, 353, NONE));
        is("from day 363, BEYOND", 1, () -> told(one, "tuned a t on 352;").tunings(0, 363, NONE));
        is("from day 363, at EAR", 0, () -> told(one, "tuned a t on 353;").tunings(0, 363, NONE));
        is("from day 363, never TUNED", 1, () -> told(one).tunings(0, 363, NONE));
        is("never TUNED: 352 and 363", 2, () -> told(one).tunings(0, 352, NONE));
        is("never TUNED: 353", 1, () -> told(one).tunings(0, 353, NONE));
        is("each day", 364, () -> told("piano a home 0 0 1 0 0 0 slip 0 99;" + LIVES).tunings(0, 0, NONE));
        is("each other day", 182, () -> told("piano a home 0 0 1 0 0 0;" + LIVES).tunings(0, 0, NONE));
        promise = "32 each time it is BEYOND, by the damp too";
        // TUNED on day 6; on day 7 the damp is 5 times 20 more, on day 14 as much less.
        is("7, 14, then by slips 105, 196, 287", 5,
            () -> told("damp 1 1 40;piano a home 0 0 90 0 0 0;" + LIVES, "tuned a t on 6;").tunings(0, 6, NONE));
    }

    private static void tuningsWithoutFork() {
        promise = "32 it is TUNED to 0 (without a fork) on that day";
        String house = "piano a home 0 0 10 0 0 0;tuner t 0 0 fork 11;tuner u 0 0 fork 5;";
        is("BEYOND at once: 0, 11 .. 363", 34, () -> told(house, "tuned a t on 0;").tunings(0, 0, NONE));
        is("16, 27 .. 357", 32, () -> told(house, "tuned a u on 0;").tunings(0, 0, NONE));
        is("left at 3 and 5: 19, 30 .. 360", 32,
            () -> told(house, "tuned a u on 0 0 3 1 3 2 3 3 3 4 3 5 3 6 3 7 3 8 3 9 3 10 3 11 3;").tunings(0, 0, NONE));
        is("left at -6 and 5: 10, 21 .. 362", 33, () -> told(house, "tuned a u on 0 0 -6;").tunings(0, 0, NONE));
    }

    private static void tuningsByRecordsOfTheDay() {
        promise = "32 from DUE to DUE, by RECORDS OF the day alone";
        String one = "piano a home 0 0 10 0 0 0;" + LIVES;
        TunerRounds tuned = told(one, "tuned a t on 0;tuned a t on 5;");
        is("from day 4: 11, 22 .. 363", 33, () -> tuned.tunings(0, 4, NONE));
        is("from day 5: 16, 27 .. 357", 32, () -> tuned.tunings(0, 5, NONE));
        TunerRounds moved = told(one, "tuned a t on 300;moved a 1 1 on 300 known 310;");
        is("K 309: 311, 322 .. 355", 5, () -> moved.tunings(0, 300, 309));
        // By threes up to day 321: 304, 308, 312, 316, 320; then 3 and 8: 329, 340, 351, 362.
        is("K 310", 9, () -> moved.tunings(0, 300, 310));
        is("a day ahead, never TUNED: 299, 310 .. 354", 6, () -> moved.tunings(0, 299, NONE));
    }

    private static long past(String fee, int worth, int day) {
        return told(fee + "piano a home 0 0 10 0 " + worth + " 0;" + LIVES).past(0, day, NONE);
    }

    private static void pastItsWorth() {
        promise = "33 if these times its FEE on the first day are above its WORTH";
        is("10 by 10", 0, () -> past("fee home 10 0;", 10, 363));
        is("10 by 9", 1, () -> past("fee home 10 0;", 9, 363));
        is("twice 10 by 20", 0, () -> past("fee home 10 0;", 20, 352));
        is("twice 10 by 19", 1, () -> past("fee home 10 0;", 19, 352));
        is("no FEE, no WORTH", 0, () -> past("", 0, 0));
        is("FEE 1, no WORTH", 1, () -> past("fee home 1 0;", 0, 363));
        is("9999 by 9999", 0, () -> past("fee home 9999 0;", 9999, 353));
        is("twice 9999 by 9999", 1, () -> past("fee home 9999 0;", 9999, 352));
        is("the FEE of the day, not of a later one", 0, () -> past("fee home 10 0;fee home 11 353;", 20, 352));
        is("the FEE from that day on", 1, () -> past("fee home 10 0;fee home 11 352;", 20, 352));
        is("no TUNINGS", 0, () -> told("fee home 9999 0;piano a home 0 0 10 0 0 0;" + LIVES, "tuned a t on 363;").past(0, 363, NONE));
        is("34 times 9999", 1, () -> past("fee home 9999 0;", 9999, 0));
    }

    // ---- 34 to 37

    private static void bagOfN() {
        promise = "34 BAG of n strings (0 to 12): n together at most";
        TunerRounds x = told(times(8, "piano # home 0 0 10 0 0 0 frail 0 20 frail 1 20 frail 2 20 frail 3 20;")
            + "piano i home 0 0 10 0 0 0 frail 3 20;piano j home 0 0 10 0 0 0;piano k home 0 0 10 0 0 0 frail 2 1;");
        isBag(x, 0, new int[] {9}, 0, WHOLE);
        isBag(x, 12, new int[] {9}, 0, WHOLE);
        isBag(x, 3, new int[] {0}, 0, 0);
        isBag(x, 4, new int[] {0}, 1111, WHOLE);
        isBag(x, 5, new int[] {0}, 1111, WHOLE);
        isBag(x, 11, new int[] {0, 1, 2}, 0, 0);
        isBag(x, 12, new int[] {0, 1, 2}, 3333, WHOLE);
        isBag(x, 12, new int[] {0, 1, 2, 3}, 0, 0);
        promise = "34 8 at most of each";
        TunerRounds eight = told(times(8, "piano # home 0 0 10 0 0 0 frail 3 20;"));
        int[] all = {0, 1, 2, 3, 4, 5, 6, 7};
        isBag(eight, 7, all, 0, 0);
        isBag(eight, 8, all, 8, WHOLE);
        isBag(eight, 12, all, 8, WHOLE);
        TunerRounds first = told(times(8, "piano # home 0 0 10 0 0 0 frail 0 20;"));
        isBag(first, 8, all, 8000, WHOLE);
        promise = "34 'frail' by 20 (0 to 20)";
        isBag(x, 0, new int[] {10}, 0, WHOLE / 20 * 19);
        isBag(x, 1, new int[] {10}, 10, WHOLE);
        isBag(x, 0, new int[] {8}, 0, 0);
        isBag(x, 1, new int[] {8}, 1, WHOLE);
        TunerRounds nineteen = told("piano a home 0 0 10 0 0 0 frail 1 19;");
        isBag(nineteen, 0, new int[] {0}, 0, WHOLE / 20);
        isBag(nineteen, 1, new int[] {0}, 100, WHOLE);
    }

    private static void bagOfLikeOnes() {
        promise = "34 Of like ones the first (G by G, the fewer)";
        TunerRounds x = told("piano a home 0 0 10 0 0 0 frail 0 5 frail 1 5 frail 2 5 frail 3 5;");
        isBag(x, 0, new int[] {0}, 0, WHOLE / 256 * 81);
        isBag(x, 1, new int[] {0}, 1, WHOLE / 64 * 27);
        isBag(x, 2, new int[] {0}, 11, WHOLE / 16 * 9);
        isBag(x, 3, new int[] {0}, 111, WHOLE / 4 * 3);
        isBag(x, 4, new int[] {0}, 1111, WHOLE);
        TunerRounds sure = told("piano a home 0 0 10 0 0 0 frail 0 20 frail 3 1;piano b home 0 0 10 0 0 0;");
        isBag(sure, 0, new int[] {0, 1}, 0, 0);
        isBag(sure, 1, new int[] {0, 1}, 1000, WHOLE / 20 * 19);
        isBag(sure, 12, new int[] {0, 1}, 1001, WHOLE);
    }

    private static void chanceCut() {
        promise = "35 CHANCE: 10^15 times PARTS by 20^m, G by G, cut";
        int[] all = {0, 1, 2, 3, 4, 5, 6, 7};
        TunerRounds one = told(times(8, "piano # home 0 0 10 0 0 0 frail 0 1;"));
        // (19 by 20)^8 is 0.6634204312890625.
        isBag(one, 0, all, 0, 663420431289062L);
        TunerRounds two = told(times(8, "piano # home 0 0 10 0 0 0 frail 0 1 frail 3 1;"));
        isBag(two, 0, all, 0, 440126668651765L);
        promise = "35 cut where one more would reach the next whole number";
        TunerRounds near = told("piano a home 0 0 10 0 0 0 frail 0 13 frail 1 13 frail 2 18 frail 3 9;"
            + "piano b home 0 0 10 0 0 0 frail 0 17 frail 1 19 frail 2 17 frail 3 17;"
            + "piano c home 0 0 10 0 0 0 frail 0 3 frail 1 6 frail 2 7 frail 3 1;");
        // PARTS of 8000: 357, 98, 78, 627; the last product is one short of 417730790 times 8000.
        isBag(near, 0, new int[] {0, 1, 2}, 0, 417730789L);
        promise = "35 cut to 0: like ones";
        TunerRounds none = told(times(8, "piano # home 0 0 10 0 0 0 frail 0 19 frail 1 19;"));
        isBag(none, 1, all, 0, 0);
        TunerRounds some = told(times(8, "piano # home 0 0 10 0 0 0 frail 1 19;"));
        // 1 by 20^8, and 153 by 20^8.
        isBag(some, 0, all, 0, 39062);
        isBag(some, 1, all, 100, 5976562);
        promise = "35 by the latest bag() that was not NONE; 0 ahead of any";
        TunerRounds x = told("piano a home 0 0 10 0 0 0 frail 0 1;");
        is("ahead of any", 0, x::chance);
        pianos(x, 1);
        is("bag() that is NONE", NONE, () -> x.bag(0));
        is("ahead of any that was not", 0, x::chance);
        isBag(x, 0, new int[] {0}, 0, 950000000000000L);
        pianos(x, 0);
        is("bag(13)", NONE, () -> x.bag(13));
        is("it stays", 950000000000000L, x::chance);
        x.house();
        is("it stays with a new HOUSE", 950000000000000L, x::chance);
    }

    private static void isShared(TunerRounds x, int sum, int... tuners) {
        is("pupils()", sum, x::pupils);
        for (int k = 0; k < tuners.length; k++) {
            int at = k;
            is("pupilOf(" + k + ")", tuners[k], () -> x.pupilOf(at));
        }
        is("pupilOf behind", NONE, () -> x.pupilOf(tuners.length));
    }

    private static void pupilsAndTuners() {
        promise = "36 NONE: no PUPILS, or no TUNERS";
        is("none of either", NONE, () -> told("cake 5;").pupils());
        is("no TUNERS", NONE, () -> told("pupil q;").pupils());
        is("no PUPILS", NONE, () -> told(LIVES).pupils());
        isShared(told(LIVES + "pupil q;"), 0, 0);
        promise = "36 (as many as there are TUNERS, the first PUPILS)";
        isShared(told(LIVES + "pupil q;pupil r;teach t q 1;teach t r 99;"), 1, 0, NONE);
        isShared(told(LIVES + "tuner u 0 0;pupil q;pupil r;pupil s;teach t s 99;teach t q 1;teach u q 5;teach t r 3;"), 8, 1, 0, NONE);
        promise = "36 more TUNERS than PUPILS";
        isShared(told(times(6, "tuner t# 0 0;") + "pupil q;teach ta q 5;teach tf q 6;"), 6, 5);
        isShared(told(times(6, "tuner t# 0 0;") + "pupil q;pupil r;teach te q 99;teach te r 98;teach tf r 1;teach ta q 1;"), 100, 4, 5);
        promise = "36 six of each";
        StringBuilder all = new StringBuilder(times(6, "tuner t# 0 0;") + times(6, "pupil q#;"));
        for (char c = 'a'; c <= 'f'; c++) {
            all.append("teach t").append(c).append(" q").append((char) ('a' + 'f' - c)).append(" 99;");
        }
        isShared(told(all.toString()), 594, 5, 4, 3, 2, 1, 0);
        promise = "37 by the latest pupils() that was not NONE";
        TunerRounds x = told(LIVES + "tuner u 0 0;pupil q;pupil r;");
        isShared(x, 0, 0, 1);
        put(x, "pupil q;");
        x.house();
        is("pupils() that is NONE", NONE, x::pupils);
        is("it stays", 1, () -> x.pupilOf(1));
        put(x, LIVES + "pupil q;pupil r;");
        x.house();
        isShared(x, 0, 0, NONE);
    }

    private static void pupilsOfLikeOnes() {
        promise = "36 of like ones the first (PUPIL by PUPIL, the lesser TUNER)";
        String three = LIVES + "tuner u 0 0;tuner v 0 0;pupil q;pupil r;pupil s;";
        isShared(told(three), 0, 0, 1, 2);
        isShared(told(three + "teach u q 5;teach v q 5;"), 5, 1, 0, 2);
        isShared(told(three + "teach t q 5;teach t r 5;teach u q 5;teach u r 5;"), 10, 0, 1, 2);
        isShared(told(three + "teach t s 5;"), 5, 1, 2, 0);
        isShared(told(three + "teach t q 4;teach u q 5;teach u r 1;"), 5, 0, 1, 2);
        isShared(told(three + "teach t q 4;teach u q 6;teach u r 1;"), 6, 1, 0, 2);
        isShared(told(times(6, "tuner t# 0 0;") + "pupil q;pupil r;teach te q 99;teach te r 98;teach tf r 1;teach ta q 2;"), 100, 0, 4);
    }

    // ---- 38, 39

    private static void imageAndRestore() {
        promise = "39 HOUSE and RECORDS are as kept in place k (what other calls told stays)";
        TunerRounds x = told("piano a home 0 0 10 0 0 0 frail 0 1;piano b home 0 0 10 0 0 0;tuner t 0 0;tuner u 0 0;pupil q;pupil r;",
            "tuned a t on 0;found a on 5 0 -7;");
        x.image(0);
        isRound(x, 0, 0, new int[] {1}, 10, 540, 1);
        pianos(x, 0);
        x.bag(0);
        x.pupils();
        x.slips(0, NONE);
        put(x, "pupil z;");
        x.house();
        put(x, "ate a on 1;");
        x.records();
        put(x, "tape");
        is("restore(0)", 1, () -> bit(x.restore(0)));
        is("PIANOS", 2, () -> x.count(0));
        is("RECORDS", 2, () -> x.count(3));
        is("the tape stays", 4, () -> x.count(4));
        is("fault() stays", 3, x::fault);
        is("roundAt(0) stays", 1, () -> x.roundAt(0));
        is("home() stays", 540, x::home);
        is("chance() stays", 950000000000000L, x::chance);
        is("pupilOf(1) stays", 1, () -> x.pupilOf(1));
        is("slipped(0) stays", 7, () -> x.slipped(0));
        is("slipped(1) stays", 5, () -> x.slipped(1));
        promise = "38 All but the tape is kept";
        TunerRounds y = told("pupil a;");
        put(y, "abc");
        y.image(1);
        is("image() leaves the tape", 3, () -> y.count(4));
        y.end(1);
        y.restore(1);
        is("restore() leaves the tape", 1, () -> y.count(4));
        promise = "38 an image does not change with the HOUSE";
        TunerRounds z = told(HALL, "tuned h t on 0 0 5;");
        z.image(0);
        put(z, "tuned h t on 0 0 6;concert h on 3;");
        z.records();
        z.image(1);
        is("now", 6, () -> z.offset(0, 0, 0, NONE));
        z.restore(0);
        is("as kept in 0", 5, () -> z.offset(0, 0, 0, NONE));
        is("RECORDS as kept in 0", 1, () -> z.count(3));
        put(z, "ate h on 1;ate h on 2;");
        z.records();
        z.restore(1);
        is("as kept in 1", 6, () -> z.offset(0, 0, 0, NONE));
        is("RECORDS as kept in 1", 3, () -> z.count(3));
        is("concerts as kept in 1", 1, () -> z.count(5));
    }
}
