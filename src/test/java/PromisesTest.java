/** For each promise of the document some calls with the answers worked out by hand: the ordinary, the edges, the wrong. */
public final class PromisesTest extends Checks {
    public static void main(String[] args) {
        newObject();
        feedAndEnd();
        houseLines();
        houseFaults();
        houseLimits();
        recordLines();
        recordFaults();
        faultKinds();
        pianoFacts();
        weeks();
        beatsAndWolf();
        offsets();
        offsetEdges();
        offAndDue();
        slipsAndSlipped();
        stoves();
        leans();
        batches();
        cracks();
        weights();
        rounds();
        roundTies();
        walkedOnes();
        twoTuners();
        festivals();
        concerts();
        fees();
        owedAndFree();
        tuningsAndPast();
        bags();
        pupils();
        images();
        counts();
        finish("PromisesTest");
    }

    // ---- 1 to 6: texts

    private static void newObject() {
        promise = "1";
        TunerRounds x = new TunerRounds();
        for (int what = 0; what < 7; what++) {
            int w = what;
            is("count(" + w + ")", 0, () -> x.count(w));
        }
        is("week(51, 0)", 20, () -> x.week(51, 0));
        is("fault()", 0, x::fault);
        is("house() of an empty tape", 0, x::house);
        is("records() of an empty tape", 0, x::records);
        is("NONE", -1, () -> TunerRounds.NONE);
    }

    private static void feedAndEnd() {
        promise = "2";
        TunerRounds x = new TunerRounds();
        is("feed", 20, () -> x.feed(0x63616b65, 0x20373b20, 0x20202020, 0x0a202020, 0x20202020));
        is("house()", 1, x::house);
        is("count(4)", 0, () -> x.count(4));
        for (int i = 1; i <= 62; i++) {
            int n = i;
            is("feed " + n, 20 * n, () -> x.feed(0, 0, 0, 0, 0));
        }
        is("feed over 1240", NONE, () -> x.feed(0, 0, 0, 0, 0));
        is("count(4)", 1240, () -> x.count(4));
        promise = "3";
        is("end(1241)", 0, () -> bit(x.end(1241)));
        is("end(-1)", 0, () -> bit(x.end(-1)));
        is("count(4)", 1240, () -> x.count(4));
        is("end(1240)", 1, () -> bit(x.end(1240)));
        is("end(1221)", 1, () -> bit(x.end(1221)));
        is("feed", NONE, () -> x.feed(0, 0, 0, 0, 0));
        is("end(1220)", 1, () -> bit(x.end(1220)));
        is("feed", 1240, () -> x.feed(1, 2, 3, 4, 5));
        is("end(0)", 1, () -> bit(x.end(0)));
        is("end(1)", 0, () -> bit(x.end(1)));
        is("feed of high bytes", 20, () -> x.feed(-1, -1, -1, -1, -1));
        is("house()", -1, x::house);
        is("fault()", 1, x::fault);
    }

    private static void houseLines() {
        promise = "4";
        TunerRounds x = new TunerRounds();
        put(x, " \nsure 5;cake\n7 ; walk 1;work 10;day 0 1;pupil a;tuner b 1 2 fork-99;teach b a 00007;");
        is("house()", 8, x::house);
        is("count(4)", 0, () -> x.count(4));
        put(x, "piano abcdefgh home 0 0 1 0 0 0 open 0 1 slip 0 0 frail 3 20 stove slip 11 99;");
        is("house()", 1, x::house);
        is("count(1)", 0, () -> x.count(1));
        put(x, "ate abcdefgh on 3;");
        is("records()", 1, x::records);
        put(x, "sure;");
        is("house()", -5, x::house);
        is("RECORDS stay with a FAULT", 1, () -> x.count(3));
        put(x, "piano abcdefgh home 0 0 1 0 0 0;");
        is("house()", 1, x::house);
        is("a HOUSE is without RECORDS", 0, () -> x.count(3));
        TunerRounds y = told("damp 0 51 0;damp 3 4 40;damp 4 4 7;term 0 0;term 51 51;");
        is("week(2, 0)", 0, () -> y.week(2, 0));
        is("week(3, 0)", 40, () -> y.week(3, 0));
        is("week(4, 0)", 7, () -> y.week(4, 0));
        is("week(0, 1)", 1, () -> y.week(0, 1));
        is("week(1, 1)", 0, () -> y.week(1, 1));
        is("week(51, 1)", 1, () -> y.week(51, 1));
        is("the least and the most", 3, () -> told("sure 0;cake 0;walk 1;work 10;fee home 0 0;day 0 1440;",
            "").count(6) + told("sure 99;cake 999;walk 20;work 120;fee home 9999 363;fee hall 9999 363;").count(6));
        y.house();
        is("week(3, 0) of the empty HOUSE", 20, () -> y.week(3, 0));
        is("week(0, 1) of the empty HOUSE", 0, () -> y.week(0, 1));
    }

    private static void houseFaults() {
        promise = "4 faults";
        badHouse("sure", 1, 4);
        badHouse("sure 5", 1, 6);
        badHouse("sure 5  ", 1, 8);
        badHouse("sure -5;", 1, 5);
        badHouse("sure 5 5;", 1, 7);
        badHouse("sure 5;tuned", 1, 7);
        badHouse("sure5;", 1, 0);
        badHouse("sure 5a;", 1, 5);
        badHouse("sure 000005;", 1, 5);
        badHouse("sure 100;", 2, 5);
        badHouse("sure\t5;", 1, 4);
        badHouse("5;", 1, 0);
        badHouse(";", 1, 0);
        badHouse("Sure 5;", 1, 0);
        badHouse("cake 1000;", 2, 5);
        badHouse("walk 21;", 2, 5);
        badHouse("walk 0;", 2, 5);
        badHouse("work 121;", 2, 5);
        badHouse("work 9;", 2, 5);
        badHouse("day 1440 1440;", 2, 9);
        badHouse("day 1441 2;", 2, 4);
        badHouse("day 5 1441;", 2, 6);
        badHouse("day 5 5;", 2, 6);
        badHouse("cake 1;walk 1;work 10;day 1 2;cake 2;", 3, 30);
        badHouse("walk 1;walk", 3, 7);
        badHouse("work 10;work", 3, 8);
        badHouse("day 1 2;day", 3, 8);
        badHouse("table 1000 1001 1002 1003 1004 1005 1006 1007 1008 1009 1010;", 1, 60);
        badHouse("table 999", 2, 6);
        badHouse("table 1000 1000", 2, 11);
        badHouse("table 1000 2000", 2, 11);
        badHouse("table 60000 99999 99999", 2, 18);
        badHouse("table 1000 1001 1002 1003 1004 1005 1006 1007 1008 1009 1010 1999;table", 3, 66);
        badHouse("damp 5 4 20;", 2, 7);
        badHouse("damp 52 52 20;", 2, 5);
        badHouse("damp 5 52 20;", 2, 7);
        badHouse("damp 5 5 41;", 2, 9);
        badHouse("term 5 4;", 2, 7);
        badHouse("term 5 5 5;", 1, 9);
        badHouse("fee 5 5 5;", 1, 4);
        badHouse("fee table 5 5;", 1, 4);
        badHouse("fee home 10000 5;", 2, 9);
        badHouse("fee home 9999 364;", 2, 14);
        badHouse("piano on home 1 1 1 1 1 1;", 1, 6);
        badHouse("piano abcdefghi home 1 1 1 1 1 1;", 1, 6);
        badHouse("piano a b 1 1 1 1 1 1;", 1, 8);
        badHouse("piano a home 100 1 1 1 1 1;", 2, 13);
        badHouse("piano a home 1 100 1 1 1 1;", 2, 15);
        badHouse("piano a home 1 1 1000 1 1 1;", 2, 17);
        badHouse("piano a home 1 1 1 201 1 1;", 2, 19);
        badHouse("piano a home 1 1 1 1 10000 1;", 2, 21);
        badHouse("piano a home 1 1 1 1 1 10;", 2, 23);
        badHouse("piano a home 1 1 1 1 1 1 slip 0 100;", 2, 32);
        badHouse("piano a home 1 1 1 1 1 1 frail 0 21;", 2, 33);
        badHouse("piano a home 1 1 1 1 1 1 frail 0 1 frail 0 1;", 3, 41);
        badHouse("piano a home 1 1 1 1 1 1 frail 0 1 slip 0 1 frail 1 1 slip 1 1 slip 0 1;", 3, 68);
        badHouse("piano a home 1 1 1 1 1 1 open 1440 1440;", 2, 35);
        badHouse("piano a home 1 1 1 1 1 1 known;", 1, 25);
        badHouse("tuner t 1 100;", 2, 10);
        badHouse("tuner t 1 1 fork - 100;", 2, 19);
        badHouse("tuner t 1 1 fork - - 1;", 1, 19);
        badHouse("tuner t 1 1 fork 1 fork 1;", 1, 19);
        badHouse("pupil a;pupil a;", 3, 14);
        badHouse("pupil a;tuner a 1 1;", 3, 14);
        badHouse("tuner t 1 1;tuner t 1 1;", 3, 18);
        badHouse("tuner t 1 1;pupil t;", 3, 18);
        badHouse("piano a home 1 1 1 1 1 1;piano a home 1 1 1 1 1 1;", 3, 31);
        badHouse("piano a home 1 1 1 1 1 1;pupil a;", 3, 31);
        badHouse("piano a home 1 1 1 1 1 1 stove slip 0 1 stove;", 3, 40);
        badHouse("piano a home 1 1 1 1 1 1 open 0 1 open", 3, 34);
        badHouse("piano a home 1 1 1 1 1 1 open 1441 1442;", 2, 30);
        badHouse("piano a home 1 1 1 1 1 1 open 0 1441;", 2, 32);
        badHouse("piano a home 1 1 1 1 1 1 slip 12 1;", 2, 30);
        badHouse("piano a home 1 1 1 1 1 1 slip 13 1;", 2, 30);
        badHouse("piano a home 1 1 1 1 1 1 frail 4 1;", 2, 31);
        badHouse("piano a home 1 1 1 1 1 1 frail 5 1;", 2, 31);
        badHouse("term 52 52;", 2, 5);
        badHouse("term 51 52;", 2, 8);
        badHouse("tuner t 100 1;", 2, 8);
        badHouse("tuner t 1 1;pupil q;teach q q 1;", 3, 26);
        badHouse("tuner t 1 1;pupil q;teach t t 1;", 3, 28);
        badHouse("tuner t 1 1;pupil q;teach t q 100;", 2, 30);
        badHouse("tuner t 1 1;pupil q;teach t on 1;", 1, 28);
        badHouse("tuner t 1 1;teach t q 1;pupil q;", 3, 20);
        badHouse("tuner t 1 1;teach 5 q 1;", 1, 18);
    }

    private static void houseLimits() {
        promise = "4 limits";
        String sixteen = times(16, "piano # home 1 1 1 1 1 1;");
        badHouse(sixteen + "piano", 4, 400);
        badHouse(times(6, "tuner # 1 1;") + "tuner 5", 4, 72);
        badHouse(times(6, "pupil #;") + "pupil;", 4, 48);
        badHouse(times(16, "fee home 1 1;") + "fee", 4, 208);
        is("sixteen", 16, () -> told(sixteen).count(0));
        String blanks = times(1193, " ");
        TunerRounds x = new TunerRounds();
        put(x, "cake 5;" + blanks);
        is("1200 bytes", 1, x::house);
        badHouse("cake 5;" + blanks + " ", 1, 1200);
        badHouse("cake 5;" + blanks + "!", 1, 1200);
        badHouse("cake 5;" + times(1186, " ") + "cake 5;;", 3, 1193);
        badHouse("cake 5;" + times(1190, " ") + "cake", 3, 1197);
        badHouse("cake 5;" + times(1190, " ") + "workers", 1, 1197);
        badHouse("cake 5;" + times(1188, " ") + "walk 21;", 1, 1200);
        badHouse("cake 5;" + times(1187, " ") + "walk 100;", 2, 1199);
        badHouse("cake 5;" + times(1187, " ") + "walk 10;", 1, 1200);
    }

    private static void recordLines() {
        promise = "5";
        goodRecords("", 0);
        goodRecords("tuned a t on 0;tuned a t on 363 known 363 0 999 11-999;", 2);
        goodRecords("found a on 5 0-0;found a on 5 known 5 0 1 1 1 2 2 3 3 4 4 5 5 6 6 7 7 8 8 9 9 10 10 11 11;", 2);
        goodRecords("broke a 3 on 1;paid a 9999 on 1;ate a on 1;concert h on 9 known 3;concert h on 9;moved a 0 99 on 1;", 6);
        TunerRounds x = told(SMALL);
        put(x, "ate a on 1;ate h on 2;");
        is("records()", 2, x::records);
        put(x, "ate a on 1;");
        is("records()", 3, x::records);
        is("count(4)", 0, () -> x.count(4));
        for (int i = 0; i < 3; i++) {
            put(x, times(63, "ate a on 1;"));
            x.records();
        }
        is("192 RECORDS", 192, () -> x.count(3));
        put(x, times(9, "ate a on 1;"));
        is("a 201st", -1 - 88, x::records);
        is("fault()", 4, x::fault);
        is("192 RECORDS", 192, () -> x.count(3));
        put(x, times(8, "ate a on 1;"));
        is("200 RECORDS", 200, x::records);
        put(x, "ate");
        is("a 201st at its first WORD", -1, x::records);
        is("fault()", 4, x::fault);
        put(x, "on");
        is("no RECORD", -1, x::records);
        is("fault()", 1, x::fault);
        put(x, times(1, " "));
        is("none more", 200, x::records);
    }

    private static void recordFaults() {
        promise = "5 faults";
        badRecords("piano", 1, 0);
        badRecords("tuned", 1, 5);
        badRecords("tuned b t on 1;", 3, 6);
        badRecords("tuned t t on 1;", 3, 6);
        badRecords("tuned on t on 1;", 1, 6);
        badRecords("tuned a a on 1;", 3, 8);
        badRecords("tuned a q on 1;", 3, 8);
        badRecords("tuned a t 1;", 1, 10);
        badRecords("tuned a t on 364;", 2, 13);
        badRecords("tuned a t on 5 known 4;", 2, 21);
        badRecords("tuned a t on 5 known 364;", 2, 21);
        badRecords("tuned a t on 5 12 1;", 2, 15);
        badRecords("tuned a t on 5 1 1 1 1;", 3, 19);
        badRecords("tuned a t on 5 1 1000;", 2, 17);
        badRecords("tuned a t on 5 1-1000;", 2, 17);
        badRecords("tuned a t on 5 1;", 1, 16);
        badRecords("tuned a t on 5 -1 1;", 1, 15);
        badRecords("tuned a t on 5 1 1 known 5;", 1, 19);
        badRecords("found a on 5;", 1, 12);
        badRecords("found a on 5 known 5;", 1, 20);
        badRecords("found a t on 5 1 1;", 1, 8);
        badRecords("broke a 4 on 5;", 2, 8);
        badRecords("broke a 0 on 5 1 1;", 1, 15);
        badRecords("paid a 0 on 5;", 2, 7);
        badRecords("paid a 10000 on 5;", 1 + 1, 7);
        badRecords("concert a on 5;", 3, 8);
        badRecords("concert h on 5 known 364;", 2, 21);
        badRecords("moved a 100 5 on 5;", 2, 8);
        badRecords("moved a 5 100 on 5;", 2, 10);
        badRecords("ate a on 1;ate b on 1;", 3, 15);
        badRecords("ate a on 1;" + times(690, " "), 1, 700);
        badRecords("ate a on 1;" + times(688, " ") + "atee", 1, 699);
        badRecords("ate a on 1;" + times(686, " ") + "ate abcdef", 1, 700);
        badRecords("ate a on 1;" + times(684, " ") + "ate bbbbbb", 3, 699);
        goodRecords("ate a on 1;" + times(689, " "), 1);
    }

    private static void faultKinds() {
        promise = "6";
        TunerRounds x = new TunerRounds();
        is("fault()", 0, x::fault);
        put(x, "cake;");
        x.house();
        is("fault()", 1, x::fault);
        is("fault() again", 1, x::fault);
        x.records();
        is("fault() of records() without", 0, x::fault);
        put(x, "ate a on 1;");
        x.records();
        is("fault()", 3, x::fault);
        x.house();
        is("fault()", 0, x::fault);
    }

    // ---- 7 to 10: plain facts

    private static void pianoFacts() {
        promise = "7";
        TunerRounds x = told("piano a school 1 2 3 4 5 6 open 7 8 stove;piano b hall 99 98 999 200 9999 9;",
            "moved a 50 51 on 0;");
        int[] a = {1, 1, 2, 3, 4, 5, 6, 1, 7, 8};
        int[] b = {2, 99, 98, 999, 200, 9999, 9, 0, 0, 1440};
        for (int i = 0; i < 10; i++) {
            int what = i;
            is("piano(0, " + i + ")", a[i], () -> x.piano(0, what));
            is("piano(1, " + i + ")", b[i], () -> x.piano(1, what));
        }
        is("piano(0, 10)", THROWS, () -> x.piano(0, 10));
        is("piano(0, -1)", THROWS, () -> x.piano(0, -1));
        is("piano(2, 0)", THROWS, () -> x.piano(2, 0));
        is("piano(-1, 0)", THROWS, () -> x.piano(-1, 0));
    }

    private static void weeks() {
        promise = "8";
        TunerRounds x = told("damp 50 51 0;term 7 9;");
        is("week(51, 0)", 0, () -> x.week(51, 0));
        is("week(49, 0)", 20, () -> x.week(49, 0));
        is("week(7, 1)", 1, () -> x.week(7, 1));
        is("week(9, 1)", 1, () -> x.week(9, 1));
        is("week(10, 1)", 0, () -> x.week(10, 1));
        is("week(52, 0)", NONE, () -> x.week(52, 0));
        is("week(-1, 0)", NONE, () -> x.week(-1, 0));
        is("week(0, 2)", NONE, () -> x.week(0, 2));
        is("week(0, -1)", NONE, () -> x.week(0, -1));
    }

    private static void beatsAndWolf() {
        promise = "9";
        TunerRounds x = told("table 1000 1060 1120 1190 1260 1330 1410 1500 1590 1680 1780 1890;");
        is("beats(0, 0)", 0, () -> x.beats(0, 0));
        is("beats(0, 1)", 40, () -> x.beats(0, 1));
        is("beats(0, 2)", 50, () -> x.beats(0, 2));
        is("beats(0, 3)", 10, () -> x.beats(0, 3));
        is("beats(5, 0)", 10, () -> x.beats(5, 0));
        is("beats(11, 0)", 30, () -> x.beats(11, 0));
        is("beats(8, 1)", 50, () -> x.beats(8, 1));
        is("beats(9, 2)", 80, () -> x.beats(9, 2));
        is("beats(7, 3)", 0, () -> x.beats(7, 3));
        is("beats(12, 0)", NONE, () -> x.beats(12, 0));
        is("beats(-1, 0)", NONE, () -> x.beats(-1, 0));
        is("beats(0, 4)", NONE, () -> x.beats(0, 4));
        is("beats(0, -1)", NONE, () -> x.beats(0, -1));
        is("beats without a table", NONE, () -> new TunerRounds().beats(0, 0));
        promise = "10";
        // |3 f - 2 f'|: 0 0 0 10 0 10 10 20 10 ... NOTE 10: 5340 - 5320 = 20; 11: 5670 - 5640 = 30.
        is("wolf(0)", 11, () -> x.wolf(0));
        is("wolf(4)", NONE, () -> x.wolf(4));
        is("wolf(-1)", NONE, () -> x.wolf(-1));
        is("wolf without a table", NONE, () -> new TunerRounds().wolf(0));
        TunerRounds even = told("table 1200 1201 1202 1203 1204 1205 1206 1207 1208 1209 1210 1211;");
        // 3 f - 2 f': 1186 at NOTE 0, one more at each up to 4; then -1185 at NOTE 5, one less at each.
        is("beats(4, 0)", 1190, () -> even.beats(4, 0));
        is("beats(5, 0)", 1185, () -> even.beats(5, 0));
        is("wolf(0)", 11, () -> even.wolf(0));
        TunerRounds low = told("table 1000 1040 1060 1100 1180 1220 1280 1320 1400 1500 1650 1750;");
        is("beats(0, 0)", 360, () -> low.beats(0, 0));
        is("the NOTE 0", 0, () -> low.wolf(0));
        TunerRounds like = told("table 1000 1030 1070 1090 1130 1210 1270 1360 1420 1510 1560 1640;");
        is("beats(9, 2)", 940, () -> like.beats(9, 2));
        is("beats(10, 2)", 940, () -> like.beats(10, 2));
        is("of like ones the least", 9, () -> like.wolf(2));
    }

    // ---- 11 to 13: where strings stand

    private static void offsets() {
        promise = "11";
        TunerRounds x = told("piano a home 0 0 100 0 0 0 slip 0 2 slip 1 0;tuner t 0 0 fork 3;tuner u 0 0 fork -4;",
            "tuned a t on 10 0 5 2 -7;tuned a u on 40 known 50;tuned a t on 30 0 1;tuned a u on 30 0 2;");
        is("left and fork", 8, () -> x.offset(0, 0, 10, NONE));
        is("a day of slip", 6, () -> x.offset(0, 0, 11, NONE));
        is("no slip", 3, () -> x.offset(0, 1, 20, NONE));
        is("slip of 1 without", -6, () -> x.offset(0, 2, 12, NONE));
        is("of like ones the last told", -2, () -> x.offset(0, 0, 30, NONE));
        is("the latest day counts", -4, () -> x.offset(0, 0, 40, NONE));
        is("not yet known", -22, () -> x.offset(0, 0, 40, 49));
        is("known", -4, () -> x.offset(0, 0, 40, 50));
        is("ahead of any", THROWS, () -> x.offset(0, 0, 9, NONE));
        is("none known", THROWS, () -> x.offset(0, 0, 10, 9));
        is("NOTE 12", THROWS, () -> x.offset(0, 12, 10, NONE));
        is("NOTE -1", THROWS, () -> x.offset(0, -1, 10, NONE));
        is("day 364", THROWS, () -> x.offset(0, 0, 364, NONE));
        is("day -1", THROWS, () -> x.offset(0, 0, -1, NONE));
        is("known 364", THROWS, () -> x.offset(0, 0, 10, 364));
        is("known -2", THROWS, () -> x.offset(0, 0, 10, -2));
        is("PIANO 1", THROWS, () -> x.offset(1, 0, 10, NONE));
        is("PIANO -1", THROWS, () -> x.offset(-1, 0, 10, NONE));
    }

    private static void offsetEdges() {
        TunerRounds moved = told("piano a home 0 0 100 0 0 0 slip 0 2;tuner t 0 0;",
            "tuned a t on 10;moved a 1 1 on 10 known 12;");
        is("the day of the move", 0, () -> moved.offset(0, 0, 10, NONE));
        is("a day behind it", -6, () -> moved.offset(0, 0, 11, NONE));
        is("21 days behind it", -126, () -> moved.offset(0, 0, 31, NONE));
        is("22 days behind it", -128, () -> moved.offset(0, 0, 32, NONE));
        is("the move not known", -2, () -> moved.offset(0, 0, 11, 11));
        TunerRounds ahead = told("piano a home 0 0 100 0 0 0;tuner t 0 0;",
            "tuned a t on 10;moved a 1 1 on 5;moved a 1 1 on 7;");
        is("moved ahead of the tuning, not three times twice", -3, () -> ahead.offset(0, 0, 11, NONE));
        is("up to day 28", -54, () -> ahead.offset(0, 0, 28, NONE));
        is("day 29", -55, () -> ahead.offset(0, 0, 29, NONE));
        TunerRounds last = told("piano a home 0 0 100 0 0 0;tuner t 0 0;", "tuned a t on 350;moved a 1 1 on 350;");
        is("moved near the end", -39, () -> last.offset(0, 0, 363, NONE));
        TunerRounds stove = told("piano a home 0 0 100 0 0 0 stove;tuner t 0 0;", "tuned a t on 60;");
        is("week 8", -6, () -> stove.offset(0, 0, 62, NONE));
        is("week 9", -7, () -> stove.offset(0, 0, 63, NONE));
        is("week 43", -(307 - 60) - 4, () -> stove.offset(0, 0, 307, NONE));
        is("week 44", -(308 - 60) - 6, () -> stove.offset(0, 0, 308, NONE));
        is("week 51", -(363 - 60) - 4 - 2 * 56, () -> stove.offset(0, 0, 363, NONE));
        TunerRounds damp = told("damp 2 2 25;damp 3 3 15;piano a home 0 0 100 0 0 0;tuner t 0 0;",
            "tuned a t on 13;tuned a t on 100;");
        is("damp above", -1 + 25, () -> damp.offset(0, 0, 14, NONE));
        is("damp below", -8 - 25, () -> damp.offset(0, 0, 21, NONE));
        is("damp as ever", -15, () -> damp.offset(0, 0, 28, NONE));
        TunerRounds wet = told("damp 2 2 25;damp 3 3 15;piano a home 0 0 100 0 0 0;tuner t 0 0;", "tuned a t on 20;");
        is("from damp to dry", -1 - 50, () -> wet.offset(0, 0, 21, NONE));
    }

    private static void offAndDue() {
        promise = "12";
        TunerRounds x = told("piano a home 0 0 10 0 0 0 slip 3 0;piano b home 0 0 10 0 0 0;tuner t 0 0;",
            "tuned a t on 0;tuned a t on 30 3 9;moved a 0 0 on 5;");
        is("off on the day", 0, () -> x.off(0, 0, NONE));
        is("off by slips", 4, () -> x.off(0, 4, NONE));
        is("off above", 9, () -> x.off(0, 31, NONE));
        is("off below", 10, () -> x.off(0, 40, NONE));
        is("never TUNED", NONE, () -> x.off(1, 40, NONE));
        is("no PIANO", -2, () -> x.off(2, 40, NONE));
        is("no day", -2, () -> x.off(0, 364, NONE));
        is("no K", -2, () -> x.off(0, 40, -2));
        promise = "13";
        is("DUE when above EAR", 41, () -> x.due(0, 30, NONE, 0));
        is("EARLY", 36, () -> x.due(0, 30, NONE, 1));
        is("LATE", NONE, () -> x.due(0, 30, NONE, 2));
        is("by RECORDS OF the day alone", 11, () -> x.due(0, 4, NONE, 0));
        is("moved on the day", 7, () -> x.due(0, 5, NONE, 0));
        is("late, moved", NONE, () -> x.due(0, 5, NONE, 2));
        is("early, moved", 6, () -> x.due(0, 0, 10, 1));
        is("early, moved, from its day", 6, () -> x.due(0, 5, NONE, 1));
        is("DUE already", 20, () -> x.due(0, 20, NONE, 0));
        is("never TUNED", 7, () -> x.due(1, 7, NONE, 0));
        is("never TUNED, late", 7, () -> x.due(1, 7, NONE, 2));
        is("on the last day", 363, () -> x.due(1, 363, NONE, 0));
        is("how 3", -2, () -> x.due(0, 0, NONE, 3));
        is("how -1", -2, () -> x.due(0, 0, NONE, -1));
        is("no PIANO", -2, () -> x.due(2, 0, NONE, 0));
        is("no day", -2, () -> x.due(0, -1, NONE, 0));
        is("no K", -2, () -> x.due(0, 0, 364, 0));
    }

    // ---- 14 to 19: findings

    private static void slipsAndSlipped() {
        promise = "14";
        String house = "piano a home 0 0 10 0 0 0;piano b home 0 0 10 0 0 0;tuner t 0 0 fork 50;";
        TunerRounds x = told(house, "tuned a t on 10 0 4;found a on 20 0 -16 1 -5;");
        is("slipped ahead of any", THROWS, () -> x.slipped(0));
        is("slips", 0, () -> x.slips(0, NONE));
        is("above", 2, () -> x.slipped(0));
        is("below", 1, () -> x.slipped(1));
        is("no PAIRS", NONE, () -> x.slips(1, NONE));
        is("not known", NONE, () -> x.slips(0, 19));
        is("what was told stays", 2, () -> x.slipped(0));
        is("no PIANO", -2, () -> x.slips(2, NONE));
        is("no K", -2, () -> x.slips(0, 364));
        is("slipped(2)", THROWS, () -> x.slipped(2));
        is("slipped(-1)", THROWS, () -> x.slipped(-1));
        put(x, "found a on 14 1 -10 2 -8;");
        x.records();
        // 0: 20 in 10; 1: 5 + 10 in 10 + 4; 2: 8 in 4, as many as 0.
        is("added, of like ones the least", 0, () -> x.slips(0, NONE));
        put(x, "found a on 12 2 -5;");
        x.records();
        // 2: 8 + 5 in 4 + 2.
        is("the most", 2, () -> x.slips(0, NONE));
        is("above", 13, () -> x.slipped(0));
        is("below", 6, () -> x.slipped(1));
        TunerRounds y = told(house, "tuned a t on 5;found a on 10 0 7 1 5;tuned a t on 10;");
        is("TUNED on the same day: no PAIR", NONE, () -> y.slips(0, NONE));
        put(y, "found b on 3 0 9;tuned b t on 4;");
        y.records();
        is("found ahead of any TUNED", NONE, () -> y.slips(1, NONE));
        put(y, "found a on 20 0 30 1 15;");
        y.records();
        promise = "15";
        is("rising strings", 1, () -> y.slips(0, NONE));
        is("above", -3, () -> y.slipped(0));
        is("below", 2, () -> y.slipped(1));
        put(y, "found a on 21 4 0;");
        y.records();
        is("no fall", 4, () -> y.slips(0, NONE));
        is("above", 0, () -> y.slipped(0));
        is("below", 1, () -> y.slipped(1));
    }

    private static void stoves() {
        promise = "16";
        TunerRounds x = told("piano s home 0 0 10 0 0 0 stove;piano b home 0 0 10 0 0 0;piano c home 0 0 10 0 0 0;tuner t 0 0;",
            "tuned s t on 0;tuned b t on 0 1 6;found s on 10 0 -30;");
        is("only with a stove", THROWS, () -> x.stove(NONE, 0));
        put(x, "found b on 4 1 -4 known 9;");
        is("'known' comes ahead of NOTES", -19, x::records);
        put(x, "found b on 4 known 9 1 -4;");
        x.records();
        is("30 by 10 less 10 by 4", 1, () -> x.stove(NONE, 0));
        is("below", 2, () -> x.stove(NONE, 1));
        is("not known", THROWS, () -> x.stove(8, 0));
        is("found b is known, found s is not", THROWS, () -> x.stove(9, 0));
        is("known", 1, () -> x.stove(10, 0));
        put(x, "tuned c t on 0;found c on 2 0 -90 3 -90;");
        x.records();
        // 10 + 180 in 4 + 4 days: 3 - 190/8 = -166/8.
        is("added over PIANOS and NOTES", -83, () -> x.stove(NONE, 0));
        is("below", 4, () -> x.stove(NONE, 1));
        is("what 2", THROWS, () -> x.stove(NONE, 2));
        is("what -1", THROWS, () -> x.stove(NONE, -1));
        is("no K", THROWS, () -> x.stove(364, 0));
        is("no HOUSE", THROWS, () -> new TunerRounds().stove(NONE, 0));
        TunerRounds like = told("piano s home 0 0 10 0 0 0 stove;piano b home 0 0 10 0 0 0;tuner t 0 0;",
            "tuned s t on 0;tuned b t on 0;found s on 4 0 -2;found b on 2 0 -1;");
        is("no difference", 0, () -> like.stove(NONE, 0));
        is("below", 1, () -> like.stove(NONE, 1));
    }

    private static void leans() {
        promise = "17";
        TunerRounds x = told("piano a home 0 0 10 0 0 0;piano b home 0 0 10 0 0 0;tuner t 0 0 fork 9;tuner u 0 0;",
            "tuned a t on 1 0 4;tuned b t on 2 0 -1;tuned a t on 3 1 7;tuned a u on 4 0 900;tuned a t on 5 known 8 0 9;");
        is("above", 4, () -> x.lean(0, 0, NONE, 0));
        is("below", 1, () -> x.lean(0, 0, NONE, 1));
        is("above AS KNOWN", 3, () -> x.lean(0, 0, 7, 0));
        is("below AS KNOWN", 2, () -> x.lean(0, 0, 7, 1));
        is("none told", THROWS, () -> x.lean(0, 2, NONE, 0));
        is("none known", THROWS, () -> x.lean(0, 0, 0, 0));
        is("no TUNER", THROWS, () -> x.lean(2, 0, NONE, 0));
        is("TUNER -1", THROWS, () -> x.lean(-1, 0, NONE, 0));
        is("no NOTE", THROWS, () -> x.lean(0, 12, NONE, 0));
        is("no K", THROWS, () -> x.lean(0, 0, -2, 0));
        is("what 2", THROWS, () -> x.lean(0, 0, NONE, 2));
        TunerRounds y = told("piano a home 0 0 10 0 0 0;tuner t 0 0;", "tuned a t on 1 0 -4;tuned a t on 2 0 1;tuned a t on 2 0 -3 5 0;");
        is("below 0", -2, () -> y.lean(0, 0, NONE, 0));
        is("below", 1, () -> y.lean(0, 0, NONE, 1));
        is("told 0", 0, () -> y.lean(0, 5, NONE, 0));
        is("told 0 below", 1, () -> y.lean(0, 5, NONE, 1));
    }

    private static void batches() {
        promise = "18";
        TunerRounds x = told("piano a home 0 0 10 0 0 7;piano b home 0 0 10 0 0 3;piano c home 0 0 10 0 0 3;");
        is("none broke: the least number", 3, () -> x.batch(NONE));
        put(x, "broke b 0 on 5;broke b 1 on 6;broke a 0 on 7;");
        x.records();
        is("like ones: 2 by 2, 1 by 1", 3, () -> x.batch(NONE));
        put(x, "broke a 0 on 8 known 20;");
        x.records();
        is("2 by 1", 7, () -> x.batch(NONE));
        is("not known", 3, () -> x.batch(19));
        is("known", 7, () -> x.batch(20));
        is("no K", NONE, () -> x.batch(364));
        is("no K", NONE, () -> x.batch(-2));
        is("no PIANOS", NONE, () -> new TunerRounds().batch(NONE));
    }

    private static long cracked(String... records) {
        return told("piano a home 0 0 10 0 0 0;piano b home 0 0 10 0 0 0;tuner t 0 0;", records).cracked(0, NONE);
    }

    private static void cracks() {
        promise = "19";
        String first = "found a on 10 0 0 1 0 2 0;";
        is("none", 0, () -> cracked());
        is("one", 0, () -> cracked(first));
        is("three NOTES", 1, () -> cracked(first, "found a on 40 0 -300 1 -300 2 -301;"));
        is("up", 1, () -> cracked(first, "found a on 40 0 300 1 300 2 301;"));
        is("31 days", 0, () -> cracked(first, "found a on 41 0 -300 1 -300 2 -301;"));
        is("two NOTES", 0, () -> cracked(first, "found a on 40 0 -300 1 -300 3 -301;"));
        is("one too little", 0, () -> cracked(first, "found a on 40 0 -300 1 -300 2 -299;"));
        is("not the same way", 0, () -> cracked(first, "found a on 40 0 -300 1 -300 2 300;"));
        is("NOTES told in one alone", 1, () -> cracked(first, "found a on 40 0 -300 1 -300 2 -300 3 5;"));
        is("told the other way round", 1, () -> cracked("found a on 40 0 -300 1 -300 2 -301;", first));
        is("one between", 0, () -> cracked(first, "found a on 40 0 -300 1 -300 2 -300;found a on 20 0 -150 1 -150 2 -150;"));
        is("the last of three told backwards", 1,
            () -> cracked("found a on 30 0 600 1 600 2 600;", "found a on 20 0 100 1 100 2 100;", first));
        is("none of three told backwards", 0,
            () -> cracked("found a on 30 0 400 1 400 2 400;", "found a on 20 0 200 1 200 2 200;", first));
        is("the first of three told backwards", 1,
            () -> cracked("found a on 30 0 -400 1 400 2 400;", "found a on 20 0 300 1 300 2 300;", first));
        is("on one day", 1, () -> cracked(first, "found a on 10 0 -300 1 -300 2 -300;"));
        is("on one day, one between as told", 0,
            () -> cracked(first, "found a on 10 9 9;found a on 10 0 -300 1 -300 2 -300;"));
        is("of another PIANO", 0, () -> cracked(first, "found b on 10 0 -300 1 -300 2 -300;"));
        TunerRounds x = told("piano a home 0 0 10 0 0 0;", first, "found a on 12 known 30 0 -300 1 -300 2 -300;");
        is("not known", 0, () -> x.cracked(0, 29));
        is("known", 1, () -> x.cracked(0, 30));
        is("no PIANO", NONE, () -> x.cracked(1, NONE));
        is("no K", NONE, () -> x.cracked(0, 364));
    }

    // ---- 20 to 26: rounds

    private static void weights() {
        promise = "20";
        TunerRounds x = told("piano h hall 0 0 10 0 0 0;piano a home 0 0 10 0 0 0;tuner t 0 0;",
            "tuned h t on 20;concert h on 30;tuned a t on 5;concert h on 50 known 49;concert h on 60 known 60;");
        is("never TUNED", 10, () -> x.weight(0, 19));
        is("TUNED", 1, () -> x.weight(0, 20));
        is("the day ahead of a concert", 50, () -> x.weight(0, 29));
        is("the day of a concert", 50, () -> x.weight(0, 30));
        is("two days ahead of it", 1, () -> x.weight(0, 28));
        is("behind it", 10, () -> x.weight(0, 31));
        is("known that day", 50, () -> x.weight(0, 49));
        is("not known the day ahead", 10, () -> x.weight(0, 59));
        is("known on its day", 50, () -> x.weight(0, 60));
        is("at home", 1, () -> x.weight(1, 15));
        is("at home, BEYOND", 10, () -> x.weight(1, 16));
        is("no PIANO", NONE, () -> x.weight(2, 0));
        is("no day", NONE, () -> x.weight(0, 364));
        is("no day", NONE, () -> x.weight(0, -1));
        is("the last day", 10, () -> x.weight(0, 363));
        put(x, "tuned h t on 28;tuned h t on 49;tuned h t on 60 known 61;");
        x.records();
        is("TUNED the day ahead", 1, () -> x.weight(0, 29));
        is("TUNED two days ahead", 50, () -> x.weight(0, 30));
        is("TUNED on the day", 1, () -> x.weight(0, 49));
        is("TUNED the day ahead of the concert's", 1, () -> x.weight(0, 50));
        is("TUNED but not known", 50, () -> x.weight(0, 60));
    }

    private static void rounds() {
        promise = "21";
        TunerRounds x = told("term 3 3;piano a home 1 0 10 0 0 0;piano b home 0 1 10 0 0 0;piano s school 0 2 10 0 0 0;"
            + "piano o home 0 0 10 0 0 0 open 600 700;piano c home 0 0 10 0 0 0 open 0 540;tuner t 0 0;tuner u 9 9;");
        is("roundAt ahead of any", NONE, () -> x.roundAt(0));
        is("home ahead of any", NONE, x::home);
        isRound(x, 0, 0, new int[] {}, 0, 480);
        isRound(x, 0, 0, new int[] {1}, 10, 550, 1);
        isRound(x, 0, 0, new int[] {1, 0}, 20, 620, 0, 1);
        isRound(x, 0, 20, new int[] {2, 1}, 20, 620, 1, 2);
        isRound(x, 0, 21, new int[] {2, 1}, 10, 550, 1);
        isRound(x, 0, 0, new int[] {3}, 10, 660, 3);
        isRound(x, 0, 0, new int[] {3, 0}, 20, 660, 0, 3);
        isRound(x, 0, 0, new int[] {4}, 10, 540, 4);
        isRound(x, 1, 0, new int[] {4}, 0, 480);
        isRound(x, 0, 0, new int[] {0, 4}, 20, 610, 4, 0);
        pianos(x, 0, 1, 0);
        is("like ones", NONE, () -> x.round(0, 0));
        is("the tape is empty", 0, () -> x.count(4));
        is("home stays", 610, x::home);
        pianos(x, 5);
        is("no PIANO", NONE, () -> x.round(0, 0));
        pianos(x, 0);
        is("no TUNER", NONE, () -> x.round(2, 0));
        pianos(x, 0);
        is("no TUNER", NONE, () -> x.round(-1, 0));
        pianos(x, 0);
        is("no day", NONE, () -> x.round(0, 364));
        is("and the tape is empty", 0, () -> x.count(4));
        is("roundAt(0) stays", 4, () -> x.roundAt(0));
        is("roundAt(-1)", NONE, () -> x.roundAt(-1));
        TunerRounds ten = told(times(10, "piano # home 0 0 10 0 0 0;") + "tuner t 0 0;work 10;");
        isRound(ten, 0, 0, new int[] {8, 7, 6, 5, 4, 3, 2, 1, 0}, 90, 570, 0, 1, 2, 3, 4, 5, 6, 7, 8);
        pianos(ten, 0, 1, 2, 3, 4, 5, 6, 7, 8, 9);
        is("ten PIANOS", NONE, () -> ten.round(0, 0));
        isRound(ten, 0, 0, new int[] {9}, 10, 490, 9);
        promise = "22, 23";
        pianos(ten, 3, 2);
        is("walked", 500, () -> ten.walked(0, 0));
        is("home by the latest round()", 490, ten::home);
        is("roundAt by the latest round()", 9, () -> ten.roundAt(0));
    }

    private static void roundTies() {
        promise = "21 ties";
        TunerRounds day = told("day 480 560;piano a home 2 0 10 0 0 0;piano b home 1 0 10 0 0 0;piano c home 0 1 10 0 0 0;tuner t 0 0;");
        isRound(day, 0, 0, new int[] {0, 1, 2}, 10, 550, 1);
        TunerRounds exact = told("day 480 550;piano a home 1 0 10 0 0 0;tuner t 0 0;");
        isRound(exact, 0, 0, new int[] {0}, 10, 550, 0);
        TunerRounds late = told("day 480 549;piano a home 1 0 10 0 0 0;tuner t 0 0;");
        isRound(late, 0, 0, new int[] {0}, 0, 480);
        TunerRounds heavy = told("day 480 620;piano a home 1 0 10 0 0 0;piano h hall 9 0 10 0 0 0;piano b home 0 0 10 0 0 0;"
            + "work 50;tuner t 0 0;", "concert h on 1;");
        isRound(heavy, 0, 0, new int[] {0, 1, 2}, 50, 620, 1);
        isRound(heavy, 0, 2, new int[] {0, 1, 2}, 20, 590, 0, 2);
        TunerRounds moved = told("piano a home 1 0 10 0 0 0;piano b home 2 0 10 0 0 0;tuner t 0 0;",
            "moved a 3 0 on 5;moved b 0 0 on 4 known 6;moved b 1 0 on 3;");
        isRound(moved, 0, 4, new int[] {0, 1}, 20, 610, 0, 1);
        isRound(moved, 0, 5, new int[] {0, 1}, 20, 630, 0, 1);
        isRound(moved, 0, 6, new int[] {0}, 10, 570, 0);
        isRound(moved, 0, 6, new int[] {1}, 10, 540, 1);
        // Both waits end at 600, so the order ahead of it is free: the first one is taken.
        TunerRounds wait = told("piano a home 0 0 10 0 0 0 open 600 1440;piano b home 1 0 10 0 0 0;piano c home 0 1 10 0 0 0;"
            + "work 20;tuner t 0 0;");
        isRound(wait, 0, 0, new int[] {2, 1, 0}, 30, 620, 1, 2, 0);
    }

    private static void walkedOnes() {
        promise = "24";
        TunerRounds x = told("term 3 3;piano a home 1 0 10 0 0 0;piano b home 0 1 10 0 0 0 open 0 615;piano s school 0 2 10 0 0 0;"
            + "piano c home 0 1 10 0 0 0 open 0 614;piano o home 9 9 10 0 0 0 open 960 1440;tuner t 0 0;");
        pianos(x);
        is("none", 480, () -> x.walked(0, 0));
        pianos(x, 0, 1);
        is("done by 'open' B", 620, () -> x.walked(0, 0));
        pianos(x, 0, 3);
        is("a minute late", -3, () -> x.walked(0, 0));
        pianos(x, 3, 0);
        is("the other way", 620, () -> x.walked(0, 0));
        pianos(x, 2);
        is("school", 560, () -> x.walked(0, 20));
        pianos(x, 0, 2, 1);
        is("shut", -3, () -> x.walked(0, 27));
        pianos(x, 2);
        is("shut", -2, () -> x.walked(0, 21));
        pianos(x, 4);
        is("home too late", -3, () -> x.walked(0, 0));
        pianos(x, 0, 4);
        is("home too late", -4, () -> x.walked(0, 0));
        is("the tape is empty", 0, () -> x.count(4));
        pianos(x, 0, 0);
        is("like ones", NONE, () -> x.walked(0, 0));
        pianos(x, 6);
        is("no PIANO", NONE, () -> x.walked(0, 0));
        pianos(x, 0);
        is("no TUNER", NONE, () -> x.walked(1, 0));
        pianos(x, 0);
        is("no day", NONE, () -> x.walked(0, -1));
        is("the tape is empty", 0, () -> x.count(4));
    }

    private static void twoTuners() {
        promise = "25";
        TunerRounds x = told("day 480 560;piano a home 0 0 10 0 0 0;piano b home 0 0 10 0 0 0;piano h hall 9 0 10 0 0 0;"
            + "tuner t 0 0;tuner u 9 0;tuner v 0 0;", "concert h on 0;");
        pianos(x, 0, 1, 2);
        is("each one", 60, () -> x.two(0, 1, 0));
        pianos(x, 0, 1, 2);
        is("two at one place", 20, () -> x.two(0, 2, 0));
        pianos(x, 0);
        is("one PIANO for two", 10, () -> x.two(2, 0, 0));
        pianos(x);
        is("no PIANOS", 0, () -> x.two(0, 1, 0));
        pianos(x, 0);
        is("one TUNER", NONE, () -> x.two(1, 1, 0));
        is("the tape is empty", 0, () -> x.count(4));
        pianos(x, 0);
        is("no TUNER", NONE, () -> x.two(0, 3, 0));
        pianos(x, 0);
        is("no TUNER", NONE, () -> x.two(-1, 0, 0));
        pianos(x, 0);
        is("no day", NONE, () -> x.two(0, 1, 364));
        pianos(x, 0, 0);
        is("like ones", NONE, () -> x.two(0, 1, 0));
    }

    private static void festivals() {
        promise = "26";
        TunerRounds x = told("term 5 5;day 480 610;piano a home 0 0 10 0 0 0;piano b home 0 0 10 0 0 0;piano c home 9 0 10 0 0 0;"
            + "piano s school 0 0 10 0 0 0;tuner t 9 9;tuner u 9 0;tuner v 0 0;tuner w 0 0;");
        pianos(x);
        is("no PIANOS", 0, () -> x.festival(0));
        pianos(x, 0, 1);
        is("one TUNER, the least bits", 4, () -> x.festival(0));
        pianos(x, 2);
        is("c alone", 2, () -> x.festival(0));
        pianos(x, 0, 1, 2);
        is("two TUNERS", 6, () -> x.festival(0));
        pianos(x, 0, 1, 3);
        is("two of the hither side", 12, () -> x.festival(0));
        pianos(x, 0, 1, 2, 3);
        is("three TUNERS or two", 6 + 8, () -> x.festival(0));
        pianos(x, 3);
        is("shut", NONE, () -> x.festival(35));
        pianos(x, 0, 0);
        is("like ones", -2, () -> x.festival(0));
        is("the tape is empty", 0, () -> x.count(4));
        pianos(x, 4);
        is("no PIANO", -2, () -> x.festival(0));
        pianos(x, 0);
        is("no day", -2, () -> x.festival(364));
        TunerRounds third = told("day 480 610;piano a home 0 0 10 0 0 0;piano b home 20 0 10 0 0 0;"
            + "tuner t 0 0;tuner u 20 0;tuner v 10 0;work 10;");
        pianos(third, 0, 1);
        is("two, for the third can't", 3, () -> third.festival(0));
        TunerRounds middle = told("day 480 600;piano a home 0 0 10 0 0 0;piano b home 8 0 10 0 0 0;"
            + "tuner t 0 6;tuner u 8 6;tuner v 4 0;work 20;");
        pianos(middle, 0, 1);
        is("the third alone ahead of the first two", 4, () -> middle.festival(0));
        TunerRounds none = told("piano a home 0 0 10 0 0 0;");
        pianos(none, 0);
        is("no TUNERS", NONE, () -> none.festival(0));
    }

    // ---- 27 to 33: halls and fees

    private static void concerts() {
        promise = "27";
        TunerRounds x = told("piano h hall 0 0 10 0 0 0;piano a home 0 0 10 0 0 0;tuner t 0 0;", "concert h on 30 known 20;concert h on 50;");
        is("none TUNED", 2, () -> x.unready(0, NONE));
        is("one known", 1, () -> x.unready(0, 19));
        put(x, "tuned h t on 28;tuned h t on 47;");
        x.records();
        is("two days ahead, three days ahead", 1, () -> x.unready(0, NONE));
        is("not known", 2, () -> x.unready(0, 27));
        put(x, "tuned h t on 50 0 11;");
        x.records();
        is("BEYOND on its day", 1, () -> x.unready(0, NONE));
        put(x, "tuned h t on 50 0 10;");
        x.records();
        is("not BEYOND", 0, () -> x.unready(0, NONE));
        is("no hall", NONE, () -> x.unready(1, NONE));
        is("no PIANO", NONE, () -> x.unready(2, NONE));
        is("no K", NONE, () -> x.unready(0, 364));
        promise = "28";
        TunerRounds y = told("damp 1 1 25;piano h hall 0 0 10 0 0 0;piano g hall 0 0 19 0 0 0 slip 0 20;piano a home 0 0 10 0 0 0;"
            + "tuner t 0 0;tuner u 0 0 fork 11;",
            "concert h on 5;concert h on 7 known 9;concert h on 18;concert h on 22;concert g on 5;concert g on 6;",
            "tuned h t on 0;tuned h t on 11;tuned h u on 22;tuned g t on 5;");
        is("nobody's", 0, () -> y.whose(0, 0, NONE));
        is("the damp's", 3, () -> y.whose(0, 1, NONE));
        is("the damp's, from a damp week to a dry one", 3, () -> y.whose(0, 2, NONE));
        is("the TUNER's", 2, () -> y.whose(0, 3, NONE));
        is("k AS KNOWN", 3, () -> y.whose(0, 1, 8 + 3));
        is("k AS KNOWN, not TUNED for it", 1, () -> y.whose(0, 1, 8));
        is("nobody's", 0, () -> y.whose(1, 0, NONE));
        is("the strings'", 4, () -> y.whose(1, 1, NONE));
        is("never TUNED", 1, () -> y.whose(1, 1, 4));
        is("no such k", NONE, () -> y.whose(0, 4, NONE));
        is("no such k", NONE, () -> y.whose(0, 3, 8));
        is("k -1", NONE, () -> y.whose(0, -1, NONE));
        is("no hall", NONE, () -> y.whose(2, 0, NONE));
        is("no PIANO", NONE, () -> y.whose(3, 0, NONE));
        is("no K", NONE, () -> y.whose(0, 0, -2));
        TunerRounds z = told("piano h hall 0 0 6 0 0 0;tuner t 0 0;", "tuned h t on 10;concert h on 17;concert h on 18;concert h on 16;");
        is("seven days ahead", 4, () -> z.whose(0, 0, NONE));
        is("eight days ahead", 1, () -> z.whose(0, 1, NONE));
        is("six days ahead", 0, () -> z.whose(0, 2, NONE));
        TunerRounds edge = told("damp 1 1 21;piano h hall 0 0 10 0 0 0;piano g hall 0 0 10 0 0 0;tuner t 0 0;",
            "tuned h t on 10 0 -10;concert h on 10;concert h on 11;concert h on 9;",
            "tuned g t on 6 3 -9;concert g on 6;concert g on 14;tuned g t on 13 4 -9;");
        is("left at EAR", 0, () -> edge.whose(0, 0, NONE));
        is("left at EAR and slipped", 4, () -> edge.whose(0, 1, NONE));
        is("ahead of any TUNED", 1, () -> edge.whose(0, 2, NONE));
        is("nobody's", 0, () -> edge.whose(1, 0, NONE));
        is("at EAR but for the damp", 3, () -> edge.whose(1, 1, NONE));
        TunerRounds slow = told("piano h hall 0 0 2 0 0 0;tuner t 0 0;", "tuned h t on 10;concert h on 12;");
        is("READY at EAR", 0, () -> slow.unready(0, NONE));
    }

    private static void fees() {
        promise = "29";
        TunerRounds x = told("fee home 50 10;fee home 70 20;fee home 60 15;fee home 80 20;fee hall 9 0;"
            + "piano a home 0 0 10 0 0 0;piano s school 0 0 10 0 0 0;piano h hall 0 0 10 0 0 0;");
        is("ahead of any", 0, () -> x.fee(0, 9));
        is("from its DAY", 50, () -> x.fee(0, 10));
        is("the latest DAY", 60, () -> x.fee(0, 19));
        is("of like ones the last", 80, () -> x.fee(0, 20));
        is("none of its KIND", 0, () -> x.fee(1, 363));
        is("hall", 9, () -> x.fee(2, 0));
        is("no PIANO", NONE, () -> x.fee(3, 0));
        is("no day", NONE, () -> x.fee(0, 364));
        is("no day", NONE, () -> x.fee(0, -1));
    }

    private static void owedAndFree() {
        promise = "30";
        TunerRounds x = told("fee home 50 0;fee home 60 20;sure 5;cake 7;piano a home 0 0 10 0 0 0;piano b home 0 0 10 0 0 0;tuner t 0 0;",
            "tuned a t on 10;tuned a t on 15;tuned a t on 21;paid a 30 on 12;ate a on 13;ate a on 14 known 40;tuned b t on 1;");
        is("ahead of any", 0, () -> x.owed(0, 9, NONE));
        is("a FEE", 50, () -> x.owed(0, 11, NONE));
        is("less paid", 20, () -> x.owed(0, 12, NONE));
        is("less cake", 6, () -> x.owed(0, 14, NONE));
        is("AS KNOWN", 13, () -> x.owed(0, 14, 39));
        is("the second is FREE", 6, () -> x.owed(0, 15, NONE));
        is("six days behind it is not, at the new FEE", 66, () -> x.owed(0, 363, NONE));
        is("the other", 50, () -> x.owed(1, 363, NONE));
        is("below 0", -30, () -> told("piano a home 0 0 10 0 0 0;", "paid a 30 on 12;").owed(0, 12, NONE));
        is("no PIANO", THROWS, () -> x.owed(2, 0, NONE));
        is("no day", THROWS, () -> x.owed(0, 364, NONE));
        is("no K", THROWS, () -> x.owed(0, 0, 364));
        promise = "31";
        is("none yet", 0, () -> x.free(0, 14, NONE));
        is("one", 1, () -> x.free(0, 15, NONE));
        is("one up to the end", 1, () -> x.free(0, 363, NONE));
        is("no PIANO", NONE, () -> x.free(2, 0, NONE));
        is("no day", NONE, () -> x.free(0, -1, NONE));
        is("no K", NONE, () -> x.free(0, 0, -2));
        put(x, "tuned a t on 10;");
        x.records();
        is("one of the same day is not ahead", 1, () -> x.free(0, 363, NONE));
        put(x, "tuned a t on 16 known 30;");
        x.records();
        is("16 is FREE, and so is 21 then", 3, () -> x.free(0, 363, NONE));
        is("not yet known", 1, () -> x.free(0, 363, 29));
        TunerRounds one = told("sure 1;piano a home 0 0 10 0 0 0;tuner t 0 0;", "tuned a t on 10;tuned a t on 11;tuned a t on 13;");
        is("'sure' 1", 1, () -> one.free(0, 363, NONE));
        TunerRounds unsure = told("fee home 50 0;piano a home 0 0 10 0 0 0;tuner t 0 0;", "tuned a t on 10;tuned a t on 11;");
        is("'sure' 0", 0, () -> unsure.free(0, 363, NONE));
        is("'sure' 0", 100, () -> unsure.owed(0, 363, NONE));
    }

    private static void tuningsAndPast() {
        promise = "32";
        String rest = "tuner t 0 0 fork 2;fee home 10 0;fee home 11 6;";
        TunerRounds x = told("piano a home 0 0 10 0 330 0;piano b home 0 0 999 0 0 0;piano c home 0 0 10 0 329 0;" + rest,
            "tuned a t on 0 0 -2 1 -2 2 -2 3 -2 4 -2 5 -2 6 -2 7 -2 8 -2 9 -2 10 -2 11 -2;tuned b t on 0;tuned c t on 0;");
        is("each 11 days", 33, () -> x.tunings(0, 0, NONE));
        is("none", 0, () -> x.tunings(1, 0, NONE));
        is("with the fork: 13, 24 .. 354", 32, () -> x.tunings(2, 0, NONE));
        is("BEYOND already: 20, 31 .. 361", 32, () -> x.tunings(0, 20, NONE));
        is("on the last day", 1, () -> x.tunings(0, 363, NONE));
        is("not BEYOND on the last day", 0, () -> x.tunings(1, 363, NONE));
        is("no PIANO", NONE, () -> x.tunings(3, 0, NONE));
        is("no day", NONE, () -> x.tunings(0, 364, NONE));
        is("no K", NONE, () -> x.tunings(0, 0, 364));
        TunerRounds never = told("piano a home 0 0 10 0 0 0;", "moved a 1 1 on 3;");
        is("never TUNED: 4, then by threes 8, 12, 16, 20, 24, then 35 .. 354", 36, () -> never.tunings(0, 4, NONE));
        is("the move is not OF day 2: 2, 13 .. 354", 33, () -> never.tunings(0, 2, NONE));
        promise = "33";
        is("330 is not above 330", 0, () -> x.past(0, 0, NONE));
        is("32 times 11 is", 1, () -> x.past(0, 20, NONE));
        is("none", 0, () -> x.past(1, 0, NONE));
        is("320 is not above 329", 0, () -> x.past(2, 0, NONE));
        is("32 times 11 from day 6", 1, () -> x.past(2, 6, NONE));
        is("no PIANO", NONE, () -> x.past(3, 0, NONE));
        is("no day", NONE, () -> x.past(0, -1, NONE));
        is("no K", NONE, () -> x.past(0, 0, -2));
    }

    // ---- 34 to 40

    private static void bags() {
        promise = "34, 35";
        long whole = 1000000000000000L;
        TunerRounds x = told("piano a home 0 0 10 0 0 0 frail 0 5 frail 3 10;piano b home 0 0 10 0 0 0 frail 0 5;"
            + "piano c home 0 0 10 0 0 0;piano d home 0 0 10 0 0 0 frail 1 20;piano e home 0 0 10 0 0 0 frail 1 20;"
            + "piano f home 0 0 10 0 0 0 frail 1 10 frail 2 10;");
        is("chance() ahead of any", 0, x::chance);
        isBag(x, 0, new int[] {0}, 0, whole / 8 * 3);
        isBag(x, 1, new int[] {0}, 1, whole / 4 * 3);
        isBag(x, 2, new int[] {0}, 1001, whole);
        isBag(x, 12, new int[] {0}, 1001, whole);
        // 225, 375 and 400 of 400 with 0, 1 and 2 of G 0; half with none of G 3.
        isBag(x, 1, new int[] {0, 1}, 1, whole / 16 * 9);
        isBag(x, 2, new int[] {1, 0}, 1001, whole / 16 * 15);
        isBag(x, 3, new int[] {1, 0}, 2001, whole);
        isBag(x, 12, new int[] {2}, 0, whole);
        isBag(x, 1, new int[] {3, 4}, 0, 0);
        isBag(x, 2, new int[] {3, 4}, 200, whole);
        isBag(x, 1, new int[] {5}, 10, whole / 2);
        pianos(x);
        is("no PIANOS", NONE, () -> x.bag(1));
        pianos(x, 0, 0);
        is("like ones", NONE, () -> x.bag(1));
        pianos(x, 6);
        is("no PIANO", NONE, () -> x.bag(1));
        pianos(x, 0);
        is("13 strings", NONE, () -> x.bag(13));
        is("the tape is empty", 0, () -> x.count(4));
        pianos(x, 0);
        is("-1 strings", NONE, () -> x.bag(-1));
        is("chance() stays", whole / 2, x::chance);
        TunerRounds many = told(times(9, "piano # home 0 0 10 0 0 0 frail 0 20 frail 2 7 frail 3 3;"));
        isBag(many, 7, new int[] {0, 1, 2, 3, 4, 5, 6, 7}, 0, 0);
        // (13 by 20)^8, then (17 by 20)^8, each cut.
        isBag(many, 8, new int[] {0, 1, 2, 3, 4, 5, 6, 7}, 8000, 8682769236553L);
        pianos(many, 0, 1, 2, 3, 4, 5, 6, 7, 8);
        is("nine PIANOS", NONE, () -> many.bag(1));
    }

    private static void pupils() {
        promise = "36, 37";
        TunerRounds x = told("tuner t 0 0;tuner u 0 0;pupil x;pupil y;pupil z;teach t x 5;teach t y 9;teach u x 8;teach u z 99;"
            + "teach t x 6;");
        is("pupilOf ahead of any", NONE, () -> x.pupilOf(0));
        is("pupils()", 17, x::pupils);
        is("pupilOf(0)", 1, () -> x.pupilOf(0));
        is("pupilOf(1)", 0, () -> x.pupilOf(1));
        is("pupilOf(2)", NONE, () -> x.pupilOf(2));
        is("pupilOf(-1)", NONE, () -> x.pupilOf(-1));
        put(x, "pupil x;");
        x.house();
        is("no TUNERS", NONE, x::pupils);
        is("the latest that was not NONE", 1, () -> x.pupilOf(0));
        put(x, "tuner t 0 0;");
        x.house();
        is("no PUPILS", NONE, x::pupils);
        TunerRounds like = told("tuner t 0 0;tuner u 0 0;tuner v 0 0;pupil x;pupil y;teach u x 4;teach v x 4;teach u y 4;teach v y 4;");
        is("like ones", 8, like::pupils);
        is("the lesser TUNER", 1, () -> like.pupilOf(0));
        is("the other", 2, () -> like.pupilOf(1));
        TunerRounds none = told(times(6, "tuner #a 0 0;") + times(6, "pupil #b;"));
        is("nothing taught", 0, none::pupils);
        for (int k = 0; k < 6; k++) {
            int at = k;
            is("as they come", k, () -> none.pupilOf(at));
        }
        is("pupilOf(6)", NONE, () -> none.pupilOf(6));
    }

    private static void images() {
        promise = "38, 39";
        TunerRounds x = told("piano a home 0 0 10 0 0 0 slip 0 3;tuner t 0 0;damp 0 0 5;fee home 5 5;", "tuned a t on 3;");
        is("restore(0) of nothing", 0, () -> bit(x.restore(0)));
        is("image(0)", 1, () -> bit(x.image(0)));
        is("restore(1) of nothing", 0, () -> bit(x.restore(1)));
        is("image(2)", 0, () -> bit(x.image(2)));
        is("image(-1)", 0, () -> bit(x.image(-1)));
        is("restore(2)", 0, () -> bit(x.restore(2)));
        is("restore(-1)", 0, () -> bit(x.restore(-1)));
        pianos(x, 0);
        x.round(0, 0);
        put(x, "pupil q;piano b hall 1 1 1 1 1 1;");
        x.house();
        is("image(1)", 1, () -> bit(x.image(1)));
        put(x, "nothing");
        x.house();
        put(x, "four");
        is("restore(0)", 1, () -> bit(x.restore(0)));
        is("the tape stays", 4, () -> x.count(4));
        is("the fault stays", 1, x::fault);
        is("the round stays", 0, () -> x.roundAt(0));
        is("PIANOS", 1, () -> x.count(0));
        is("PUPILS", 0, () -> x.count(2));
        is("RECORDS", 1, () -> x.count(3));
        is("fees", 1, () -> x.count(6));
        is("damp", 5, () -> x.week(0, 0));
        is("slip", -3, () -> x.offset(0, 0, 4, NONE));
        x.end(0);
        put(x, "tuned a t on 4;ate a on 5;");
        is("RECORDS go on", 3, x::records);
        is("restore(0) again", 1, () -> bit(x.restore(0)));
        is("the image is as it was", 1, () -> x.count(3));
        is("restore(1)", 1, () -> bit(x.restore(1)));
        is("PUPILS", 1, () -> x.count(2));
        is("KIND", 2, () -> x.piano(0, 0));
        is("RECORDS", 0, () -> x.count(3));
        put(x, "concert b on 5;");
        is("names are as kept", 1, x::records);
        TunerRounds y = told("piano a home 9 9 10 0 0 0;tuner t 0 0;",
            "tuned a t on 3 known 7 2 44;paid a 5 on 6;moved a 2 3 on 4;found a on 9 2 -1;");
        y.image(1);
        put(y, "piano a home 0 0 10 0 0 0;tuner t 0 0;");
        y.house();
        put(y, "ate a on 1;ate a on 1;ate a on 1;ate a on 1;");
        y.records();
        y.restore(1);
        is("what was left", 44, () -> y.offset(0, 2, 3, NONE));
        is("when it was known", THROWS, () -> y.offset(0, 2, 3, 6));
        is("what was told", 44, () -> y.lean(0, 2, NONE, 0));
        is("what was found", 2, () -> y.slips(0, NONE));
        is("its fall", 15, () -> y.slipped(0));
        is("its days", 2, () -> y.slipped(1));
        is("what was paid", -5, () -> y.owed(0, 363, NONE));
        pianos(y, 0);
        is("where it was moved", 480 + 25 + 60 + 25, () -> y.walked(0, 5));
    }

    private static void counts() {
        promise = "40";
        TunerRounds x = told("piano a hall 0 0 10 0 0 0;piano b hall 0 0 10 0 0 0;tuner t 0 0;tuner u 0 0;tuner v 0 0;"
            + "pupil p;fee home 5 5;fee home 5 5;fee hall 5 5;fee hall 5 5;", "concert a on 5;concert b on 6 known 9;ate a on 5;");
        put(x, "12345");
        int[] due = {2, 3, 1, 3, 5, 2, 4};
        for (int i = 0; i < 7; i++) {
            int what = i;
            is("count(" + i + ")", due[i], () -> x.count(what));
        }
        is("count(7)", NONE, () -> x.count(7));
        is("count(-1)", NONE, () -> x.count(-1));
    }
}
