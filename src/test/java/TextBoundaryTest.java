/**
 * The boundary cases that the document names for texts: TOKENS, the HOUSE, RECORDS, FAULTS and their places,
 * each sentence with a test of its own, on both sides of the boundary where it has two.
 */
public final class TextBoundaryTest extends Checks {
    private static final String TABLE = "table 1000 1001 1002 1003 1004 1005 1006 1007 1008 1009 1010 1011;";
    private static final String PIANO = "piano a home 1 1 1 1 1 1";
    private static final String TEACHING = "tuner t 1 1;pupil q;";

    private static final String[] RESERVED = {"table", "damp", "term", "fee", "sure", "cake", "walk", "work", "day",
        "piano", "tuner", "fork", "pupil", "teach", "home", "school", "hall", "stove", "slip", "frail", "open",
        "tuned", "found", "broke", "paid", "ate", "concert", "moved", "on", "known"};

    private static final String[] HOUSE_LINES = {
        "table 1000 1001 1002 1003 1004 1005 1006 1007 1008 1009 1010 1011 ;", "damp 5 5 5 ;", "term 5 5 ;",
        "fee home 5 5 ;", "fee school 5 5 ;", "fee hall 5 5 ;", "sure 5 ;", "cake 5 ;", "walk 5 ;", "work 50 ;",
        "day 5 6 ;", "piano a home 1 1 1 1 1 1 stove slip 0 5 frail 0 5 open 5 6 ;", "piano a school 1 1 1 1 1 1 ;",
        "piano a hall 1 1 1 1 1 1 ;", "tuner u 1 1 fork - 5 ;", "tuner u 1 1 fork 5 ;", "pupil v ;", "teach t q 5 ;"};

    private static final String[] RECORD_LINES = {
        "tuned a t on 5 known 6 0 - 5 1 5 ;", "found a on 5 known 6 0 - 5 1 5 ;", "broke a 0 on 5 known 6 ;",
        "paid a 5 on 5 known 6 ;", "ate a on 5 known 6 ;", "concert h on 5 known 6 ;", "moved a 5 5 on 5 known 6 ;"};

    public static void main(String[] args) {
        blanksAreTwoSigns();
        wordsHaveOneToEightLetters();
        numbersHaveOneToFiveDigits();
        runsOfLettersAndDigits();
        linesCutShort();
        tokensThatCannotComeInHouse();
        tokensThatCannotComeInRecords();
        houseOfAtMost1200Bytes();
        tokensAcross1200();
        recordsOfAtMost700Bytes();
        tokensAcross700();
        numbersOfRules();
        numbersOfTable();
        numbersOfWeeks();
        numbersOfPianos();
        numbersOfTuners();
        toldOnce();
        namesAreNoReservedWords();
        namesToldOnce();
        namesOfAnotherSort();
        sixteenSixSixSixteen();
        lastOfAll();
        numberedAsTold();
        numbersOfRecords();
        whenKnown();
        notesOfRecords();
        halls();
        namesInRecords();
        twoHundredRecords();
        firstFaultAlongTheText();
        leastFaultOfOneToken();
        houseStaysOrGoes();
        recordsComeOrNot();
        kindOfTheLatestFault();
        finish("TextBoundaryTest");
    }

    // ---- TOKENS

    private static void blanksAreTwoSigns() {
        promise = "blanks (32, 10)";
        for (int sign = 0; sign < 256; sign++) {
            String text = "cake" + (char) sign + "5;";
            boolean isRun = sign >= 'a' && sign <= 'z' || sign >= '0' && sign <= '9';
            if (sign == 32 || sign == 10) {
                goodHouse(text, 1);
            } else {
                badHouse(text, 1, isRun ? 0 : 4);
            }
            if (sign != 32 && sign != 10) {
                badHouse((char) sign + "cake 5;", 1, 0);
                badRecords("ate" + (char) sign + "a on 1;", 1, isRun ? 0 : 3);
            }
        }
        promise = "blanks between them or not";
        goodHouse("cake 5;sure 5;", 2);
        goodHouse("  \n cake\n\n5 \n ; \n sure  5  ;\n\n", 2);
        goodHouse("tuner t 1 1 fork-5;tuner u 1 1 fork - 5;tuner v 1 1 fork -5;tuner w 1 1 fork- 5;", 4);
        goodRecords("tuned a t on 1 0-5 1 - 5 2 -5 3- 5;", 1);
        goodRecords("\nate a on 1 ;\n \nate a on\n2;", 2);
    }

    private static void wordsHaveOneToEightLetters() {
        promise = "WORDS: small letters, 1 to 8";
        for (char letter = 'a'; letter <= 'z'; letter++) {
            goodHouse("pupil " + letter + ";", 1);
        }
        goodHouse("pupil ab;pupil abcdefgh;pupil zzzzzzzz;pupil abcdefgi;", 4);
        badHouse("pupil abcdefghi;", 1, 6);
        badHouse("pupil zzzzzzzzzzzzzzzz;", 1, 6);
        badHouse("pupil ;", 1, 6);
        for (char sign : new char[] {'`', '{', 'A', 'Z', '_', '@', '['}) {
            badHouse("pupil " + sign + ";", 1, 6);
            badHouse("pupil b" + sign + ";", 1, 7);
        }
        promise = "WORDS of another case or length";
        badHouse("Cake 5;", 1, 0);
        badHouse("cak 5;", 1, 0);
        badHouse("cakes 5;", 1, 0);
        badHouse("cakecake 5;", 1, 0);
        // What is longer than a WORD must not be taken for the WORD that its last or first letters make.
        badHouse("aaaaaaaaacake 5;", 1, 0);
        badHouse("cakeaaaaaaaaa 5;", 1, 0);
    }

    private static void numbersHaveOneToFiveDigits() {
        promise = "NUMBERS: 1 to 5 digits";
        goodHouse("cake 5;", 1);
        goodHouse("cake 05;", 1);
        goodHouse("cake 00005;", 1);
        goodHouse("cake 00000;", 1);
        badHouse("cake 000005;", 1, 5);
        badHouse("cake 000000;", 1, 5);
        badHouse("cake 4294967301;", 1, 5);
        badHouse("cake 99999;", 2, 5);
        badHouse("cake 100000;", 1, 5);
        goodHouse("cake 0;", 1);
        goodHouse("cake 909;", 1);
        badHouse("cake /;", 1, 5);
        badHouse("cake :;", 1, 5);
        badHouse("cake 5/;", 1, 6);
        badHouse("cake 5:;", 1, 6);
        badRecords("paid a 000005 on 1;", 1, 7);
        goodRecords("paid a 00005 on 00001;", 1);
    }

    private static void runsOfLettersAndDigits() {
        promise = "A WORD, NUMBER goes on as long as small letters and digits do";
        badHouse("cake5;", 1, 0);
        badHouse("cake 5a;", 1, 5);
        badHouse("cake a5;", 1, 5);
        badHouse("cake 5cake;", 1, 5);
        badHouse("pupil a1;", 1, 6);
        badHouse("pupil 1a;", 1, 6);
        badHouse("pupil abcdefg1;", 1, 6);
        badHouse("day 1 2day;", 1, 6);
        badRecords("ate a on1;", 1, 6);
        badRecords("tuned a t on 1 0 5a;", 1, 17);
        promise = "other signs";
        badHouse("cake -5;", 1, 5);
        badHouse("cake 5-;", 1, 6);
        badHouse("cake 5.;", 1, 6);
        badHouse("cake 5,;", 1, 6);
        badHouse(".", 1, 0);
        badHouse("-", 1, 0);
        badHouse(";", 1, 0);
        badHouse("cake 5;;", 1, 7);
        badRecords(";", 1, 0);
        badRecords("ate a on 1;;", 1, 11);
    }

    // ---- FAULT 1: one that can't come, the end

    private static void linesCutShort() {
        promise = "the end: how many bytes there are";
        for (String line : HOUSE_LINES) {
            goodHouse(TEACHING + line, 3);
            for (int at = line.indexOf(' '); at >= 0; at = line.indexOf(' ', at + 1)) {
                String cut = TEACHING + line.substring(0, at);
                badHouse(cut, 1, cut.length());
                badHouse(cut + " \n ", 1, cut.length() + 3);
            }
        }
        for (String line : RECORD_LINES) {
            goodRecords(line, 1);
            for (int at = line.indexOf(' '); at >= 0; at = line.indexOf(' ', at + 1)) {
                badRecords(line.substring(0, at), 1, at);
                badRecords(line.substring(0, at) + "\n\n", 1, at + 2);
            }
        }
        goodHouse("", 0);
        goodHouse(" ", 0);
        goodRecords("", 0);
        goodRecords("\n", 0);
    }

    private static String otherThan(String token) {
        char first = token.charAt(0);
        if (first >= 'a' && first <= 'z') {
            return "-";
        }
        return first == '-' ? ";" : "zz";
    }

    private static void tokensThatCannotComeInHouse() {
        promise = "1 no TOKEN, or one that can't come (at it), in a HOUSE";
        for (String line : HOUSE_LINES) {
            String[] tokens = line.split(" ");
            StringBuilder ahead = new StringBuilder(TEACHING);
            for (String token : tokens) {
                badHouse(ahead + otherThan(token) + " ;", 1, ahead.length());
                badHouse(ahead + ". ;", 1, ahead.length());
                badHouse(ahead + "aa11 ;", 1, ahead.length());
                ahead.append(token).append(' ');
            }
            String whole = TEACHING + line.substring(0, line.length() - 1);
            badHouse(whole + "7;", 1, whole.length());
            badHouse(whole + "-;", 1, whole.length());
            badHouse(whole + "known;", 1, whole.length());
        }
        for (String word : RESERVED) {
            boolean begins = "table damp term fee sure cake walk work day piano tuner pupil teach ".contains(word + " ");
            if (!begins) {
                badHouse(word + " 5;", 1, 0);
            }
        }
        badHouse("pupil a fork 5;", 1, 8);
        badHouse("tuner t 1 1 stove;", 1, 12);
        promise = "KIND: 'home' | 'school' | 'hall'";
        for (String word : RESERVED) {
            if (!"home school hall ".contains(word + " ")) {
                badHouse("fee " + word + " 5 5;", 1, 4);
                badHouse("piano a " + word + " 1 1 1 1 1 1;", 1, 8);
            }
        }
        badHouse("fee homes 5 5;", 1, 4);
        badHouse("fee hom 5 5;", 1, 4);
        promise = "MORE: 'stove' | 'slip' .. | 'frail' .. | 'open' ..";
        for (String word : RESERVED) {
            if (!"stove slip frail open ".contains(word + " ")) {
                badHouse(PIANO + " " + word + ";", 1, 25);
            }
            if (!word.equals("fork")) {
                badHouse("tuner t 1 1 " + word + " 5;", 1, 12);
            }
        }
        badHouse("tuner t 1 1 fork 1 fork 2;", 1, 19);
        badHouse(PIANO + " fork 5;", 1, 25);
        badHouse(PIANO + " zz;", 1, 25);
        badHouse(PIANO + " 7;", 1, 25);
    }

    private static void tokensThatCannotComeInRecords() {
        promise = "1 no TOKEN, or one that can't come (at it), in RECORDS";
        for (String line : RECORD_LINES) {
            StringBuilder ahead = new StringBuilder();
            for (String token : line.split(" ")) {
                badRecords(ahead + otherThan(token) + " ;", 1, ahead.length());
                badRecords(ahead + ". ;", 1, ahead.length());
                badRecords(ahead + "aa11 ;", 1, ahead.length());
                ahead.append(token).append(' ');
            }
            boolean hasNotes = line.startsWith("tuned") || line.startsWith("found");
            String whole = line.substring(0, line.length() - 1);
            badRecords(whole + "7;", 1, whole.length() + (hasNotes ? 1 : 0));
            badRecords(whole + "known 7;", 1, whole.length());
            badRecords(whole + "on 7;", 1, whole.length());
        }
        for (String word : RESERVED) {
            boolean begins = "tuned found broke paid ate concert moved ".contains(word + " ");
            if (!begins) {
                badRecords(word + " a on 5;", 1, 0);
            }
            if (!word.equals("on")) {
                badRecords("ate a " + word + " 5;", 1, 6);
            }
            if (!word.equals("known")) {
                badRecords("ate a on 5 " + word + " 5;", 1, 11);
                badRecords("tuned a t on 5 " + word + " 5;", 1, 15);
            }
        }
    }

    // ---- how long a text may be

    private static void houseOfAtMost1200Bytes() {
        promise = "A HOUSE is a text of at most 1200 bytes";
        goodHouse("cake 5;" + blanks(1192), 1);
        goodHouse("cake 5;" + blanks(1193), 1);
        badHouse("cake 5;" + blanks(1194), 1, 1200);
        badHouse("cake 5;" + "\n".repeat(1194), 1, 1200);
        badHouse("cake 5;" + blanks(1233), 1, 1200);
        goodHouse(blanks(1193) + "cake 5;", 1);
        badHouse(blanks(1194) + "cake 5;", 1, 1200);
        goodHouse(blanks(1200), 0);
        badHouse(blanks(1201), 1, 1200);
        badHouse(blanks(1240), 1, 1200);
        badHouse(blanks(1200) + "cake 5;", 1, 1200);
        badHouse(blanks(1200) + ".", 1, 1200);
        badHouse(blanks(1199) + ".", 1, 1199);
        badHouse(blanks(1199) + ". ", 1, 1199);
        promise = "the end of a text of 1200 bytes and more";
        badHouse(blanks(1194) + "cake 5", 1, 1200);
        badHouse(blanks(1193) + "cake 5", 1, 1199);
        badHouse(blanks(1195) + "cake 5", 1, 1200);
        badHouse(blanks(1193) + "cake 5 ", 1, 1200);
        badHouse(blanks(1193) + "cake 5   ", 1, 1200);
        promise = "1200, if there are more and no FAULT is ahead";
        badHouse("cake;" + blanks(1235), 1, 4);
        badHouse("cake 1000;" + blanks(1230), 2, 5);
        badHouse("cake 5;cake 5;" + blanks(1226), 3, 7);
        badHouse(times(6, "pupil #;") + "pupil g;" + blanks(1184), 4, 48);
    }

    private static void tokensAcross1200() {
        promise = "TOKENS that begin ahead of 1200 are read whole";
        badHouse(blanks(1199) + "cake 5;", 1, 1200);
        badHouse(blanks(1199) + "cake", 1, 1200);
        badHouse(blanks(1199) + "cakes", 1, 1199);
        badHouse(blanks(1200) + "cakes", 1, 1200);
        badHouse(blanks(1198) + "cake5", 1, 1198);
        badHouse(blanks(1194) + "cake 999;", 1, 1200);
        badHouse(blanks(1194) + "cake 1000;", 2, 1199);
        badHouse(blanks(1195) + "cake 1000;", 1, 1200);
        badHouse(blanks(1194) + "cake 00005;", 1, 1200);
        badHouse(blanks(1194) + "cake 000005;", 1, 1199);
        badHouse(blanks(1195) + "cake 000005;", 1, 1200);
        badHouse(blanks(1193) + "pupil abcdefgh;", 1, 1200);
        badHouse(blanks(1193) + "pupil abcdefghi;", 1, 1199);
        badHouse(blanks(1194) + "pupil abcdefghi;", 1, 1200);
        badHouse("pupil aaaa;" + blanks(1182) + "pupil aaaa;", 3, 1199);
        badHouse("pupil aaaa;" + blanks(1182) + "pupil aaab;", 1, 1200);
        badHouse("pupil aaaa;" + blanks(1183) + "pupil aaaa;", 1, 1200);
        badHouse("cake 5;" + blanks(1192) + "cake 5;", 3, 1199);
        badHouse("cake 5;" + blanks(1193) + "cake 5;", 1, 1200);
        promise = "TOKENS that go on to the tape's last byte, 1240";
        badHouse(blanks(1199) + "a".repeat(41), 1, 1199);
        badHouse(blanks(1199) + "5".repeat(41), 1, 1199);
        badHouse(blanks(1200) + "a".repeat(40), 1, 1200);
        badHouse("a".repeat(1240), 1, 0);
        badHouse("5".repeat(1240), 1, 0);
        badHouse(";".repeat(1240), 1, 0);
        badHouse("cake 5" + "0".repeat(1234), 1, 5);
        promise = "TOKENS that begin ahead of 1200 are read whole";
        String six = times(6, "pupil #;");
        badHouse(six + blanks(1151) + "pupil", 4, 1199);
        badHouse(six + blanks(1152) + "pupil", 1, 1200);
        badHouse(six + blanks(1151) + "pupils", 1, 1199);
    }

    private static void recordsOfAtMost700Bytes() {
        promise = "RECORDS are a text of at most 700 bytes";
        goodRecords("ate a on 1;" + blanks(688), 1);
        goodRecords("ate a on 1;" + blanks(689), 1);
        badRecords("ate a on 1;" + blanks(690), 1, 700);
        badRecords("ate a on 1;" + blanks(1229), 1, 700);
        goodRecords(blanks(689) + "ate a on 1;", 1);
        badRecords(blanks(690) + "ate a on 1;", 1, 700);
        goodRecords(blanks(700), 0);
        badRecords(blanks(701), 1, 700);
        badRecords(blanks(700) + "ate a on 1;", 1, 700);
        badRecords(blanks(699) + ".", 1, 699);
        badRecords(blanks(700) + ".", 1, 700);
        badRecords(blanks(690) + "ate a on 1", 1, 700);
        badRecords(blanks(689) + "ate a on 1", 1, 699);
        badRecords(blanks(691) + "ate a on 1", 1, 700);
        promise = "700, if there are more and no FAULT is ahead";
        badRecords("ate;" + blanks(1200), 1, 3);
        badRecords("ate b on 1;" + blanks(1200), 3, 4);
        badRecords("ate a on 364;" + blanks(1200), 2, 9);
        promise = "a HOUSE of 701 to 1200 bytes";
        goodHouse(blanks(701) + "cake 5;", 1);
    }

    private static void tokensAcross700() {
        promise = "TOKENS that begin ahead of 700 are read whole";
        badRecords(blanks(699) + "ate a on 1;", 1, 700);
        badRecords(blanks(699) + "atee", 1, 699);
        badRecords(blanks(700) + "atee", 1, 700);
        badRecords(blanks(690) + "ate a on 363;", 1, 700);
        badRecords(blanks(690) + "ate a on 364;", 2, 699);
        badRecords(blanks(691) + "ate a on 364;", 1, 700);
        badRecords(blanks(690) + "ate a on 000001;", 1, 699);
        badRecords(blanks(695) + "ate bbb on 1;", 3, 699);
        badRecords(blanks(696) + "ate bbb on 1;", 1, 700);
        badRecords(blanks(693) + "ate a onn", 1, 699);
        badRecords(blanks(694) + "ate a onn", 1, 700);
        TunerRounds x = told(SMALL);
        for (int i = 0; i < 4; i++) {
            put(x, times(50, "ate a on 1;"));
            x.records();
        }
        put(x, blanks(699) + "ate a on 1;");
        is("a 201st that begins at 699", -1 - 699, x::records);
        is("fault()", 4, x::fault);
        put(x, blanks(700) + "ate a on 1;");
        is("a 201st that begins at 700", -1 - 700, x::records);
        is("fault()", 1, x::fault);
        put(x, blanks(700));
        is("none", 200, x::records);
    }

    // ---- FAULT 2: NUMBERS of a HOUSE

    /** '#' is good from least to most; FAULT 2 at it beyond. */
    private static void houseNumber(String text, int least, int most) {
        int place = text.indexOf('#');
        goodHouse(text.replace("#", "" + least), lines(text));
        goodHouse(text.replace("#", "" + most), lines(text));
        if (least > 0) {
            badHouse(text.replace("#", "" + (least - 1)), 2, place);
            badHouse(text.replace("#", "0"), 2, place);
        }
        if (most < 99999) {
            badHouse(text.replace("#", "" + (most + 1)), 2, place);
            badHouse(text.replace("#", "99999"), 2, place);
        }
    }

    private static int lines(String text) {
        int lines = 0;
        for (int i = 0; i < text.length(); i++) {
            lines += text.charAt(i) == ';' ? 1 : 0;
        }
        return lines;
    }

    private static void numbersOfRules() {
        promise = "'sure' N (0 to 99)";
        houseNumber("sure #;", 0, 99);
        promise = "'cake' N (0 to 999)";
        houseNumber("cake #;", 0, 999);
        promise = "'walk' N (1 to 20)";
        houseNumber("walk #;", 1, 20);
        promise = "'work' N (10 to 120)";
        houseNumber("work #;", 10, 120);
        promise = "'day' A B (A 0 to 1440, B above A, 1440 at most)";
        goodHouse("day 0 1440;", 1);
        goodHouse("day 1439 1440;", 1);
        badHouse("day 1440 1440;", 2, 9);
        badHouse("day 1441 1442;", 2, 4);
        houseNumber("day 0 #;", 1, 1440);
        houseNumber("day 700 #;", 701, 1440);
        houseNumber("day 1439 #;", 1440, 1440);
        promise = "'fee' KIND N DAY (N 0 to 9999), DAY 0 to 363";
        for (String kind : new String[] {"home", "school", "hall"}) {
            houseNumber("fee " + kind + " # 5;", 0, 9999);
            houseNumber("fee " + kind + " 5 #;", 0, 363);
        }
    }

    private static void numbersOfTable() {
        promise = "'table' and 12 NUMBERS";
        goodHouse(TABLE, 1);
        badHouse("table 1000 1001 1002 1003 1004 1005 1006 1007 1008 1009 1010;", 1, 60);
        badHouse("table 1000 1001 1002 1003 1004 1005 1006 1007 1008 1009 1010 1011 1012;", 1, 66);
        promise = "(1000 to 99999";
        badHouse("table 999 1001 1002 1003 1004 1005 1006 1007 1008 1009 1010 1011;", 2, 6);
        badHouse("table 0 1 2 3 4 5 6 7 8 9 10 11;", 2, 6);
        goodHouse("table 99988 99989 99990 99991 99992 99993 99994 99995 99996 99997 99998 99999;", 1);
        badHouse("table 99988 99989 99990 99991 99992 99993 99994 99995 99996 99997 99998 100000;", 1, 72);
        badHouse("table 99999 99999;", 2, 12);
        badHouse("table 100000;", 1, 6);
        promise = "each above the one ahead";
        String[] tones = TABLE.substring(6, TABLE.length() - 1).split(" ");
        StringBuilder ahead = new StringBuilder("table " + tones[0] + " ");
        for (int note = 1; note < 12; note++) {
            badHouse(ahead + tones[note - 1] + ";", 2, ahead.length());
            badHouse(ahead + "" + (1000 + note - 2) + ";", 2, ahead.length());
            tableUpTo(ahead + tones[note] + ";", note);
            ahead.append(tones[note]).append(' ');
        }
        promise = "all below twice the first)";
        ahead = new StringBuilder("table 1000 ");
        for (int note = 1; note < 12; note++) {
            badHouse(ahead + "2000;", 2, ahead.length());
            tableUpTo(ahead + "1999;", note);
            ahead.append(tones[note]).append(' ');
        }
        goodHouse("table 1001 1002 1003 1004 1005 1006 1007 1008 1009 1010 1011 2001;", 1);
        badHouse("table 1001 1002 1003 1004 1005 1006 1007 1008 1009 1010 1011 2002;", 2, 61);
        goodHouse("table 50000 50001 50002 50003 50004 50005 50006 50007 50008 50009 50010 99999;", 1);
        goodHouse("table 49999 50001 50002 50003 50004 50005 50006 50007 50008 50009 50010 99997;", 1);
        badHouse("table 49999 50001 50002 50003 50004 50005 50006 50007 50008 50009 50010 99998;", 2, 72);
    }

    /** A table with good NUMBERS up to a NOTE: only the ';' comes too soon. */
    private static void tableUpTo(String text, int note) {
        if (note == 11) {
            goodHouse(text, 1);
        } else {
            badHouse(text, 1, text.length() - 1);
        }
    }

    private static void numbersOfWeeks() {
        promise = "W 0 to 51";
        houseNumber("damp # 51 5;", 0, 51);
        houseNumber("damp 0 # 5;", 0, 51);
        houseNumber("term # 51;", 0, 51);
        houseNumber("term 0 #;", 0, 51);
        promise = "(WEEKS from, to, the first no greater";
        houseNumber("damp 20 # 5;", 20, 51);
        houseNumber("term 20 #;", 20, 51);
        houseNumber("damp 51 # 5;", 51, 51);
        houseNumber("term 51 #;", 51, 51);
        promise = "V 0 to 40";
        houseNumber("damp 0 51 #;", 0, 40);
        promise = "20 where none is told; the latest told counts";
        TunerRounds x = told("damp 10 12 0;damp 12 13 40;damp 11 11 7;term 10 12;term 12 13;term 15 15;");
        int[] damps = {20, 0, 7, 40, 40, 20, 20, 20};
        int[] terms = {0, 1, 1, 1, 1, 0, 1, 0};
        for (int w = 9; w <= 16; w++) {
            int week = w;
            is("damp of WEEK " + w, damps[w - 9], () -> x.week(week, 0));
            is("term of WEEK " + w, terms[w - 9], () -> x.week(week, 1));
        }
        TunerRounds all = told("damp 0 51 9;term 0 51;");
        TunerRounds bare = new TunerRounds();
        for (int w : new int[] {0, 51}) {
            is("damp of WEEK " + w, 9, () -> all.week(w, 0));
            is("term of WEEK " + w, 1, () -> all.week(w, 1));
            is("damp of WEEK " + w + " untold", 20, () -> bare.week(w, 0));
            is("term of WEEK " + w + " untold", 0, () -> bare.week(w, 1));
        }
    }

    private static void numbersOfPianos() {
        promise = "X, Y 0 to 99";
        houseNumber("piano a home # 1 1 1 1 1;", 0, 99);
        houseNumber("piano a home 1 # 1 1 1 1;", 0, 99);
        promise = "EAR 1 to 999";
        houseNumber("piano a home 1 1 # 1 1 1;", 1, 999);
        promise = "AGE 0 to 200";
        houseNumber("piano a home 1 1 1 # 1 1;", 0, 200);
        promise = "WORTH 0 to 9999";
        houseNumber("piano a home 1 1 1 1 # 1;", 0, 9999);
        promise = "BATCH 0 to 9";
        houseNumber("piano a home 1 1 1 1 1 #;", 0, 9);
        promise = "'slip' NOTE N (0 to 99), NOTE 0 to 11";
        houseNumber(PIANO + " slip # 5;", 0, 11);
        houseNumber(PIANO + " slip 5 #;", 0, 99);
        promise = "'frail' G N (0 to 20), G 0 to 3";
        houseNumber(PIANO + " frail # 5;", 0, 3);
        houseNumber(PIANO + " frail 2 #;", 0, 20);
        promise = "'open' A B (as in 'day')";
        goodHouse(PIANO + " open 0 1440;", 1);
        goodHouse(PIANO + " open 1439 1440;", 1);
        badHouse(PIANO + " open 1440 1440;", 2, 35);
        badHouse(PIANO + " open 1441 1442;", 2, 30);
        houseNumber(PIANO + " open 0 #;", 1, 1440);
        houseNumber(PIANO + " open 700 #;", 701, 1440);
        promise = "a PIANO without MORE";
        TunerRounds x = told("piano a home 1 2 3 4 5 6;piano b home 1 2 3 4 5 6 open 0 1 stove;");
        int[] due = {0, 1, 2, 3, 4, 5, 6, 0, 0, 1440};
        for (int w = 0; w < 10; w++) {
            int what = w;
            is("piano(0, " + w + ")", due[w], () -> x.piano(0, what));
        }
        is("stove of the other", 1, () -> x.piano(1, 7));
        is("'open' A of the other", 0, () -> x.piano(1, 8));
        is("'open' B of the other", 1, () -> x.piano(1, 9));
    }

    private static void numbersOfTuners() {
        promise = "'tuner' NAME X Y";
        houseNumber("tuner t # 1;", 0, 99);
        houseNumber("tuner t 1 #;", 0, 99);
        promise = "[ 'fork' [ - ] N ] (0 to 99; 0)";
        houseNumber("tuner t 1 1 fork #;", 0, 99);
        houseNumber("tuner t 1 1 fork -#;", 0, 99);
        TunerRounds x = told("piano p home 0 0 1 0 0 0;"
            + "tuner a 0 0;tuner b 0 0 fork 0;tuner c 0 0 fork 99;tuner d 0 0 fork -99;tuner e 0 0 fork -0;tuner f 0 0 fork 1;",
            "tuned p a on 1;tuned p b on 2;tuned p c on 3;tuned p d on 4;tuned p e on 5;tuned p f on 6;");
        int[] forks = {0, 0, 99, -99, 0, 1};
        for (int i = 0; i < 6; i++) {
            int day = i + 1;
            is("fork of TUNER " + i, forks[i], () -> x.offset(0, 0, day, NONE));
        }
        promise = "'teach' NAME NAME N (0 to 99; 0 without; the latest told counts)";
        houseNumber(TEACHING + "teach t q #;", 0, 99);
        is("without", 0, () -> told(TEACHING).pupils());
        is("the least", 0, () -> told(TEACHING + "teach t q 0;").pupils());
        is("the greatest", 99, () -> told(TEACHING + "teach t q 99;").pupils());
        is("the latest, less", 3, () -> told(TEACHING + "teach t q 9;teach t q 3;").pupils());
        is("the latest, more", 9, () -> told(TEACHING + "teach t q 3;teach t q 9;").pupils());
        is("the latest, 0", 0, () -> told(TEACHING + "teach t q 3;teach t q 0;").pupils());
    }

    // ---- FAULT 3

    private static void toldOnce() {
        promise = "table, sure, cake, walk, work, day once (at its WORD)";
        String[] once = {TABLE, "sure 5;", "cake 5;", "walk 5;", "work 50;", "day 5 6;"};
        for (String line : once) {
            goodHouse(line, 1);
            badHouse(line + line, 3, line.length());
            badHouse(line + "pupil a;" + line, 3, line.length() + 8);
            String word = line.substring(0, line.indexOf(' '));
            badHouse(line + word, 3, line.length());
            for (String other : once) {
                if (!other.equals(line)) {
                    goodHouse(line + other, 2);
                }
            }
        }
        goodHouse(String.join("", once), 6);
        promise = "damp, term, fee, teach more than once";
        goodHouse(TEACHING + "damp 1 1 1;damp 1 1 1;term 1 1;term 1 1;fee home 1 1;fee home 1 1;teach t q 1;teach t q 1;", 10);
        promise = "stove, open once in a LINE (at its WORD)";
        badHouse(PIANO + " stove stove;", 3, 31);
        badHouse(PIANO + " stove open 1 2 stove;", 3, 40);
        badHouse(PIANO + " open 1 2 open 1 2;", 3, 34);
        badHouse(PIANO + " open 1 2 stove open 1 2;", 3, 40);
        goodHouse(PIANO + " stove open 1 2;piano b home 1 1 1 1 1 1 open 1 2 stove;", 2);
        promise = "slip, frail once for each NOTE, G there (at its NOTE, G)";
        for (int note = 0; note < 12; note++) {
            String ahead = PIANO + " slip " + note + " 5 slip ";
            badHouse(ahead + note + " 5;", 3, ahead.length());
            badHouse(ahead + note, 3, ahead.length());
            goodHouse(ahead + (note + 1) % 12 + " 5;", 1);
        }
        for (int g = 0; g < 4; g++) {
            String ahead = PIANO + " frail " + g + " 5 frail ";
            badHouse(ahead + g + " 5;", 3, ahead.length());
            badHouse(ahead + g, 3, ahead.length());
            goodHouse(ahead + (g + 1) % 4 + " 5;", 1);
        }
        goodHouse(PIANO + " slip 0 5 frail 0 5 slip 1 5 frail 1 5;piano b home 1 1 1 1 1 1 slip 0 5 frail 0 5;", 2);
        StringBuilder every = new StringBuilder(PIANO);
        for (int note = 0; note < 12; note++) {
            every.append(" slip ").append(note).append(" 5");
        }
        goodHouse(every + " frail 0 1 frail 1 1 frail 2 1 frail 3 1;", 1);
        badHouse(every + " slip 0 5;", 3, every.length() + 6);
    }

    private static void namesAreNoReservedWords() {
        promise = "NAME: a WORD that is none of all those told here and in RECORDS";
        for (String word : RESERVED) {
            badHouse("pupil " + word + ";", 1, 6);
            badHouse("tuner " + word + " 1 1;", 1, 6);
            badHouse("piano " + word + " home 1 1 1 1 1 1;", 1, 6);
            badHouse(TEACHING + "teach " + word + " q 1;", 1, 26);
            badHouse(TEACHING + "teach t " + word + " 1;", 1, 28);
            badRecords("ate " + word + " on 1;", 1, 4);
            badRecords("tuned a " + word + " on 1;", 1, 8);
            badRecords("concert " + word + " on 1;", 1, 8);
            if (word.length() < 8) {
                goodHouse("pupil " + word + "x;", 1);
                goodHouse("pupil x" + word + ";", 1);
            }
            if (!word.equals("home")) {
                goodHouse("pupil " + word.substring(1) + ";", 1);
            }
        }
        goodHouse("pupil name;pupil kind;pupil line;pupil more;pupil note;pupil w;", 6);
    }

    private static String lineOf(int sort, String name) {
        return sort == 0 ? "piano " + name + " home 1 1 1 1 1 1;" : sort == 1 ? "tuner " + name + " 1 1;" : "pupil " + name + ";";
    }

    private static void namesToldOnce() {
        promise = "NAME told once";
        for (int one = 0; one < 3; one++) {
            for (int other = 0; other < 3; other++) {
                String first = lineOf(one, "same");
                badHouse(first + lineOf(other, "same"), 3, first.length() + 6);
                goodHouse(first + lineOf(other, "some"), 2);
            }
        }
        badHouse("pupil abcdefgh;pupil abcdefgh;", 3, 21);
        goodHouse("pupil abcdefgh;pupil abcdefg;pupil bcdefgh;", 3);
        goodHouse("pupil a;pupil aa;pupil aaa;", 3);
    }

    private static void namesOfAnotherSort() {
        promise = "3 a NAME not told, or of another sort, in 'teach'";
        String three = "piano p home 1 1 1 1 1 1;" + TEACHING;
        int at = three.length();
        goodHouse(three + "teach t q 1;", 4);
        badHouse(three + "teach p q 1;", 3, at + 6);
        badHouse(three + "teach q q 1;", 3, at + 6);
        badHouse(three + "teach z q 1;", 3, at + 6);
        badHouse(three + "teach t p 1;", 3, at + 8);
        badHouse(three + "teach t t 1;", 3, at + 8);
        badHouse(three + "teach t z 1;", 3, at + 8);
        badHouse("pupil q;teach t q 1;tuner t 1 1;", 3, 14);
        badHouse("tuner t 1 1;teach t q 1;pupil q;", 3, 20);
        TunerRounds x = told(TEACHING);
        put(x, "teach t q 1;");
        is("told in the HOUSE that was", -1 - 6, x::house);
        is("fault()", 3, x::fault);
    }

    // ---- FAULT 4

    private static void sixteenSixSixSixteen() {
        promise = "4 a 17th PIANO (at the LINE's first WORD)";
        String pianos = times(16, "piano # home 1 1 1 1 1 1;");
        goodHouse(times(15, "piano # home 1 1 1 1 1 1;"), 15);
        goodHouse(pianos, 16);
        is("16 PIANOS", 16, () -> told(pianos).count(0));
        badHouse(pianos + "piano q home 1 1 1 1 1 1;", 4, 400);
        badHouse(pianos + "piano a home", 4, 400);
        badHouse(pianos + " piano 7", 4, 401);
        goodHouse(pianos + "pupil x;tuner y 1 1;", 18);
        promise = "4 a seventh TUNER";
        String tuners = times(6, "tuner # 1 1;");
        goodHouse(tuners, 6);
        is("6 TUNERS", 6, () -> told(tuners).count(1));
        badHouse(tuners + "tuner g 1 1;", 4, 72);
        badHouse(tuners + "\ntuner", 4, 73);
        goodHouse(tuners + "pupil x;", 7);
        promise = "4 a seventh PUPIL";
        String pupils = times(6, "pupil #;");
        goodHouse(pupils, 6);
        is("6 PUPILS", 6, () -> told(pupils).count(2));
        badHouse(pupils + "pupil g;", 4, 48);
        badHouse(pupils + "pupil a;", 4, 48);
        goodHouse(pupils + "tuner x 1 1;teach x f 9;", 8);
        promise = "4 a 17th fee";
        String fees = times(5, "fee home 1 1;fee school 1 1;fee hall 1 1;") + "fee home 1 1;";
        goodHouse(fees, 16);
        is("16 fees", 16, () -> told(fees).count(6));
        badHouse(fees + "fee hall 1 1;", 4, fees.length());
        badHouse(fees + "fee zz", 4, fees.length());
        goodHouse(fees + "sure 5;", 17);
    }

    private static void lastOfAll() {
        promise = "16 PIANOS, 6 TUNERS, 6 PUPILS, 16 fees: the last ones";
        StringBuilder house = new StringBuilder(times(15, "piano p# home 1 1 1 1 1 1;"));
        house.append("piano last hall 97 98 999 199 9998 8 stove open 7 8 slip 0 5 slip 11 7 frail 0 20 frail 3 20;");
        house.append(times(5, "tuner t# 1 1;")).append("tuner tl 96 95 fork -94;");
        house.append(times(6, "pupil q#;")).append("teach tl qf 93;teach ta qa 1;");
        for (int i = 0; i < 16; i++) {
            house.append("fee hall ").append(50 + i).append(' ').append(100 + i).append(';');
        }
        TunerRounds x = told(house.toString(), "tuned last tl on 200;");
        x.image(1);
        x.house();
        x.restore(1);
        int[] facts = {2, 97, 98, 999, 199, 9998, 8, 1, 7, 8};
        for (int what = 0; what < 10; what++) {
            int w = what;
            is("piano(15, " + w + ")", facts[w], () -> x.piano(15, w));
        }
        is("fork", -94, () -> x.offset(15, 0, 200, NONE));
        is("slip of NOTE 0", -99, () -> x.offset(15, 0, 201, NONE));
        is("slip of NOTE 1", -95, () -> x.offset(15, 1, 201, NONE));
        is("slip of NOTE 11", -101, () -> x.offset(15, 11, 201, NONE));
        is("the last fee", 65, () -> x.fee(15, 115));
        is("the one ahead", 64, () -> x.fee(15, 114));
        is("teach", 94, x::pupils);
        is("the last PUPIL's", 5, () -> x.pupilOf(5));
        pianos(x, 15);
        is("frail", 1001, () -> x.bag(2));
        pianos(x, 15);
        is("'open' 7 8", -2, () -> x.walked(5, 0));
        pianos(x);
        is("the last TUNER", 480, () -> x.walked(5, 0));
        put(x, "moved last 90 91 on 1;concert last on 300;ate last on 1;");
        is("the last PIANO's NAME", 4, x::records);
    }

    private static void numberedAsTold() {
        promise = "each is numbered as told, from 0";
        TunerRounds x = told("tuner v 1 0;piano z home 7 0 1 0 0 0;pupil p;tuner u 2 0;piano a home 8 0 1 0 0 0;pupil o;"
            + "teach v o 5;teach u p 6;", "moved z 9 9 on 5;tuned a u on 1;");
        is("X of the first PIANO", 7, () -> x.piano(0, 1));
        is("X of the second", 8, () -> x.piano(1, 1));
        is("the first is not TUNED", NONE, () -> x.off(0, 1, NONE));
        is("the second is", 0, () -> x.off(1, 1, NONE));
        is("the sum", 11, x::pupils);
        is("the first PUPIL's", 1, () -> x.pupilOf(0));
        is("the second PUPIL's", 0, () -> x.pupilOf(1));
        pianos(x, 1);
        is("from where the first TUNER lives", 480 + 35 + 60 + 35, () -> x.walked(0, 5));
        pianos(x, 1);
        is("from where the second lives", 480 + 30 + 60 + 30, () -> x.walked(1, 5));
    }

    // ---- RECORDS

    private static void recordNumber(String text, int least, int most) {
        int place = text.indexOf('#');
        goodRecords(text.replace("#", "" + least), 1);
        goodRecords(text.replace("#", "" + most), 1);
        if (least > 0) {
            badRecords(text.replace("#", "" + (least - 1)), 2, place);
            badRecords(text.replace("#", "0"), 2, place);
        }
        badRecords(text.replace("#", "" + (most + 1)), 2, place);
        badRecords(text.replace("#", "99999"), 2, place);
    }

    private static void numbersOfRecords() {
        promise = "'broke' PIANO G WHEN";
        recordNumber("broke a # on 5;", 0, 3);
        promise = "'paid' PIANO N WHEN (1 to 9999)";
        recordNumber("paid a # on 5;", 1, 9999);
        promise = "'moved' PIANO X Y WHEN";
        recordNumber("moved a # 5 on 5;", 0, 99);
        recordNumber("moved a 5 # on 5;", 0, 99);
        promise = "'on' DAY";
        recordNumber("tuned a t on #;", 0, 363);
        recordNumber("found a on # 0 5;", 0, 363);
        recordNumber("broke a 0 on #;", 0, 363);
        recordNumber("paid a 5 on #;", 0, 363);
        recordNumber("ate a on #;", 0, 363);
        recordNumber("concert h on #;", 0, 363);
        recordNumber("moved a 5 5 on #;", 0, 363);
    }

    private static void whenKnown() {
        promise = "[ 'known' DAY ] (not ahead of the first one)";
        recordNumber("tuned a t on 50 known #;", 50, 363);
        recordNumber("found a on 50 known # 0 5;", 50, 363);
        recordNumber("broke a 0 on 50 known #;", 50, 363);
        recordNumber("paid a 5 on 50 known #;", 50, 363);
        recordNumber("ate a on 50 known #;", 50, 363);
        recordNumber("moved a 5 5 on 50 known #;", 50, 363);
        recordNumber("ate a on 0 known #;", 0, 363);
        recordNumber("ate a on 363 known #;", 363, 363);
        promise = "of a concert any DAY";
        recordNumber("concert h on 50 known #;", 0, 363);
        recordNumber("concert h on 363 known #;", 0, 363);
        promise = "that one without";
        TunerRounds x = told(SMALL, "tuned a t on 50;tuned h t on 50 known 60;");
        is("the day ahead", NONE, () -> x.off(0, 50, 49));
        is("on its day", 0, () -> x.off(0, 50, 50));
        is("known later, the day ahead", NONE, () -> x.off(1, 50, 59));
        is("known later, on that day", 0, () -> x.off(1, 50, 60));
        promise = "of a concert 0 without";
        TunerRounds y = told(SMALL, "concert h on 50;concert h on 50 known 1;concert h on 50 known 363;");
        is("on day 0", 1, () -> y.unready(1, 0));
        is("on day 1", 2, () -> y.unready(1, 1));
        is("on day 362", 2, () -> y.unready(1, 362));
        is("on day 363", 3, () -> y.unready(1, 363));
        is("all", 3, () -> y.unready(1, NONE));
    }

    private static void notesOfRecords() {
        promise = "NOTE 0 to 11";
        recordNumber("tuned a t on 5 # 5;", 0, 11);
        recordNumber("found a on 5 # 5;", 0, 11);
        recordNumber("found a on 5 5 5 # 5;", 0, 11);
        recordNumber("tuned a t on 5 known 5 # 5;", 0, 11);
        promise = "N 0 to 999 (hundredths of a cent)";
        recordNumber("tuned a t on 5 0 #;", 0, 999);
        recordNumber("tuned a t on 5 0 -#;", 0, 999);
        recordNumber("found a on 5 0 #;", 0, 999);
        recordNumber("found a on 5 0 -#;", 0, 999);
        recordNumber("found a on 5 0 5 1 -#;", 0, 999);
        TunerRounds x = told("piano a home 0 0 9 0 0 0;tuner t 0 0;", "tuned a t on 5 0 999 1 -999 2 0 3 -0 11 -1;");
        int[] left = {999, -999, 0, 0, 0, 0, 0, 0, 0, 0, 0, -1};
        for (int n = 0; n < 12; n++) {
            int note = n;
            is("left of NOTE " + n, left[n], () -> x.offset(0, note, 5, NONE));
        }
        promise = "each NOTE once in a LINE (in RECORDS at the NOTE)";
        for (int note = 0; note < 12; note++) {
            String tuned = "tuned a t on 5 " + note + " 5 ";
            badRecords(tuned + note + " 5;", 3, tuned.length());
            badRecords(tuned + note, 3, tuned.length());
            String found = "found a on 5 " + note + " 5 ";
            badRecords(found + note + " -5;", 3, found.length());
            goodRecords(found + (note + 1) % 12 + " 5;" + found + ";", 2);
        }
        String every = "0 1 1 1 2 1 3 1 4 1 5 1 6 1 7 1 8 1 9 1 10 1 11 1";
        goodRecords("tuned a t on 5 " + every + ";found a on 5 " + every + ";", 2);
        badRecords("tuned a t on 5 " + every + " 0 1;", 3, 16 + every.length());
        badRecords("tuned a t on 5 " + every + " 12 1;", 2, 16 + every.length());
        promise = "'found' .. NOTE [ - ] N { NOTE [ - ] N }";
        badRecords("found a on 5;", 1, 12);
        badRecords("found a on 5 known 6;", 1, 20);
        goodRecords("found a on 5 0 1;", 1);
        promise = "'tuned' .. { NOTE [ - ] N }";
        goodRecords("tuned a t on 5;tuned a t on 5 known 6;tuned a t on 5 0 1;", 3);
        badRecords("tuned a t on 5 0;", 1, 16);
        badRecords("tuned a t on 5 0 - ;", 1, 19);
        badRecords("tuned a t on 5 0 - -1;", 1, 19);
        badRecords("tuned a t on 5 - 0 1;", 1, 15);
    }

    private static void halls() {
        promise = "3 (a PIANO that is no hall in a 'concert', too)";
        String three = "piano a home 1 1 9 9 9 9;piano s school 1 1 9 9 9 9;piano h hall 1 1 9 9 9 9;";
        TunerRounds x = told(three);
        String[] names = {"a", "s", "h"};
        int[] answers = {-9, -9, 1};
        int[] kinds = {3, 3, 0};
        for (int i = 0; i < 3; i++) {
            put(x, "concert " + names[i] + " on 5;");
            is("a concert of " + names[i], answers[i], x::records);
            is("fault()", kinds[i], x::fault);
        }
        for (String name : names) {
            int there = x.count(3);
            put(x, "ate " + name + " on 5;broke " + name + " 0 on 5;");
            is("others of " + name, there + 2, x::records);
        }
    }

    private static void namesInRecords() {
        promise = "3 a NAME not told, or of another sort, in RECORDS";
        String[] lines = {"tuned # t on 5;", "found # on 5 0 5;", "broke # 0 on 5;", "paid # 5 on 5;", "ate # on 5;",
            "moved # 5 5 on 5;", "concert # on 5;"};
        for (String line : lines) {
            int at = line.indexOf('#');
            badRecords(line.replace('#', 't'), 3, at);
            badRecords(line.replace('#', 'q'), 3, at);
            badRecords(line.replace('#', 'z'), 3, at);
            goodRecords(line.replace('#', 'h'), 1);
        }
        goodRecords("tuned a t on 5;", 1);
        badRecords("tuned a a on 5;", 3, 8);
        badRecords("tuned a h on 5;", 3, 8);
        badRecords("tuned a q on 5;", 3, 8);
        badRecords("tuned a z on 5;", 3, 8);
        promise = "a LINE that can't come in the other text";
        badRecords("cake 5;", 1, 0);
        badHouse(SMALL + "ate a on 5;", 1, SMALL.length());
        promise = "RECORDS of an empty HOUSE";
        TunerRounds x = new TunerRounds();
        put(x, "ate a on 5;");
        is("records()", -5, x::records);
        is("fault()", 3, x::fault);
    }

    private static void twoHundredRecords() {
        promise = "They come behind those that there are, 200 at most in all";
        TunerRounds x = told(SMALL);
        for (int i = 1; i <= 4; i++) {
            int due = i * 49;
            put(x, times(49, "ate a on 1;"));
            is("RECORDS", due, x::records);
        }
        put(x, times(5, "ate a on 1;"));
        is("five more would be 201", -1 - 44, x::records);
        is("fault()", 4, x::fault);
        is("none come", 196, () -> x.count(3));
        put(x, times(3, "ate a on 1;"));
        is("three more", 199, x::records);
        put(x, "ate a on 1; ate a on 1;");
        is("two more would be 201", -1 - 12, x::records);
        is("none come", 199, () -> x.count(3));
        put(x, "ate a on 1;ate z");
        is("a 201st with another FAULT behind its WORD", -1 - 11, x::records);
        is("fault()", 4, x::fault);
        put(x, "ate a on 1;zz");
        is("no RECORD behind the 200th", -1 - 11, x::records);
        is("fault()", 1, x::fault);
        put(x, "ate z on 1;ate a on 1;");
        is("a FAULT ahead of the 201st", -1 - 4, x::records);
        is("fault()", 3, x::fault);
        put(x, "ate a on 1;");
        is("the 200th", 200, x::records);
        put(x, "");
        is("no more", 200, x::records);
        put(x, "ate a on 1;");
        is("a 201st", -1, x::records);
        is("fault()", 4, x::fault);
        is("200 RECORDS", 200, () -> x.count(3));
        x.image(0);
        put(x, SMALL);
        is("a new HOUSE has room again", 4, x::house);
        put(x, "ate a on 1;");
        is("the first", 1, x::records);
        x.restore(0);
        put(x, "ate a on 1;");
        is("as kept, there is none", -1, x::records);
    }

    // ---- which FAULT

    private static void firstFaultAlongTheText() {
        promise = "FAULTS, the first along the text";
        badHouse("sure 5;sure 100;", 3, 7);
        badHouse("sure 100;sure 5;", 2, 5);
        badHouse("sure 100;.", 2, 5);
        badHouse("sure .;cake 1000;", 1, 5);
        badHouse("pupil a;pupil a;pupil;", 3, 14);
        badHouse(times(6, "pupil #;") + "pupil a;pupil;", 4, 48);
        badHouse("pupil;" + times(7, "pupil #;"), 1, 5);
        badHouse("piano a home 100 100 0 201 10000 10;", 2, 13);
        badHouse(PIANO + " slip 12 100;", 2, 30);
        badRecords("ate z on 364;", 3, 4);
        badRecords("ate a on 364 known;", 2, 9);
        badRecords("tuned z z on 5;", 3, 6);
        badRecords("tuned a t on 5 0 1000 0 5;", 2, 17);
        badRecords("tuned a t on 5 0 5 0 1000;", 3, 19);
    }

    private static void leastFaultOfOneToken() {
        promise = "of one TOKEN the least";
        badHouse(TEACHING + "teach cake q 1;", 1, 26);
        badHouse("pupil abcdefgh;pupil abcdefghi;", 1, 21);
        badHouse("walk 000000;", 1, 5);
        badHouse("walk 100000;", 1, 5);
        badRecords("ate piano on 1;", 1, 4);
        badRecords("tuned a t on 5 0 5 000000 5;", 1, 19);
        badRecords("paid a 000000 on 1;", 1, 7);
    }

    // ---- house(), records(), fault()

    private static void houseStaysOrGoes() {
        promise = "4 -1 less the place of a FAULT: it stays";
        TunerRounds x = told("cake 7;" + TABLE + "damp 1 1 1;term 2 2;fee home 5 0;piano a home 3 3 9 9 9 9;tuner t 1 1;pupil q;",
            "ate a on 1;");
        put(x, "damp 1 1 9;term 3 3;fee home 6 0;piano b home 4 4 9 9 9 9;tuner u 1 1;pupil r;pupil s;cake");
        is("house()", -1 - 90, x::house);
        is("PIANOS", 1, () -> x.count(0));
        is("X", 3, () -> x.piano(0, 1));
        is("TUNERS", 1, () -> x.count(1));
        is("PUPILS", 1, () -> x.count(2));
        is("RECORDS", 1, () -> x.count(3));
        is("fees", 1, () -> x.count(6));
        is("fee", 5, () -> x.fee(0, 0));
        is("damp", 1, () -> x.week(1, 0));
        is("term", 0, () -> x.week(3, 1));
        is("cake", -7, () -> x.owed(0, 1, NONE));
        is("a table", 1, () -> bit(x.beats(0, 0) >= 0));
        put(x, "ate a on 2;");
        is("its NAMES", 2, x::records);
        promise = "4 The tape is the HOUSE now, without RECORDS";
        is("an empty tape is an empty HOUSE", 0, x::house);
        for (int what = 0; what < 7; what++) {
            int w = what;
            is("count(" + w + ")", 0, () -> x.count(w));
        }
        is("damp", 20, () -> x.week(1, 0));
        is("term", 0, () -> x.week(2, 1));
        is("no table", NONE, () -> x.beats(0, 0));
        put(x, "piano a home 3 3 9 9 9 9;");
        is("a PIANO", 1, x::house);
        put(x, "ate a on 2;");
        is("a RECORD", 1, x::records);
        is("no cake", 0, () -> x.owed(0, 363, NONE));
        is("no fee", 0, () -> x.fee(0, 363));
        put(x, "piano a home 3 3 9 9 9 9;");
        x.house();
        is("without RECORDS", 0, () -> x.count(3));
        promise = "4 what an earlier HOUSE told is not told";
        put(x, "piano a hall 9 9 9 9 9 9 stove open 5 6 slip 0 9 slip 11 9 frail 0 20 frail 3 20;tuner t 9 9 fork 9;pupil q;teach t q 9;");
        is("house()", 4, x::house);
        put(x, "piano b home 0 0 999 0 0 0;tuner u 0 0;pupil r;");
        is("house()", 3, x::house);
        int[] facts = {0, 0, 0, 999, 0, 0, 0, 0, 0, 1440};
        for (int what = 0; what < 10; what++) {
            int w = what;
            is("piano(0, " + w + ")", facts[w], () -> x.piano(0, w));
        }
        put(x, "tuned b u on 100;");
        is("records()", 1, x::records);
        is("fork", 0, () -> x.offset(0, 0, 100, NONE));
        is("slip of NOTE 0", -1, () -> x.offset(0, 0, 101, NONE));
        is("slip of NOTE 11", -1, () -> x.offset(0, 11, 101, NONE));
        is("teach", 0, x::pupils);
        pianos(x, 0);
        is("frail", 0, () -> x.bag(0));
        is("chance", 1000000000000000L, x::chance);
        promise = "4 how many LINES";
        goodHouse("pupil a;", 1);
        goodHouse(TEACHING + "damp 1 1 1;damp 1 1 1;", 4);
        // The most LINES that 1200 bytes hold: 'term 0 0;' has nine.
        goodHouse("term 0 0;".repeat(133), 133);
        goodHouse("cake 0;walk 1;sure 0;" + "term 0 0;".repeat(131), 134);
    }

    private static void recordsComeOrNot() {
        promise = "5 -1 less the place of a FAULT: none come";
        TunerRounds x = told(SMALL, "paid a 5 on 1;");
        put(x, "paid a 7 on 1;concert h on 1;concert");
        is("records()", -1 - 36, x::records);
        is("RECORDS", 1, () -> x.count(3));
        is("concerts", 0, () -> x.count(5));
        is("owed", -5, () -> x.owed(0, 363, NONE));
        put(x, "ate h on 1;");
        is("the next comes behind the first", 2, x::records);
        is("owed", -5, () -> x.owed(0, 363, NONE));
        is("unready", 0, () -> x.unready(1, NONE));
        promise = "5 NOTES of RECORDS that did not come";
        put(x, "tuned a t on 5 0 7 5 7;.");
        x.records();
        put(x, "tuned a t on 5 1 3;");
        is("records()", 3, x::records);
        is("left of NOTE 0", 0, () -> x.offset(0, 0, 5, NONE));
        is("left of NOTE 1", 3, () -> x.offset(0, 1, 5, NONE));
        is("left of NOTE 5", 0, () -> x.offset(0, 5, 5, NONE));
        is("NOTE 5 is not told", THROWS, () -> x.lean(0, 5, NONE, 0));
        put(x, "found a on 5 0 7;.");
        x.records();
        put(x, "found a on 5 0 7;");
        is("a NOTE told in one that did not come is told once", 4, x::records);
        promise = "5 how many there are in all";
        put(x, "");
        is("none more", 4, x::records);
        put(x, "ate h on 1;ate h on 2;");
        is("two more", 6, x::records);
        // A LINE of RECORDS has eleven bytes at least: 63 are the most in 700.
        goodRecords(times(63, "ate a on 1;"), 63);
        badRecords(times(64, "ate a on 1;"), 1, 700);
    }

    private static void kindOfTheLatestFault() {
        promise = "6 0 without one and ahead of any";
        TunerRounds x = new TunerRounds();
        is("ahead of any", 0, x::fault);
        String[] texts = {".", "sure 100;", "sure 1;sure", times(6, "pupil #;") + "pupil", "pupil a;"};
        int[] kinds = {1, 2, 3, 4, 0};
        for (int i = 0; i < 5; i++) {
            put(x, texts[i]);
            x.house();
            is("fault() of house()", kinds[i], x::fault);
            is("and again", kinds[i], x::fault);
        }
        TunerRounds y = told(SMALL);
        String[] records = {".", "ate a on 364;", "ate t on 1;", "ate a on 1;"};
        int[] theirs = {1, 2, 3, 0};
        for (int i = 0; i < 4; i++) {
            put(y, records[i]);
            y.records();
            is("fault() of records()", theirs[i], y::fault);
        }
        put(y, ".");
        y.house();
        y.image(0);
        put(y, "");
        y.records();
        y.restore(0);
        is("restore() tells none", 0, y::fault);
        put(y, ".");
        y.records();
        y.restore(0);
        is("restore() leaves it", 1, y::fault);
        pianos(y, 200);
        y.round(0, 0);
        is("round() leaves it", 1, y::fault);
        y.house();
        is("house() without one", 0, y::fault);
    }
}
