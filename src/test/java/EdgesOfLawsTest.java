/** Promises 20 to 25, sentence by sentence: the tape's ends, tokens, bounds, each fault's place. */
final class EdgesOfLawsTest {
    private static final String TOLD =
            "tape 'fare 4 40; fare 8 80; work 5 7 50; change 3;' | laws = 4";
    private static final String NINE = "fare 1 1;fare 2 2;fare 3 3;fare 4 4;fare 5 5;fare 6 6;"
            + "fare 7 7;fare 8 8;fare 9 9;";
    private static final String FOUR = "work 0 1 1;work 1 2 1;work 2 3 1;work 3 4 1;";
    /** By its number: a text with this fault. */
    private static final String[] SAME_FAULT =
            {"", "?", ";", "change 121", "fare 2 2;fare 2", "change 1;change"};

    public static void main(String[] args) {
        feed();
        feedBytes();
        end();
        lawsAndTape();
        lawsStay();
        blanks();
        names();
        numbers();
        bounds();
        secondAboveFirst();
        noToken();
        canNotStand();
        atTheEnd();
        notAbove();
        tooMany();
        firstMet();
        fareBounds();
        fareFirst();
        fareHours();
        fareUp();
        changeBounds();
        changeApart();
        Check.finish();
    }

    private static String blanks(int n) {
        return " ".repeat(n);
    }

    /** A text without a fault, and calls behind it. */
    private static void good(String sentence, int laws, String text, String... calls) {
        Script.holds(sentence, TOLD, "tape '" + text + "' = " + text.length(), "laws = " + laws,
                "fault = 0", "count 5 = " + laws, "count 7 = 0", "! fault = 0",
                calls.length == 0 ? "fault = 0" : String.join(" | ", calls));
    }

    /** Texts with the fault at the sign "^", which is none of theirs. */
    private static void faulty(String sentence, int fault, String... texts) {
        for (String marked : texts) {
            int place = marked.indexOf('^');
            String text = marked.substring(0, place) + marked.substring(place + 1);
            Script.holds(sentence, TOLD, "tape '" + text + "' = " + text.length(),
                    "laws = " + (-10 - place), "fault = " + fault, "! fault = " + fault,
                    "count 5 = 4", "count 7 = 0", "fare 4 0 = 40", "fare 5 0 = 80",
                    "fare 9 0 = -4", "fare 1 300 = 20", "change 0 3 = 1", "change 0 4 = 0");
            Script.alike(sentence, TOLD + " | tape '" + text + "' | laws",
                    TOLD + " | tape '" + SAME_FAULT[fault] + "' | laws");
        }
    }

    private static void feed() {
        Script.holds("Promise 20: how many it has: from 0 on", "count 7 = 0", "feed 0 = 8",
                "feed 0 = 16", "count 7 = 16");
        Script.holds("Promise 20: FULL: more than 200", "24 x feed 0", "feed 0 = 200",
                "! feed 0 = -3", "count 7 = 200", "end 193 = 200", "! feed 0 = -3",
                "end 192 = 193", "feed 0 = 200", "end 199 = 200", "! feed 0 = -3");
        Script.holds("Promise 20: any bytes: all 0, all ones", "feed -1 = 8",
                "feed -9223372036854775808 = 16", "feed 9223372036854775807 = 24",
                "feed 0 = 32");
        Script.holds("Promise 20: behind THE TAPE as it was ended", "tape 'chan'", "tape 'ge 7;'",
                "laws = 1", "change 0 7 = 1", "change 0 8 = 0");
    }

    private static void feedBytes() {
        Script.holds("Promise 20: eight bytes, the highest first", "feed 0x6368616e67652037",
                "feed 0x3b3b3b3b3b3b3b3b", "laws = -19", "fault = 2", "feed 0x6368616e67652037",
                "feed 0x3b20202020202020", "laws = 1", "change 0 7 = 1", "change 0 8 = 0");
        Script.holds("Promise 20: the first and the last byte of eight", "feed 0x2020202020202078",
                "laws = -17", "fault = 1", "feed 0x7820202020202020", "laws = -10", "fault = 1");
        Script.holds("Promise 20: bytes above 127 are no other ones", "feed -1", "laws = -10",
                "fault = 1", "tape 'change 1" + (char) (';' + 128) + "'", "laws = -18",
                "fault = 1", "tape '" + (char) (' ' + 128) + "change 1;'", "laws = -10",
                "fault = 1", "tape 'change " + (char) ('1' + 128) + ";'", "laws = -17",
                "fault = 1");
        Script.holds("Terms 2: THE TAPE has places 0 to 199: a fault at 199, at the end",
                "tape '" + blanks(199) + "x' = 200", "laws = -209", "fault = 1",
                "tape '" + blanks(196) + "fare' = 200", "laws = -210", "fault = 2");
        good("Terms 2: a text of 200 bytes", 1, "change 9" + blanks(191) + ";", "change 0 9 = 1",
                "change 0 10 = 0");
    }

    private static void end() {
        Script.holds("Promise 21: BAD: more than it has, fewer than 0", "! end 1 = -1",
                "! end -1 = -1", "end 0 = 0", "feed 0", "! end -1 = -1", "! end 9 = -1",
                "! end MIN = -1", "! end MAX = -1", "count 7 = 8", "! end 8 = 8");
        Script.holds("Promise 21: how many it had; its first n", "tape 'change 5;x' = 10",
                "end 9 = 10", "count 7 = 9", "! end 10 = -1", "laws = 1");
        Script.holds("Promise 21: of 200, all are kept, none", "25 x feed 0", "! end 201 = -1",
                "! end 200 = 200", "end 0 = 200", "count 7 = 0", "! end 1 = -1", "feed 0 = 8");
        Script.holds("Promise 21: what it keeps no more is not read", "tape 'fares' | end 4",
                "laws = -14", "fault = 2", "tape 'change 12345' | end 8 | laws = -18", "fault = 2",
                "tape 'change 1;' | end 0 | laws = 0", "fault = 0");
        Script.holds("Promise 21: it keeps its first bytes, not its last", "tape 'change 1;?'",
                "end 9", "laws = 1");
    }

    private static void lawsAndTape() {
        good("Promise 22: THE TAPE empty: no law", 0, "", "fare 1 0 = -4", "change 0 0 = 0");
        good("Promise 22: blanks alone: no law", 0, "   ", "fare 1 0 = -4");
        good("Promise 22: 200 blanks: no law", 0, blanks(200), "fare 1 0 = -4");
        good("Promise 22: how many: 14 at most", 14, NINE + FOUR + "change 1;", "fare 9 240 = 9");
        Script.holds("Promise 22: THE TAPE is empty then", "tape 'change 1;'", "laws = 1",
                "count 7 = 0", "! end 1 = -1", "laws = 0", "change 0 0 = 0");
        Script.holds("Promise 22: THE TAPE is empty then, by a FAULT, too", "tape 'change 1;?'",
                "laws = -19", "count 7 = 0", "tape 'change 2;' = 9", "laws = 1",
                "change 0 2 = 1");
        Script.holds("Promise 22: it tells all laws: none of the former text stays", TOLD,
                "tape 'fare 3 7;' | laws = 1", "fare 3 0 = 7", "fare 4 0 = -4", "fare 1 300 = 7",
                "change 0 0 = 0", "count 5 = 1");
    }

    private static void lawsStay() {
        Script.holds("Promise 22: those that were told stay: none, one, many",
                "tape 'fare 1 1;?' | laws = -19", "count 5 = 0", "fare 1 0 = -4",
                "tape 'fare 2 5;' | laws = 1", "tape 'fare 1 1;change 1;?' | laws = -28",
                "count 5 = 1", "fare 2 0 = 5", "fare 1 0 = 5", "change 0 0 = 0");
        Script.holds("Promise 23: the FAULT of the latest laws(); 0: at first, after a good text",
                "! fault = 0", "tape '?' | laws = -10", "! fault = 1", "tape ';' | laws = -10",
                "! fault = 2", "laws = 0", "! fault = 0");
        Script.holds("Promise 23: feed() and end() leave it", "tape '?' | laws = -10",
                "tape 'change 1;'", "end 3", "fault = 1");
    }

    private static void blanks() {
        good("Terms 2: no blank is needed", 4, "fare1 2;work0 1 50;fare2 3;change5;",
                "fare 1 60 = 2", "fare 2 60 = 3", "fare 1 0 = 1", "change 0 5 = 1",
                "change 0 6 = 0");
        good("Terms 2: any number of blanks ahead of, between, behind", 1,
                "     fare    1     2    ;      ", "fare 1 0 = 2");
        good("Terms 2: a blank between two NUMBERS side by side", 1, "work 1 2 3;");
        faulty("Terms 2: without a blank two NUMBERS are one", 3, "fare ^12;", "work ^99 1;");
        faulty("Terms 2: a blank is 32, not 31, not 33", 1, "change^" + (char) 31 + "1;",
                "change^!1;", "change 1;^\t", "change 1;^\n", "^" + (char) 0 + "change 1;");
    }

    private static void names() {
        faulty("Terms 2: NAMES are of a to z", 1, "^farea 1 1;", "^farez 1 1;", "fare^` 1 1;",
                "fare^{ 1 1;", "^Fare 1 1;", "fare^A 1 1;", "fare^Z 1 1;", "^a", "^z", "^`", "^{");
        faulty("Terms 2: a TOKEN is as long as may be: a NAME", 1, "^fares 1 1;", "^xfare 1 1;",
                "^farework 1 1;", "^changes 1;", "^works 1 2 3;");
        faulty("Terms 2: a FAULT 1: a NAME that is none of these", 1, "^far 1 1;", "^wor 1 2 3;",
                "^chang 1;", "^f", "^w", "^c", "^fore 1 1;", "^walk 1 2 3;", "^charge 1;",
                "^farf 1 1;", "^worl 1 2 3;", "^changf 1;", "^bare 1 1;", "^pork 1 2 3;",
                "^range 1;", "^dhange 1;", "change 1; ^law 1;");
        good("Terms 2: a NAME ends at a figure", 1, "change3;", "change 0 3 = 1",
                "change 0 4 = 0");
        faulty("Terms 2: a NAME ends at a ;", 2, "change^;", "fare^;");
    }

    private static void numbers() {
        good("Terms 2: NUMBERS have 1 to 4 figures", 3, "fare 1 0001;fare 02 002;fare 003 3;",
                "fare 1 0 = 1", "fare 2 0 = 2", "fare 3 0 = 3");
        faulty("Terms 2: a FAULT 1: a NUMBER that is too long (its first byte)", 1,
                "fare ^00001 1;", "fare 1 ^00001;", "change ^12345", "work 1 2 ^00003;",
                "change ^99999999999999999999;", "^12345", "fare 1 1 ^12345",
                "change 1;^00000;");
        faulty("Terms 2: 4 figures are not too long", 3, "change ^9999;", "fare 1 ^1000;",
                "change ^0121;");
        good("Terms 2: figures are 0 to 9", 2, "fare 8 109;change 90;", "fare 8 0 = 109",
                "change 0 90 = 1", "change 0 91 = 0");
        faulty("Terms 2: figures are 0 to 9: not what is beside them", 1, "change 1^/;",
                "change 1^:;", "change ^/1;", "change ^:1;", "change ^-1;", "change 1^.5;");
        good("Terms 2: a NUMBER ends at a ;", 2, "change 1;fare 1 1;");
        faulty("Terms 2: a NUMBER ends at a NAME", 2, "change 1^fare", "fare 1^change");
    }

    private static void bounds() {
        good("Terms 2: fare: SECTIONS are 1 to 9", 2, "fare 1 5;fare 9 6;", "fare 1 0 = 5",
                "fare 2 0 = 6", "fare 9 0 = 6");
        faulty("Terms 2: fare: SECTIONS are 1 to 9: 0, 10", 3, "fare ^0 5;", "fare ^10 5;",
                "fare ^0000 5;", "fare ^9999 5;");
        good("Terms 2: fare: pence are 1 to 999", 2, "fare 1 1;fare 2 999;", "fare 1 0 = 1",
                "fare 2 0 = 999");
        faulty("Terms 2: fare: pence are 1 to 999: 0, 1000", 3, "fare 1 ^0;", "fare 1 ^1000;",
                "fare 9 ^9999;");
        good("Terms 2: work: a is 0 to 23, b is 1 to 24", 3,
                "work 0 1 0;work 23 24 50;fare 1 10;", "fare 1 0 = 0", "fare 1 59 = 0",
                "fare 1 60 = 10", "fare 1 1379 = 10", "fare 1 1380 = 5", "fare 1 1439 = 5");
        faulty("Terms 2: work: a is 0 to 23: 24", 3, "work ^24 24 5;", "work ^24 25 5;",
                "work ^9999 1 5;");
        faulty("Terms 2: work: b is 1 to 24: 0, 25", 3, "work 0 ^0 5;", "work 0 ^25 5;",
                "work 23 ^25 5;", "work 5 ^9999 5;");
        good("Terms 2: work: c is 0 to 100", 3, "work 0 1 0;work 1 2 100;fare 1 10;",
                "fare 1 0 = 0", "fare 1 60 = 10");
        faulty("Terms 2: work: c is 0 to 100: 101", 3, "work 0 1 ^101;", "work 0 1 ^9999;");
        good("Terms 2: change: minutes are 0 to 120: 0", 1, "change 0;", "change 5 5 = 1",
                "change 5 6 = 0");
        good("Terms 2: change: minutes are 0 to 120: 120", 1, "change 120;", "change 0 120 = 1",
                "change 0 121 = 0");
        faulty("Terms 2: change: minutes are 0 to 120: 121", 3, "change ^121;", "change ^9999;");
    }

    private static void secondAboveFirst() {
        good("Terms 2: the second one of work is above the first one: by 1", 3,
                "work 5 6 0;work 22 23 0;fare 1 8;", "fare 1 299 = 8", "fare 1 300 = 0",
                "fare 1 359 = 0", "fare 1 360 = 8", "fare 1 1319 = 8", "fare 1 1320 = 0",
                "fare 1 1379 = 0", "fare 1 1380 = 8");
        faulty("Terms 2: a FAULT 3: the second one of work is as the first one, is below it", 3,
                "work 5 ^5 1;", "work 5 ^4 1;", "work 23 ^23 1;", "work 1 ^1 1;", "work 23 ^1 1;");
        good("Terms 2: the third one of work need not be above", 1, "work 5 7 6;");
        good("Terms 2: the second one of fare need not be above the first one", 1, "fare 9 1;",
                "fare 9 0 = 1");
    }

    private static void noToken() {
        faulty("Terms 2: a FAULT 1: no TOKEN: at its byte", 1, "^-", "  ^-", "fare^- 1 1;",
                "fare 1^, 1;", "fare 1 1^.", "fare 1 1;^,", "fare 1 1;  ^" + (char) 233,
                "^" + (char) 255, "fare 1 1^:");
        faulty("Terms 2: no TOKEN is FAULT 1 wherever it stands", 1, "^?", "fare ^?", "fare 1 ^?",
                "fare 1 1 ^?", "work 1 ^?", "work 1 2 ^?", "work 1 2 3 ^?", "change ^?",
                "change 1 ^?", "change 1; ^?");
        faulty("Terms 2: another NAME is FAULT 1 wherever it stands", 1, "fare ^x", "fare 1 ^x",
                "fare 1 1 ^x", "fare 1 1; ^x");
        faulty("Terms 2: one ; is 59, not 58, not 60", 1, "change 1^:", "change 1^<");
    }

    private static void canNotStand() {
        faulty("Terms 2: a FAULT 2: where a law begins", 2, "^;", "  ^;", "^1", "  ^12;",
                "change 1;^;", "change 1; ^1", "change 1;  ^0000;");
        faulty("Terms 2: a FAULT 2: where a NUMBER of fare is due", 2, "fare ^; 1;", "fare^;",
                "fare ^fare", "fare ^change 1;", "fare 1^;", "fare 1 ^work", "fare 1  ^fare 2 2;");
        faulty("Terms 2: a FAULT 2: where a NUMBER of work is due", 2, "work^;", "work ^work",
                "work 1^;", "work 1 ^fare", "work 1 2^;", "work 1 2 ^change");
        faulty("Terms 2: a FAULT 2: where a NUMBER of change is due", 2, "change^;",
                "change ^change", "change ^fare");
        faulty("Terms 2: a FAULT 2: where a ; is due: a NUMBER too many", 2, "fare 1 2 ^3;",
                "work 1 2 3 ^4;", "change 1 ^2;", "change 1 ^9999;");
        faulty("Terms 2: a FAULT 2: where a ; is due: the next NAME", 2, "fare 1 2 ^fare 2 3;",
                "work 1 2 3 ^work", "change 1 ^fare", "change 1^change");
    }

    private static void atTheEnd() {
        faulty("Terms 2: a FAULT 2: the end: the length", 2, "fare^", "fare 1^", "fare 1 1^",
                "work^", "work 1^", "work 1 2^", "work 1 2 3^", "change^", "change 1^",
                "change 1;fare^");
        faulty("Terms 2: a FAULT 2: the end: the length, with the blanks behind", 2, "fare   ^",
                "fare 1  ^", "fare 1 1 ^", "change 1     ^", "  work  ^");
        good("Terms 2: the end behind a law is no FAULT", 1, "change 1;");
        good("Terms 2: the end behind a law and blanks is no FAULT", 1, "change 1;  ");
    }

    private static void notAbove() {
        good("Terms 2: SECTIONS and pence above those ahead by 1", 3, "fare 3 5;fare 4 6;fare 5 7;",
                "fare 3 0 = 5", "fare 4 0 = 6", "fare 5 0 = 7");
        faulty("Terms 2: a FAULT 4: SECTIONS not above: as many, fewer (at that NUMBER)", 4,
                "fare 3 5;fare ^3 6;", "fare 3 5;fare ^2 6;", "fare 9 5;fare ^9 6;",
                "fare 3 5;fare ^1 9;");
        faulty("Terms 2: a FAULT 4: pence not above: as many, fewer (at that NUMBER)", 4,
                "fare 3 5;fare 4 ^5;", "fare 3 5;fare 4 ^4;", "fare 3 999;fare 4 ^999;",
                "fare 3 5;fare 9 ^1;");
        faulty("Terms 2: a FAULT 4: of the fare told ahead, other laws between", 4,
                "fare 3 5;change 1;fare ^3 6;", "fare 3 5;work 0 1 1;fare 4 ^5;",
                "fare 1 1;fare 3 5;fare ^2 6;", "fare 1 1;fare 3 5;fare 4 ^4;");
        good("Terms 2: a fare of a former text is not told ahead of it", 1, "fare 1 1;",
                "tape 'fare 1 1;'", "laws = 1", "fault = 0", "fare 1 0 = 1");
        Script.holds("Terms 2: a fare of a text with a FAULT is not told ahead of another's",
                "tape 'fare 9 999;?' | laws = -21", "tape 'fare 1 1;' | laws = 1", "fault = 0");
        good("Terms 2: the hours of works need not be above", 2, "work 5 9 1;work 1 9 1;");
    }

    private static void tooMany() {
        good("Terms 2: nine fares", 9, NINE, "fare 1 0 = 1", "fare 9 0 = 9");
        faulty("Terms 2: a FAULT 5: a tenth fare (at its NAME)", 5, NINE + "^fare 9 10;",
                NINE + "  ^fare", NINE + "change 1;^fare 9 10;", NINE + "^fare ?");
        good("Terms 2: four works", 5, FOUR + "fare 1 1;", "fare 1 0 = 1");
        faulty("Terms 2: a FAULT 5: a fifth work (at its NAME)", 5, FOUR + "^work 4 5 1;",
                FOUR + " ^work", FOUR + "fare 1 1;^work 9 9 999;", FOUR + "^work ?");
        faulty("Terms 2: a FAULT 5: a second change (at its NAME)", 5, "change 1;^change 2;",
                "change 0;^change", "change 1;fare 1 1; ^change 1;", "change 0;^change ?");
        good("Terms 2: nine fares, four works, one change", 14, "change 1;" + FOUR + NINE);
        Script.holds("Terms 2: laws of a former text do not count", "tape '" + NINE + FOUR + "'",
                "laws = 13", "tape 'change 1;' | laws = 1",
                "tape '" + NINE + FOUR + "change 1;' | laws = 14", "fault = 0");
    }

    private static void firstMet() {
        faulty("Terms 2: the first met: a TOKEN is read when the one before has been taken: 3", 3,
                "fare ^10?", "fare ^10 99999", "fare ^0", "work 5 ^5?", "change ^121 x",
                "change ^999x");
        faulty("Terms 2: the first met: a TOKEN is read when the one before has been taken: 4", 4,
                "fare 2 2;fare ^2?", "fare 2 2;fare ^2", "fare 2 2;fare 3 ^2 x");
        faulty("Terms 2: the first met: a TOKEN is read when the one before has been taken: 5", 5,
                "change 1;^change?", "change 1;^change 99999", "change 1;^change 121;");
        faulty("Terms 2: the first met: 1 of one ahead of 2, 3, 4 of a later one", 1,
                "^x ; 10", "fare ^12345 0;", "fare 1 ^? fare", "fare 1 1;^x fare 1 1;");
        faulty("Terms 2: the first met: 2 of one ahead of 1, 3 of a later one", 2, "^; ?",
                "fare ^; 10", "fare 1 ^; 12345", "fare 1 1 ^1 ?", "^1 ?", "fare ^work 24");
        faulty("Terms 2: the first met: a former law's ahead of a later law's", 3,
                "change ^121; fare 0 0; x", "fare 1 1; fare ^0 1; ?");
        faulty("Terms 2: out of bounds is 3, also if not above", 3, "fare 2 2;fare ^0 3;",
                "fare 2 2;fare 3 ^0;", "fare 9 2;fare ^10 3;", "work 5 ^0 1;");
    }

    private static void fareBounds() {
        Script.holds("Promise 24: BAD: SECTIONS are 1 to 9", "tape 'fare 9 5;' | laws = 1",
                "! fare 0 0 = -1", "! fare 1 0 = 5", "! fare 9 0 = 5", "! fare 10 0 = -1",
                "! fare MIN 0 = -1", "! fare MAX 0 = -1");
        Script.holds("Promise 24: BAD: a minute is 0 to 1439", "tape 'fare 9 5;' | laws = 1",
                "! fare 1 -1 = -1", "! fare 1 0 = 5", "! fare 1 1439 = 5", "! fare 1 1440 = -1",
                "! fare 1 MIN = -1", "! fare 1 MAX = -1");
        Script.holds("Promise 24: NONE: no fare is told", "! fare 1 0 = -4",
                "tape 'work 0 24 5;change 1;' | laws = 2", "! fare 1 0 = -4", "! fare 9 0 = -4");
        Script.holds("Promise 24: NONE: no fare goes so far", "tape 'fare 2 5;fare 8 6;' | laws = 2",
                "! fare 8 0 = 6", "! fare 9 0 = -4");
        Script.holds("Promise 24: BAD ahead of NONE", "! fare 0 0 = -1", "! fare 10 0 = -1",
                "! fare 1 1440 = -1", "! fare 1 -1 = -1");
    }

    private static void fareFirst() {
        Script.holds("Terms 2: of the first fare that goes so far: up to s SECTIONS",
                "tape 'fare 2 5;fare 5 7;fare 9 12;' | laws = 3", "fare 1 0 = 5", "fare 2 0 = 5",
                "fare 3 0 = 7", "fare 5 0 = 7", "fare 6 0 = 12", "fare 9 0 = 12");
        Script.holds("Terms 2: each of nine fares", "tape '" + NINE + "' | laws = 9",
                "fare 1 0 = 1", "fare 2 0 = 2", "fare 3 0 = 3", "fare 4 0 = 4", "fare 5 0 = 5",
                "fare 6 0 = 6", "fare 7 0 = 7", "fare 8 0 = 8", "fare 9 0 = 9");
    }

    private static void fareHours() {
        Script.holds("Terms 2: from hour a on, ahead of hour b",
                "tape 'fare 9 100;work 5 7 50;' | laws = 2", "fare 1 299 = 100", "fare 1 300 = 50",
                "fare 1 359 = 50", "fare 1 360 = 50", "fare 1 419 = 50", "fare 1 420 = 100");
        Script.holds("Terms 2: the day's first and last hour",
                "tape 'fare 9 100;work 0 1 50;work 23 24 20;' | laws = 3", "fare 1 0 = 50",
                "fare 1 59 = 50", "fare 1 60 = 100", "fare 1 1379 = 100", "fare 1 1380 = 20",
                "fare 1 1439 = 20");
        Script.holds("Terms 2: all day", "tape 'fare 9 100;work 0 24 50;' | laws = 2",
                "fare 1 0 = 50", "fare 1 720 = 50", "fare 1 1439 = 50");
        Script.holds("Terms 2: the first such work, of several",
                "tape 'fare 9 100;work 6 8 50;work 5 9 20;work 0 24 90;work 7 8 1;' | laws = 5",
                "fare 1 299 = 90", "fare 1 300 = 20", "fare 1 360 = 50", "fare 1 420 = 50",
                "fare 1 479 = 50", "fare 1 480 = 20", "fare 1 540 = 90");
        Script.holds("Terms 2: the fourth work", "tape '" + FOUR + "fare 9 200;' | laws = 5",
                "fare 1 180 = 2", "fare 1 239 = 2", "fare 1 240 = 200");
    }

    private static void fareUp() {
        Script.holds("Terms 2: so much times c by 100, up to a whole number: 1 penny",
                "tape 'fare 9 1;work 0 1 0;work 1 2 1;work 2 3 99;work 3 4 100;' | laws = 5",
                "fare 1 0 = 0", "fare 1 60 = 1", "fare 1 120 = 1", "fare 1 180 = 1");
        Script.holds("Terms 2: so much times c by 100, up to a whole number: 100, 101 pence",
                "tape 'fare 1 100;fare 2 101;work 0 1 50;work 1 2 1;' | laws = 4",
                "fare 1 0 = 50", "fare 2 0 = 51", "fare 1 60 = 1", "fare 2 60 = 2",
                "fare 1 120 = 100", "fare 2 120 = 101");
        Script.holds("Terms 2: so much times c by 100, up to a whole number: 999 pence",
                "tape 'fare 9 999;work 0 1 0;work 1 2 1;work 2 3 99;work 3 4 100;' | laws = 5",
                "fare 1 0 = 0", "fare 1 60 = 10", "fare 1 120 = 990", "fare 1 180 = 999");
    }

    private static void changeBounds() {
        Script.holds("Promise 25: BAD: minutes are 0 to 1439", "tape 'change 120;' | laws = 1",
                "! change -1 0 = -1", "! change 0 0 = 1", "! change 1439 1439 = 1",
                "! change 1439 1440 = -1", "! change 1440 1440 = -1", "! change MIN 0 = -1",
                "! change 0 MAX = -1", "! change MIN MAX = -1", "! change MAX MAX = -1");
        Script.holds("Promise 25: BAD: also a minute ahead of the other one",
                "tape 'change 120;' | laws = 1", "! change 5 4 = -1", "! change 5 5 = 1",
                "! change 5 6 = 1", "! change 1439 0 = -1", "! change 0 -1 = -1",
                "! change MAX MIN = -1");
        Script.holds("Promise 25: BAD, though no change is told", "! change 5 4 = -1",
                "! change -1 0 = -1", "! change 0 1440 = -1", "! change 0 1439 = 0");
    }

    private static void changeApart() {
        Script.holds("Promise 25: 0: none is told", "change 0 0 = 0",
                "tape 'fare 1 1;work 0 24 5;' | laws = 2", "change 0 0 = 0", "change 7 8 = 0");
        Script.holds("Promise 25: at most so far apart: as far, one farther",
                "tape 'change 30;' | laws = 1", "change 0 30 = 1", "change 0 31 = 0",
                "change 1409 1439 = 1", "change 1408 1439 = 0", "change 600 629 = 1");
        Script.holds("Promise 25: 0 apart", "tape 'change 0;' | laws = 1", "change 0 0 = 1",
                "change 0 1 = 0", "change 1439 1439 = 1");
        Script.holds("Promise 25: 120 apart, the whole day", "tape 'change 120;' | laws = 1",
                "change 0 120 = 1", "change 0 121 = 0", "change 0 1439 = 0");
    }
}
