/** Promises 12 to 19, sentence by sentence: bounds, first and last stages, what there is none of. */
final class EdgesOfWaybillsTest {
    /** Types of 3 pence and 1 section, of 7 and 9; conductor 0 has 100 on of one, 500 on of one. */
    private static final String TYPES =
            "type 3 1 | type 7 9 | issue 0 0 100 10 | issue 0 1 500 10";
    private static final String UP = TYPES + " | trip 0 up";
    private static final String DOWN = TYPES + " | trip 0 down";

    public static void main(String[] args) {
        waybill();
        money();
        paid();
        aboardBounds();
        aboardSpans();
        aboardEnds();
        aboardLeast();
        riders();
        shownBounds();
        shownAnswers();
        shownStages();
        heads();
        headsBeyond();
        gapNone();
        gapEnds();
        gapPacks();
        Check.finish();
    }

    private static void waybill() {
        Script.holds("Promise 12: BAD: no such TRIP", "type 1 1", "! waybill 0 0 0 = -1",
                "trip 0 up | trip 1 up", "! waybill -1 0 0 = -1", "! waybill 0 0 0 = 0",
                "! waybill 1 0 0 = 0", "! waybill 2 0 0 = -1", "! waybill MIN 0 0 = -1",
                "! waybill MAX 0 0 = -1");
        Script.holds("Promise 12: BAD: no such TYPE", "trip 0 up", "! waybill 0 0 0 = -1",
                "type 1 1 | type 1 1", "! waybill 0 -1 0 = -1", "waybill 0 0 0 = 0",
                "waybill 0 1 0 = 0", "! waybill 0 2 0 = -1", "! waybill 0 MIN 0 = -1",
                "! waybill 0 MAX 0 = -1");
        Script.holds("Promise 12: BAD: what is 0 to 2", UP, "3 x sell 0 0 0",
                "! waybill 0 0 -1 = -1", "! waybill 0 0 0 = 3", "! waybill 0 0 1 = 100",
                "! waybill 0 0 2 = 102", "! waybill 0 0 3 = -1", "! waybill 0 0 MIN = -1",
                "! waybill 0 0 MAX = -1");
        Script.holds("Promise 12: none sold: NONE first, NONE last", UP, "waybill 0 0 0 = 0",
                "waybill 0 0 1 = -4", "waybill 0 0 2 = -4");
        Script.holds("Promise 12: BAD ahead of NONE", UP, "waybill 1 0 1 = -1",
                "waybill 0 2 1 = -1", "waybill 0 0 3 = -1");
        Script.holds("Promise 12: one sold is the first and the last", UP, "sell 0 0 3",
                "waybill 0 0 0 = 1", "waybill 0 0 1 = 100", "waybill 0 0 2 = 100",
                "waybill 0 1 1 = -4", "waybill 0 1 2 = -4");
        Script.holds("Promise 12: the first NUMBER may be 0, so may the last one",
                "type 1 1 | issue 0 0 0 5 | trip 0 up | sell 0 0 0", "waybill 0 0 1 = 0",
                "waybill 0 0 2 = 0", "sell 0 0 0", "waybill 0 0 1 = 0", "waybill 0 0 2 = 1");
        Script.holds("Promise 12: the last one undone, then all", UP, "sell 0 0 0 | sell 0 0 0",
                "undo", "waybill 0 0 0 = 1", "waybill 0 0 2 = 100", "undo", "waybill 0 0 0 = 0",
                "waybill 0 0 1 = -4", "waybill 0 0 2 = -4");
        Script.holds("Promise 12: all 200 SALES on a TRIP",
                "type 1 1 | issue 0 0 7 200 | trip 0 up | 200 x sell 0 0 0",
                "waybill 0 0 0 = 200", "waybill 0 0 1 = 7", "waybill 0 0 2 = 206");
        Script.holds("Promise 12: on that TRIP, of that TYPE", UP, "issue 1 0 200 5 | trip 1 up",
                "sell 1 0 0 | sell 0 1 0 | sell 0 0 0 | sell 0 0 0 | sell 0 1 0 | sell 1 0 0",
                "waybill 0 0 0 = 2", "waybill 0 0 1 = 100", "waybill 0 0 2 = 101",
                "waybill 1 0 1 = 200", "waybill 1 0 2 = 201", "waybill 0 1 2 = 501");
        Script.holds("Promise 12: first and last are so in the order of the SALES", UP,
                "sell 0 0 0 | issue 0 0 50 1 | sell 0 0 0", "waybill 0 0 1 = 100",
                "waybill 0 0 2 = 50");
    }

    private static void money() {
        Script.holds("Promise 13: BAD: no such TRIP", "! money 0 = -1", "trip 0 up | trip 1 up",
                "! money -1 = -1", "! money 0 = 0", "! money 1 = 0", "! money 2 = -1",
                "! money MIN = -1", "! money MAX = -1");
        Script.holds("Promise 13: without SALES 0; each SALE's PRICE; an undone one's no more", UP,
                "money 0 = 0", "sell 0 0 0 | money 0 = 3", "sell 0 1 0 | money 0 = 10",
                "undo | money 0 = 3", "undo | money 0 = 0");
        Script.holds("Promise 13: all 200 SALES at 60", "type 60 1 | issue 0 0 0 200 | trip 0 up",
                "200 x sell 0 0 0", "money 0 = 12000", "close 0 = 12000", "money 0 = 12000");
        Script.holds("Promise 13: of that TRIP alone, closed too", UP,
                "issue 1 0 0 5 | trip 1 up | sell 0 1 0 | sell 1 0 0 | close 0", "money 0 = 7",
                "money 1 = 3");
    }

    private static void paid() {
        Script.holds("Promise 14: BAD -1000000: CONDUCTORS are 0 to 5", "! paid -1 0 = -1000000",
                "! paid 0 0 = 0", "! paid 5 0 = 0", "! paid 6 0 = -1000000",
                "! paid MIN 0 = -1000000", "! paid MAX 0 = -1000000");
        Script.holds("Promise 14: BAD -1000000: pence are 0 to 100000", "! paid 0 -1 = -1000000",
                "! paid 0 0 = 0", "! paid 0 100000 = 100000", "! paid 0 100001 = -1000000",
                "! paid 0 MIN = -1000000", "! paid 0 MAX = -1000000");
        Script.holds("Promise 14: what is due, one less, one more", UP,
                "sell 0 1 0 | sell 0 0 0 | close 0", "paid 0 10 = 0", "paid 0 9 = -1",
                "paid 0 11 = 1");
        Script.holds("Promise 14: nothing paid in for 200 SALES at 60",
                "type 60 1 | issue 0 0 0 200 | trip 0 up | 200 x sell 0 0 0", "paid 0 0 = 0",
                "close 0", "paid 0 0 = -12000");
        Script.holds("Promise 14: of its closed TRIPS alone, all of them", UP,
                "sell 0 1 0 | close 0 | trip 0 down | sell 1 0 9", "paid 0 7 = 0", "close 1",
                "paid 0 7 = -3", "paid 0 10 = 0", "trip 0 up | sell 2 0 0", "paid 0 10 = 0");
        Script.holds("Promise 14: of its own TRIPS alone", UP,
                "issue 1 0 0 5 | trip 1 up | sell 0 1 0 | sell 1 0 0 | close 0 | close 1",
                "paid 0 0 = -7", "paid 1 0 = -3", "paid 2 0 = 0");
    }

    private static void aboardBounds() {
        Script.holds("Promise 15: BAD: no such TRIP", "! aboard 0 0 0 = -1",
                "trip 0 up | trip 1 up", "! aboard -1 0 0 = -1", "! aboard 0 0 0 = 0",
                "! aboard 1 0 0 = 0", "! aboard 2 0 0 = -1", "! aboard MIN 0 0 = -1",
                "! aboard MAX 0 0 = -1");
        Script.holds("Promise 15: BAD: SECTIONS are 0 to 8", "trip 0 up", "! aboard 0 -1 1 = -1",
                "! aboard 0 0 1 = 0", "! aboard 0 8 1 = 0", "! aboard 0 9 1 = -1",
                "! aboard 0 MIN 1 = -1", "! aboard 0 MAX 1 = -1");
        Script.holds("Promise 15: BAD: what is 0 LEAST, 1 MOST", UP, "sell 0 1 0",
                "! aboard 0 1 -1 = -1", "! aboard 0 1 0 = 0", "! aboard 0 1 1 = 1",
                "! aboard 0 1 2 = -1", "! aboard 0 1 MIN = -1", "! aboard 0 1 MAX = -1");
        Script.holds("Promise 15: without SALES none is aboard; all undone none", UP,
                "aboard 0 0 0 = 0", "aboard 0 0 1 = 0", "sell 0 1 0 | undo", "aboard 0 0 0 = 0",
                "aboard 0 0 1 = 0");
        Script.holds("Promise 15: on that TRIP alone, closed too", UP,
                "issue 1 0 0 5 | trip 1 up | sell 0 0 0 | sell 1 0 0 | sell 1 0 0 | close 1",
                "aboard 0 0 1 = 1", "aboard 1 0 1 = 2", "aboard 1 0 0 = 2");
    }

    private static void aboardSpans() {
        Script.holds("Terms 1: SPAN 1 is one SECTION: UP", UP, "sell 0 0 4", "aboard 0 3 1 = 0",
                "aboard 0 4 1 = 1", "aboard 0 5 1 = 0");
        Script.holds("Terms 1: SPAN 1 is one SECTION: DOWN", DOWN, "sell 0 0 4",
                "aboard 0 4 1 = 0", "aboard 0 3 1 = 1", "aboard 0 2 1 = 0");
        Script.holds("Terms 1: SPAN 9 is all nine SECTIONS: UP", UP, "sell 0 1 0",
                "aboard 0 0 1 = 1", "aboard 0 1 1 = 1", "aboard 0 2 1 = 1", "aboard 0 3 1 = 1",
                "aboard 0 4 1 = 1", "aboard 0 5 1 = 1", "aboard 0 6 1 = 1", "aboard 0 7 1 = 1",
                "aboard 0 8 1 = 1");
        Script.holds("Terms 1: SPAN 9 is all nine SECTIONS: DOWN", DOWN, "sell 0 1 9",
                "aboard 0 0 1 = 1", "aboard 0 1 1 = 1", "aboard 0 2 1 = 1", "aboard 0 3 1 = 1",
                "aboard 0 4 1 = 1", "aboard 0 5 1 = 1", "aboard 0 6 1 = 1", "aboard 0 7 1 = 1",
                "aboard 0 8 1 = 1");
        Script.holds("Terms 1: SPAN 8 ends one ahead of the end: UP",
                "type 1 8 | issue 0 0 0 2 | trip 0 up | sell 0 0 0", "aboard 0 7 1 = 1",
                "aboard 0 8 1 = 0", "sell 0 0 1", "aboard 0 8 1 = 1", "aboard 0 0 1 = 1");
        Script.holds("Terms 1: SPAN 8 ends one ahead of the end: DOWN",
                "type 1 8 | issue 0 0 0 2 | trip 0 down | sell 0 0 9", "aboard 0 1 1 = 1",
                "aboard 0 0 1 = 0", "sell 0 0 8", "aboard 0 0 1 = 1", "aboard 0 8 1 = 1");
        Script.holds("Terms 1: fewer at the end: SPAN 9 from STAGE 1 on: UP", UP, "sell 0 1 1",
                "aboard 0 0 1 = 0", "aboard 0 1 1 = 1", "aboard 0 8 1 = 1");
        Script.holds("Terms 1: fewer at the end: SPAN 9 from STAGE 8 on: DOWN", DOWN,
                "sell 0 1 8", "aboard 0 8 1 = 0", "aboard 0 7 1 = 1", "aboard 0 0 1 = 1");
    }

    private static void aboardEnds() {
        Script.holds("Terms 1: SECTION 0 lies between STAGES 0 and 1: UP", UP, "sell 0 0 0",
                "aboard 0 0 0 = 1", "aboard 0 0 1 = 1", "aboard 0 1 0 = 0", "aboard 0 1 1 = 0");
        Script.holds("Terms 1: SECTION 0 lies between STAGES 0 and 1: DOWN", DOWN, "sell 0 0 1",
                "aboard 0 0 0 = 1", "aboard 0 0 1 = 1", "aboard 0 1 0 = 0", "aboard 0 1 1 = 0");
        Script.holds("Terms 1: SECTION 8 lies between STAGES 8 and 9: UP", UP, "sell 0 0 8",
                "aboard 0 8 0 = 1", "aboard 0 8 1 = 1", "aboard 0 7 0 = 0", "aboard 0 7 1 = 0");
        Script.holds("Terms 1: SECTION 8 lies between STAGES 8 and 9: DOWN", DOWN, "sell 0 0 9",
                "aboard 0 8 0 = 1", "aboard 0 8 1 = 1", "aboard 0 7 0 = 0", "aboard 0 7 1 = 0");
        Script.holds("Terms 1: fewer at the end: SPAN 9 at the last STAGE but one: UP", UP,
                "sell 0 1 8", "aboard 0 8 1 = 1", "aboard 0 7 1 = 0", "aboard 0 0 1 = 0");
        Script.holds("Terms 1: fewer at the end: SPAN 9 at the last STAGE but one: DOWN", DOWN,
                "sell 0 1 1", "aboard 0 0 1 = 1", "aboard 0 1 1 = 0", "aboard 0 8 1 = 0");
    }

    private static void aboardLeast() {
        Script.holds("Terms 1: LEAST: those who got in at its first STAGE: UP", UP,
                "sell 0 1 3 | sell 0 1 4 | sell 0 1 4", "aboard 0 2 0 = 0", "aboard 0 3 0 = 1",
                "aboard 0 4 0 = 2", "aboard 0 5 0 = 0", "aboard 0 4 1 = 3", "aboard 0 5 1 = 3");
        Script.holds("Terms 1: LEAST: those who got in at its first STAGE: DOWN", DOWN,
                "sell 0 1 4 | sell 0 1 3 | sell 0 1 3", "aboard 0 4 0 = 0", "aboard 0 3 0 = 1",
                "aboard 0 2 0 = 2", "aboard 0 1 0 = 0", "aboard 0 2 1 = 3", "aboard 0 1 1 = 3");
        Script.holds("Terms 1: MOST: all 200", "type 1 9 | issue 0 0 0 200 | trip 0 up",
                "200 x sell 0 0 0", "aboard 0 0 0 = 200", "aboard 0 0 1 = 200",
                "aboard 0 8 0 = 0", "aboard 0 8 1 = 200", "riders up 8 1 = 200",
                "heads 0 8 200 = 0", "heads 0 8 201 = 1", "heads 0 0 199 = -1");
    }

    private static void riders() {
        Script.holds("Promise 16: BAD: SECTIONS are 0 to 8", "! riders up -1 0 = -1",
                "! riders up 0 0 = 0", "! riders down 8 1 = 0", "! riders up 9 0 = -1",
                "! riders down -1 0 = -1", "! riders down 9 0 = -1", "! riders up MIN 0 = -1",
                "! riders up MAX 0 = -1");
        Script.holds("Promise 16: BAD: what is 0, 1", UP, "sell 0 1 0", "! riders up 1 -1 = -1",
                "! riders up 1 0 = 0", "! riders up 1 1 = 1", "! riders up 1 2 = -1",
                "! riders up 1 MIN = -1", "! riders up 1 MAX = -1");
        Script.holds("Promise 16: no TRIPS; no TRIPS of a way", "riders up 0 0 = 0", UP,
                "sell 0 0 0", "riders down 0 0 = 0", "riders down 0 1 = 0", "riders up 0 0 = 1");
        Script.holds("Promise 16: all TRIPS of a way, closed too", UP, "sell 0 0 0 | close 0",
                "trip 0 up | sell 1 0 0 | close 1 | trip 0 down | sell 2 1 9", "riders up 0 0 = 2",
                "riders up 0 1 = 2", "riders down 0 1 = 1", "riders down 8 0 = 1",
                "riders down 0 0 = 0");
        Script.holds("Promise 16: the last of 16 TRIPS too", "type 1 1 | issue 0 0 0 5",
                sixteenTrips(), "sell 15 0 0", "riders up 0 0 = 1", "riders up 0 1 = 1");
    }

    private static String sixteenTrips() {
        StringBuilder s = new StringBuilder("trip 0 up");
        for (int t = 1; t < 16; t++) {
            s.append(" | close ").append(t - 1).append(" | trip 0 up = ").append(t);
        }
        return s.toString();
    }

    private static void shownBounds() {
        String sold = UP + " | sell 0 0 0";
        Script.holds("Promise 17: BAD: no such TRIP", "type 1 1", "! shown 0 0 0 0 = -1",
                "trip 0 up | trip 1 up", "! shown -1 0 0 0 = -1", "! shown 0 0 0 0 = 1",
                "! shown 1 0 0 0 = 1", "! shown 2 0 0 0 = -1", "! shown MIN 0 0 0 = -1",
                "! shown MAX 0 0 0 = -1");
        Script.holds("Promise 17: BAD: SECTIONS are 0 to 8", sold, "! shown 0 -1 0 100 = -1",
                "! shown 0 0 0 100 = 0", "! shown 0 8 0 100 = 4", "! shown 0 9 0 100 = -1",
                "! shown 0 MIN 0 100 = -1", "! shown 0 MAX 0 100 = -1");
        Script.holds("Promise 17: BAD: no such TYPE", "trip 0 up", "! shown 0 0 0 0 = -1",
                "type 1 1 | type 1 1", "! shown 0 0 -1 0 = -1", "! shown 0 0 0 0 = 1",
                "! shown 0 0 1 0 = 1", "! shown 0 0 2 0 = -1", "! shown 0 0 MIN 0 = -1",
                "! shown 0 0 MAX 0 = -1");
        Script.holds("Promise 17: BAD: also a NUMBER below 0", sold, "! shown 0 0 0 -1 = -1",
                "! shown 0 0 0 0 = 1", "! shown 0 0 0 MIN = -1", "! shown 0 0 0 MAX = 1");
        Script.holds("Promise 17: a NUMBER 0 that was sold", "type 1 1 | issue 0 0 0 1",
                "trip 0 up", "shown 0 0 0 0 = 1", "sell 0 0 0 = 0", "shown 0 0 0 0 = 0");
    }

    private static void shownAnswers() {
        String sold = UP + " | sell 0 0 0 | sell 0 0 0";
        Script.holds("Promise 17: 1 it was not sold: ahead of the first, NEXT, END", sold,
                "shown 0 0 0 99 = 1", "shown 0 0 0 100 = 0", "shown 0 0 0 101 = 0",
                "shown 0 0 0 102 = 1", "shown 0 0 0 109 = 1", "shown 0 0 0 110 = 1");
        Script.holds("Promise 17: 1 it was not sold: of that TYPE", sold, "shown 0 0 1 100 = 1");
        Script.holds("Promise 17: 1 it was not sold: undone", sold, "undo", "shown 0 0 0 101 = 1",
                "shown 0 0 0 100 = 0");
        Script.holds("Promise 17: 2 on another TRIP: open, closed, the same CONDUCTOR's", sold,
                "trip 1 up", "shown 1 0 0 100 = 2", "close 0 | trip 0 up", "shown 1 0 0 100 = 2",
                "shown 2 0 0 100 = 2", "shown 0 0 0 100 = 0");
        Script.holds("Promise 17: 1 ahead of all, 2 ahead of 3 and 4", UP, "trip 1 up",
                "sell 0 0 4", "shown 1 3 0 100 = 2", "shown 1 4 0 100 = 2", "shown 1 5 0 100 = 2",
                "shown 1 3 0 101 = 1");
    }

    private static void shownStages() {
        Script.holds("Promise 17: 3 at a later STAGE, 4 good no more: SPAN 1: UP", UP,
                "sell 0 0 4 = 100", "shown 0 3 0 100 = 3", "shown 0 4 0 100 = 0",
                "shown 0 5 0 100 = 4", "shown 0 0 0 100 = 3", "shown 0 8 0 100 = 4");
        Script.holds("Promise 17: 3 at a later STAGE, 4 good no more: SPAN 1: DOWN", DOWN,
                "sell 0 0 4 = 100", "shown 0 4 0 100 = 3", "shown 0 3 0 100 = 0",
                "shown 0 2 0 100 = 4", "shown 0 8 0 100 = 3", "shown 0 0 0 100 = 4");
        Script.holds("Promise 17: SPAN 3: its last SECTION, and the one behind: UP",
                "type 1 3 | issue 0 0 0 1 | trip 0 up | sell 0 0 2", "shown 0 1 0 0 = 3",
                "shown 0 2 0 0 = 0", "shown 0 4 0 0 = 0", "shown 0 5 0 0 = 4");
        Script.holds("Promise 17: SPAN 3: its last SECTION, and the one behind: DOWN",
                "type 1 3 | issue 0 0 0 1 | trip 0 down | sell 0 0 7", "shown 0 7 0 0 = 3",
                "shown 0 6 0 0 = 0", "shown 0 4 0 0 = 0", "shown 0 3 0 0 = 4");
        Script.holds("Promise 17: at the first STAGE none is ahead: UP", UP, "sell 0 1 0 = 500",
                "shown 0 0 1 500 = 0", "shown 0 8 1 500 = 0");
        Script.holds("Promise 17: at the first STAGE none is ahead: DOWN", DOWN,
                "sell 0 1 9 = 500", "shown 0 8 1 500 = 0", "shown 0 0 1 500 = 0");
        Script.holds("Promise 17: at the last STAGE but one: UP", UP, "sell 0 1 8 = 500",
                "shown 0 7 1 500 = 3", "shown 0 8 1 500 = 0");
        Script.holds("Promise 17: at the last STAGE but one: DOWN", DOWN, "sell 0 1 1 = 500",
                "shown 0 1 1 500 = 3", "shown 0 0 1 500 = 0");
    }

    private static void heads() {
        Script.holds("Promise 18: BAD -1000000: no such TRIP", "! heads 0 0 0 = -1000000",
                "trip 0 up | trip 1 up", "! heads -1 0 0 = -1000000", "! heads 0 0 0 = 0",
                "! heads 1 0 0 = 0", "! heads 2 0 0 = -1000000", "! heads MIN 0 0 = -1000000",
                "! heads MAX 0 0 = -1000000");
        Script.holds("Promise 18: BAD -1000000: SECTIONS are 0 to 8", "trip 0 up",
                "! heads 0 -1 0 = -1000000", "! heads 0 0 0 = 0", "! heads 0 8 0 = 0",
                "! heads 0 9 0 = -1000000", "! heads 0 MIN 0 = -1000000",
                "! heads 0 MAX 0 = -1000000");
        Script.holds("Promise 18: BAD -1000000: heads are 0 to 1000", "trip 0 up",
                "! heads 0 0 -1 = -1000000", "! heads 0 0 0 = 0", "! heads 0 0 1 = 1",
                "! heads 0 0 1000 = 1000", "! heads 0 0 1001 = -1000000",
                "! heads 0 0 MIN = -1000000", "! heads 0 0 MAX = -1000000");
    }

    private static void headsBeyond() {
        String sold = UP + " | sell 0 1 3 | sell 0 1 3 | sell 0 1 4 | sell 0 1 4 | sell 0 1 4";
        Script.holds("Promise 18: beyond MOST (above 0): as many, one more", sold,
                "heads 0 4 5 = 0", "heads 0 4 6 = 1", "heads 0 4 1000 = 995");
        Script.holds("Promise 18: LEAST beyond them (below 0): as many, one less, none", sold,
                "heads 0 4 3 = 0", "heads 0 4 2 = -1", "heads 0 4 0 = -3");
        Script.holds("Promise 18: else 0: between LEAST and MOST", sold, "heads 0 4 4 = 0",
                "heads 0 5 0 = 0", "heads 0 5 5 = 0", "heads 0 5 6 = 1", "heads 0 2 0 = 0",
                "heads 0 2 1 = 1");
        Script.holds("Promise 18: LEAST and MOST alike", UP, "sell 0 0 8 | sell 0 0 8",
                "heads 0 8 1 = -1", "heads 0 8 2 = 0", "heads 0 8 3 = 1");
        Script.holds("Promise 18: in a SECTION of a TRIP DOWN", DOWN,
                "sell 0 0 9 | sell 0 0 9 | sell 0 0 8", "heads 0 8 1 = -1", "heads 0 8 2 = 0",
                "heads 0 8 3 = 1", "heads 0 7 0 = -1", "heads 0 7 2 = 1");
    }

    private static void gapNone() {
        Script.holds("Promise 19: BAD: no such TYPE", "! gap 0 = -1", "type 1 1 | type 1 1",
                "! gap -1 = -1", "! gap 0 = -4", "! gap 1 = -4", "! gap 2 = -1", "! gap MIN = -1",
                "! gap MAX = -1");
        Script.holds("Promise 19: NONE: none was sold", "type 1 1", "gap 0 = -4",
                "issue 0 0 50 10", "gap 0 = -4", "trip 0 up | sell 0 0 0 | undo", "gap 0 = -4");
        Script.holds("Promise 19: NONE: 0 is the least that can be, and was sold",
                "type 1 1 | issue 0 0 0 1 | trip 0 up | sell 0 0 0", "gap 0 = -4");
        Script.holds("Promise 19: NONE: all ahead of the greatest are sold or in PACKS",
                "type 1 1 | issue 0 0 5 3 | issue 1 0 0 3 | issue 2 0 3 2 | trip 0 up",
                "3 x sell 0 0 0", "gap 0 = -4", "trip 1 up | trip 2 up", "3 x sell 1 0 0",
                "2 x sell 2 0 0", "gap 0 = -4");
        Script.holds("Promise 19: NONE: no greater one was sold",
                "type 1 1 | issue 0 0 0 3 | trip 0 up", "3 x sell 0 0 0", "gap 0 = -4",
                "issue 0 0 10 1", "gap 0 = -4");
    }

    private static void gapEnds() {
        Script.holds("Promise 19: 0 is the least that can be",
                "type 1 1 | issue 0 0 1 1 | trip 0 up", "gap 0 = -4", "sell 0 0 0 = 1",
                "gap 0 = 0");
        Script.holds("Promise 19: the one ahead of the greatest sold",
                "type 1 1 | issue 0 0 0 1 | trip 0 up | sell 0 0 0 | issue 0 0 2 1 | sell 0 0 0",
                "gap 0 = 1");
        Script.holds("Promise 19: the least of several",
                "type 1 1 | issue 0 0 0 2 | trip 0 up | 2 x sell 0 0 0 | issue 0 0 4 1",
                "sell 0 0 0 = 4", "issue 0 0 8 1", "sell 0 0 0 = 8", "gap 0 = 2",
                "issue 0 0 2 2", "gap 0 = 5");
        Script.holds("Promise 19: sold in falling order",
                "type 1 1 | trip 0 up | issue 0 0 3 1 | sell 0 0 0 | issue 0 0 2 1 | sell 0 0 0",
                "issue 0 0 1 1 | sell 0 0 0", "gap 0 = 0", "issue 0 0 0 1 | sell 0 0 0",
                "gap 0 = -4");
        Script.holds("Promise 19: far behind: NUMBER 100999 sold",
                "type 1 1 | issue 0 0 100000 1000 | issue 1 0 0 1 | trip 0 up", "sell 0 0 0",
                "gap 0 = 1", "issue 1 0 1 1000", "gap 0 = 0", "issue 1 0 0 1000",
                "issue 2 0 1000 1000 | issue 3 0 2000 1000 | issue 4 0 3000 1000", "gap 0 = 4000",
                "issue 5 0 4000 1000", "gap 0 = 5000");
        Script.holds("Promise 19: 200 sold in falling order, five PACKS behind them",
                "type 1 1 | trip 0 up | issue 0 0 300 1 | sell 0 0 0", soldFalling(198),
                "gap 0 = 199", "issue 1 0 199 1 | issue 2 0 200 1 | issue 3 0 201 1", "gap 0 = 202",
                "issue 4 0 202 1 | issue 5 0 203 1", "gap 0 = 204", "issue 0 0 204 96",
                "gap 0 = -4");
        Script.holds("Promise 19: of that TYPE alone",
                "type 1 1 | type 1 1 | issue 0 0 5 1 | issue 0 1 0 5 | trip 0 up", "sell 0 0 0",
                "gap 1 = -4", "gap 0 = 0", "sell 0 1 0", "gap 1 = -4", "gap 0 = 0",
                "issue 0 1 3 2 = 4", "gap 1 = -4", "sell 0 1 0", "gap 1 = 1", "gap 0 = 0");
    }

    private static String soldFalling(int from) {
        StringBuilder s = new StringBuilder("count 2 = 1");
        for (int number = from; number >= 0; number--) {
            s.append(" | issue 0 0 ").append(number).append(" 1 | sell 0 0 0 = ").append(number);
        }
        return s.toString();
    }

    private static void gapPacks() {
        String sold = "type 1 1 | issue 0 0 20 1 | trip 0 up | sell 0 0 0";
        Script.holds("Promise 19: in no PACK: ahead of NEXT, behind the last one", sold,
                "issue 1 0 0 5", "gap 0 = 5", "issue 1 0 1 5", "gap 0 = 0", "issue 1 0 0 19",
                "gap 0 = 19", "issue 1 0 0 20", "gap 0 = -4");
        Script.holds("Promise 19: in no PACK, of any CONDUCTOR, whatever their order", sold,
                "issue 5 0 0 4 | issue 1 0 4 4 | issue 4 0 8 4 | issue 2 0 12 4", "gap 0 = 16",
                "issue 3 0 16 3", "gap 0 = 19", "issue 0 0 19 1", "gap 0 = -4", "issue 5 0 0 3",
                "gap 0 = 3");
        Script.holds("Promise 19: a PACK issued empty holds none", sold, "issue 1 0 0 0",
                "gap 0 = 0", "issue 1 0 0 20 | issue 1 0 7 0", "gap 0 = 0");
        Script.holds("Promise 19: those not sold of a former PACK", "type 1 1 | issue 0 0 0 3",
                "trip 0 up | sell 0 0 0 = 0", "gap 0 = -4", "issue 0 0 9 2", "gap 0 = -4",
                "sell 0 0 0 = 9", "gap 0 = 1");
        Script.holds("Promise 19: undone it is in the PACK again", "type 1 1 | issue 0 0 0 3",
                "trip 0 up | 3 x sell 0 0 0", "undo | undo", "gap 0 = -4", "issue 0 0 2 1",
                "gap 0 = -4", "sell 0 0 0 = 2", "gap 0 = 1");
        Script.holds("Promise 19: a PACK that reaches beyond the greatest sold", sold,
                "issue 1 0 0 10 | issue 2 0 10 10 | issue 3 0 21 5", "gap 0 = -4");
    }
}
