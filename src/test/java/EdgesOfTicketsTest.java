/** Promises 1 to 8, sentence by sentence: bounds, what is full or empty, what is refused. */
final class EdgesOfTicketsTest {
    /** A type 0 of 3 pence and 2 sections, conductor 0 with 100 to 109 of it, trip 0 up. */
    private static final String ON_TRIP = "type 3 2 | issue 0 0 100 10 | trip 0 up";
    /** Likewise, but down, with 7 as the first number. */
    private static final String DOWN = "type 3 2 | issue 0 0 7 10 | trip 0 down";
    private static final String ALL_SOLD =
            "type 60 9 | issue 0 0 0 300 | trip 0 up | 200 x sell 0 0 0";

    public static void main(String[] args) {
        newObject();
        type();
        issueBounds();
        issueNumbers();
        issueSold();
        issueOthers();
        pack();
        trip();
        close();
        sellBounds();
        sellStages();
        sellLatest();
        sellFullAndEmpty();
        sellFirstThatFits();
        undoNone();
        undoNumbers();
        undoTrips();
        Check.finish();
    }

    private static void newObject() {
        Script.holds("Promise 1: no TYPES", "count 0 = 0", "gap 0 = -1", "issue 0 0 0 1 = -1",
                "pack 0 0 0 = -1", "type 1 1 = 0");
        Script.holds("Promise 1: no TRIPS", "count 1 = 0", "count 3 = 0", "money 0 = -1",
                "close 0 = -1", "riders up 0 1 = 0", "riders down 8 1 = 0", "paid 0 0 = 0",
                "trip 0 up = 0");
        Script.holds("Promise 1: no SALES, then", "count 2 = 0", "undo = -4");
        Script.holds("Promise 1: no DUTIES", "count 4 = 0", "crew 0 = -1", "ill 0 = -1",
                "crews 0 = 0", "crews 2 = -4", "duty 0 1 = 0");
        Script.holds("Promise 1: no law is told", "count 5 = 0", "fare 1 0 = -4",
                "fare 9 1439 = -4", "change 0 0 = 0", "fault = 0");
        Script.holds("Promise 1: SHEETS have nothing", "count 6 = -4", "lay 0 0 0 = -11",
                "lay 1 0 0 = -11", "lay 2 0 0 = -11", "lay 3 0 0 = -11", "trip 0 up",
                "scan 0 0 0 0 0 = -11", "scan 0 1 1 0 0 = -11", "scan 0 2 2 0 0 = -11",
                "scan 0 3 0 0 0 = -11");
        Script.holds("Promise 1: THE TAPE is empty", "count 7 = 0", "end 1 = -1", "end 0 = 0",
                "laws = 0");
        Script.holds("Terms 3: REST is 30 at first", "rest 0 = 30");
        Script.holds("Terms 1: a PACK is 0, 0 at first", "type 1 1", "pack 0 0 0 = -4",
                "pack 0 0 1 = 0", "pack 5 0 0 = -4", "pack 5 0 1 = 0", "trip 0 up",
                "sell 0 0 0 = -4", "issue 1 0 0 1 = 0");
    }

    private static void type() {
        Script.holds("Promise 2: a PRICE is 1 to 60", "! type 0 1 = -1", "type 1 1 = 0",
                "type 60 1 = 1", "! type 61 1 = -1", "! type -1 1 = -1", "! type MIN 1 = -1",
                "! type MAX 1 = -1", "count 0 = 2");
        Script.holds("Promise 2: a SPAN is 1 to 9", "! type 1 0 = -1", "type 1 1 = 0",
                "type 1 9 = 1", "! type 1 10 = -1", "! type 1 -1 = -1", "! type 1 MIN = -1",
                "! type 1 MAX = -1", "count 0 = 2");
        Script.holds("Promise 2: the least and the greatest PRICE are what a SALE comes to",
                "type 1 1 | type 60 1 | issue 0 0 0 2 | issue 0 1 0 2 | trip 0 up",
                "sell 0 0 0 | money 0 = 1", "sell 0 1 0 | money 0 = 61");
        Script.holds("Terms 1: TYPES are numbered as they come, like ones too", "type 5 5 = 0",
                "type 5 5 = 1", "type 4 4 = 2");
        Script.holds("Promise 2: FULL, of 5 TYPES", "type 1 1 = 0", "type 1 1 = 1", "type 1 1 = 2",
                "type 1 1 = 3", "type 1 1 = 4", "! type 1 1 = -3", "count 0 = 5");
        Script.holds("Promise 2: BAD ahead of FULL", "5 x type 1 1", "! type 0 1 = -1",
                "! type 61 1 = -1", "! type 1 0 = -1", "! type 1 10 = -1");
        Script.holds("Terms: there is no such TYPE: the last of 5, and one beyond", "5 x type 1 1",
                "issue 0 4 0 1 = 0", "! issue 0 5 0 1 = -1", "pack 0 4 1 = 1", "pack 0 5 1 = -1",
                "gap 4 = -4", "gap 5 = -1", "trip 0 up", "sell 0 4 0 = 0", "! sell 0 5 0 = -1",
                "waybill 0 4 0 = 1", "waybill 0 5 0 = -1", "shown 0 0 4 0 = 0",
                "shown 0 0 5 0 = -1");
    }

    private static void issueBounds() {
        Script.holds("Promise 3: BAD: CONDUCTORS are 0 to 5", "type 1 1", "! issue -1 0 0 1 = -1",
                "issue 0 0 0 1 = 0", "issue 5 0 1 1 = 0", "! issue 6 0 2 1 = -1",
                "! issue MIN 0 2 1 = -1", "! issue MAX 0 2 1 = -1");
        Script.holds("Promise 3: BAD: no such TYPE", "! issue 0 0 0 1 = -1", "type 1 1 | type 1 1",
                "! issue 0 -1 0 1 = -1", "issue 0 0 0 1 = 0", "issue 0 1 0 1 = 0",
                "! issue 0 2 0 1 = -1", "! issue 0 MIN 0 1 = -1", "! issue 0 MAX 0 1 = -1");
        Script.holds("Promise 3: from one on, 0 to 100000", "type 1 1", "! issue 0 0 -1 1 = -1",
                "issue 0 0 0 1 = 0", "pack 0 0 0 = 0", "issue 0 0 100000 1 = 1",
                "pack 0 0 0 = 100000", "! issue 0 0 100001 1 = -1", "! issue 0 0 100001 0 = -1",
                "! issue 0 0 -1 0 = -1", "! issue 0 0 MIN 1 = -1", "! issue 0 0 MAX 1 = -1");
        Script.holds("Promise 3: n is 0 to 1000", "type 1 1", "! issue 0 0 5 -1 = -1",
                "issue 0 0 5 0 = 0", "pack 0 0 1 = 0", "issue 0 0 5 1000 = 0", "pack 0 0 1 = 1000",
                "! issue 0 0 5 1001 = -1", "! issue 0 0 5 MIN = -1", "! issue 0 0 5 MAX = -1");
        Script.holds("Promise 3: BAD ahead of STATE", ON_TRIP, "sell 0 0 0 = 100",
                "! issue 0 0 100 1001 = -1", "! issue 6 0 100 1 = -1", "! issue 0 1 100 1 = -1",
                "! issue 1 0 100 -1 = -1", "! issue 1 0 100 1 = -2");
    }

    private static void issueNumbers() {
        Script.holds("Terms 1: NUMBERS from NEXT up to, not with, END", "type 1 1",
                "issue 0 0 7 2 = 0", "trip 0 up", "sell 0 0 0 = 7", "sell 0 0 0 = 8",
                "sell 0 0 0 = -4");
        Script.holds("Promise 3: n NUMBERS from 100000 on go on behind 100000", "type 1 1",
                "issue 0 0 100000 2 = 0", "trip 0 up", "sell 0 0 0 = 100000",
                "sell 0 0 0 = 100001", "sell 0 0 0 = -4", "shown 0 0 0 100001 = 0");
        Script.holds("Promise 3: how many were not sold: all, some, one, none", ON_TRIP,
                "issue 0 0 100 10 = 10", "3 x sell 0 0 0", "issue 0 0 200 2 = 7", "sell 0 0 0",
                "issue 0 0 300 1 = 1", "sell 0 0 0", "issue 0 0 400 1 = 0");
        Script.holds("Promise 3: of an empty PACK none were not sold", "type 1 1",
                "issue 0 0 5 0 = 0", "issue 0 0 6 0 = 0", "issue 0 0 6 4 = 0",
                "issue 0 0 6 0 = 4", "issue 0 0 6 1 = 0");
        Script.holds("Promise 3: 0 NUMBERS empty a PACK", ON_TRIP, "issue 0 0 100 0 = 10",
                "pack 0 0 0 = -4", "pack 0 0 1 = 0", "sell 0 0 0 = -4");
        Script.holds("Promise 3: a PACK of another TYPE or CONDUCTOR stays",
                "type 1 1 | type 1 1 | issue 0 0 10 5 | issue 0 1 20 6 | issue 1 0 30 7",
                "issue 0 0 50 1 = 5", "pack 0 1 0 = 20", "pack 0 1 1 = 6", "pack 1 0 0 = 30",
                "pack 1 0 1 = 7");
    }

    private static void issueSold() {
        String sold = ON_TRIP + " | sell 0 0 0 = 100 | issue 0 0 500 1";
        Script.holds("Promise 3: STATE: the first of these NUMBERS was sold", sold,
                "! issue 0 0 100 5 = -2", "issue 0 0 101 5 = 1");
        Script.holds("Promise 3: STATE: the last of these NUMBERS was sold", sold,
                "! issue 0 0 96 5 = -2", "issue 0 0 95 5 = 1");
        Script.holds("Promise 3: STATE: one amid these NUMBERS was sold", sold,
                "! issue 0 0 98 5 = -2");
        Script.holds("Promise 3: STATE: sold by another CONDUCTOR, on a closed TRIP", sold,
                "close 0", "! issue 1 0 100 1 = -2", "issue 1 0 101 1 = 0",
                "! issue 1 0 99 2 = -2", "issue 1 0 99 1 = 1");
        Script.holds("Promise 3: 0 NUMBERS hold none that was sold", sold, "issue 0 0 100 0 = 1",
                "issue 1 0 100 0 = 0");
        Script.holds("Promise 3: a NUMBER of another TYPE was not sold", sold, "type 1 1 = 1",
                "issue 0 1 100 1 = 0");
        Script.holds("Promise 3: STATE: the last one of 200 SALES",
                "type 1 1 | issue 0 0 0 200 | trip 0 up | 200 x sell 0 0 0",
                "! issue 0 0 199 1 = -2", "! issue 1 0 199 9 = -2", "issue 1 0 200 1 = 0");
        Script.holds("Promise 3: a TICKET undone was not sold", ON_TRIP, "sell 0 0 0 = 100",
                "undo = 0", "issue 0 0 99 2 = 10", "pack 0 0 0 = 99", "issue 0 0 0 0 = 2",
                "issue 1 0 100 1 = 0");
        Script.holds("Terms 1: each was sold once: not by a new PACK either", sold,
                "! issue 0 0 100 1 = -2", "sell 0 0 0 = 500", "! issue 0 0 500 1 = -2",
                "shown 0 0 0 100 = 0", "shown 0 0 0 500 = 0");
    }

    private static void issueOthers() {
        String packs = "type 1 1 | issue 0 0 100 10";
        Script.holds("Promise 3: STATE: another's NEXT", packs, "issue 1 0 99 1 = 0",
                "! issue 1 0 99 2 = -2", "! issue 1 0 100 1 = -2");
        Script.holds("Promise 3: STATE: another's last one, and its END", packs,
                "! issue 1 0 109 1 = -2", "issue 1 0 110 1 = 0");
        Script.holds("Promise 3: STATE: within another's, around another's", packs,
                "! issue 1 0 104 2 = -2", "! issue 1 0 50 500 = -2");
        Script.holds("Promise 3: STATE: of each other CONDUCTOR's",
                "type 1 1 | issue 0 0 0 1 | issue 5 0 5 1", "! issue 3 0 0 1 = -2",
                "! issue 3 0 5 1 = -2", "! issue 5 0 0 1 = -2", "! issue 0 0 5 1 = -2",
                "issue 3 0 1 4 = 0");
        Script.holds("Promise 3: a CONDUCTOR's own PACK is not another's", packs,
                "issue 0 0 105 10 = 10", "issue 0 0 95 15 = 10");
        Script.holds("Promise 3: what another has no more, or of another TYPE", packs, "type 1 1",
                "issue 1 1 100 10 = 0", "issue 0 0 105 5 = 10", "issue 1 0 100 5 = 0",
                "! issue 1 0 100 6 = -2");
        Script.holds("Promise 3: an empty PACK holds none, 0 NUMBERS hold none", packs,
                "issue 1 0 105 0 = 0", "issue 0 0 104 0 = 10", "issue 2 0 100 10 = 0");
        Script.holds("Promise 3: a sold out PACK holds none", "type 1 1 | issue 0 0 100 1",
                "trip 0 up | sell 0 0 0 = 100", "issue 1 0 101 5 = 0");
    }

    private static void pack() {
        Script.holds("Promise 4: BAD: CONDUCTORS are 0 to 5", "type 1 1", "! pack -1 0 1 = -1",
                "pack 0 0 1 = 0", "pack 5 0 1 = 0", "! pack 6 0 1 = -1", "! pack MIN 0 1 = -1",
                "! pack MAX 0 1 = -1");
        Script.holds("Promise 4: BAD: no such TYPE", "! pack 0 0 1 = -1", "type 1 1 | type 1 1",
                "! pack 0 -1 1 = -1", "pack 0 0 1 = 0", "pack 0 1 1 = 0", "! pack 0 2 1 = -1",
                "! pack 0 MIN 1 = -1", "! pack 0 MAX 1 = -1");
        Script.holds("Promise 4: BAD: what is 0, 1", "type 1 1 | issue 0 0 40 9",
                "! pack 0 0 -1 = -1", "! pack 0 0 0 = 40", "! pack 0 0 1 = 9",
                "! pack 0 0 2 = -1", "! pack 0 0 MIN = -1", "! pack 0 0 MAX = -1");
        Script.holds("Promise 4: NEXT may be 0", "type 1 1 | issue 0 0 0 1", "pack 0 0 0 = 0",
                "pack 0 0 1 = 1");
        Script.holds("Promise 4: NONE: it is empty: sold out", "type 1 1 | issue 0 0 100 2",
                "trip 0 up | sell 0 0 0", "pack 0 0 0 = 101", "pack 0 0 1 = 1", "sell 0 0 0",
                "pack 0 0 0 = -4", "pack 0 0 1 = 0");
        Script.holds("Promise 4: BAD ahead of NONE", "type 1 1", "pack 0 0 0 = -4",
                "pack 6 0 0 = -1", "pack 0 1 0 = -1", "pack 0 0 2 = -1");
    }

    private static void trip() {
        Script.holds("Promise 5: BAD: CONDUCTORS are 0 to 5", "! trip -1 up = -1", "trip 0 up = 0",
                "trip 5 down = 1", "! trip 6 up = -1", "! trip MIN up = -1",
                "! trip MAX down = -1");
        Script.holds("Promise 5: STATE: one OPEN at most, up or down", "trip 0 up = 0",
                "! trip 0 up = -2", "! trip 0 down = -2", "trip 1 down = 1", "! trip 1 up = -2",
                "close 0", "trip 0 down = 2", "! trip 0 up = -2");
        Script.holds("Terms 1: each CONDUCTOR may have one OPEN", "trip 5 up = 0", "trip 4 up = 1",
                "trip 3 up = 2", "trip 2 up = 3", "trip 1 up = 4", "trip 0 up = 5", "count 3 = 6");
        Script.holds("Promise 5: FULL, of 16 TRIPS", fifteenTrips(), "trip 0 up = 15",
                "count 1 = 16", "! trip 1 up = -3", "close 15", "! trip 0 down = -3",
                "count 1 = 16");
        Script.holds("Promise 5: BAD ahead of all, STATE ahead of FULL", fifteenTrips(),
                "trip 0 up = 15", "! trip 0 up = -2", "! trip 1 up = -3", "! trip 6 up = -1",
                "! trip -1 up = -1");
        Script.holds("Terms: there is no such TRIP: the last of 16, and one beyond",
                "type 4 9 | issue 0 0 0 5", fifteenTrips(), "trip 0 up = 15", "sell 15 0 0 = 0",
                "! sell 16 0 0 = -1", "money 15 = 4", "money 16 = -1", "aboard 15 0 1 = 1",
                "aboard 16 0 1 = -1", "shown 15 0 0 0 = 0", "shown 16 0 0 0 = -1",
                "heads 15 0 1 = 0", "heads 16 0 1 = -1000000", "waybill 15 0 0 = 1",
                "waybill 16 0 0 = -1", "sheet 0 0 2", "scan 15 0 0 0 1 = 1",
                "! scan 16 0 0 0 1 = -1", "! close 16 = -1", "close 15 = 8");
    }

    private static String fifteenTrips() {
        StringBuilder s = new StringBuilder("trip 0 up = 0 | close 0 = 0");
        for (int t = 1; t < 15; t++) {
            s.append(" | trip 0 down = ").append(t).append(" | close ").append(t);
        }
        return s.toString();
    }

    private static void close() {
        Script.holds("Promise 6: BAD: no such TRIP", "! close 0 = -1", "trip 0 up | trip 1 up",
                "! close -1 = -1", "! close 2 = -1", "! close MIN = -1", "! close MAX = -1",
                "close 0 = 0", "close 1 = 0");
        Script.holds("Promise 6: STATE: it is closed", "trip 0 up", "close 0 = 0",
                "! close 0 = -2", "trip 0 up", "! close 0 = -2", "close 1 = 0", "! close 1 = -2");
        Script.holds("Promise 6: BAD ahead of STATE", "trip 0 up", "close 0", "! close 1 = -1");
        Script.holds("Promise 6: without SALES it comes to 0", ON_TRIP, "close 0 = 0");
        Script.holds("Promise 6: all SALES undone it comes to 0", ON_TRIP, "sell 0 0 0 | undo",
                "close 0 = 0");
        Script.holds("Promise 6: 200 SALES of 60", ALL_SOLD, "close 0 = 12000");
        Script.holds("Terms 1: a TRIP is OPEN till it is closed", ON_TRIP, "count 3 = 1",
                "sell 0 0 8 = 100", "close 0 = 3", "count 3 = 0", "! sell 0 0 8 = -2");
    }

    private static void sellBounds() {
        Script.holds("Promise 7: BAD: no such TRIP", "type 3 2 | issue 0 0 100 10 | issue 1 0 0 10",
                "! sell 0 0 0 = -1", "trip 0 up | trip 1 up", "! sell -1 0 0 = -1",
                "sell 0 0 0 = 100", "sell 1 0 0 = 0", "! sell 2 0 0 = -1", "! sell MIN 0 0 = -1",
                "! sell MAX 0 0 = -1");
        Script.holds("Promise 7: BAD: no such TYPE", ON_TRIP, "type 1 1 | issue 0 1 5 1",
                "! sell 0 -1 0 = -1", "sell 0 0 0 = 100", "sell 0 1 0 = 5", "! sell 0 2 0 = -1",
                "! sell 0 MIN 0 = -1", "! sell 0 MAX 0 = -1");
        Script.holds("Terms 1: STAGES are 0 to 9: UP", ON_TRIP, "! sell 0 0 -1 = -1",
                "sell 0 0 0 = 100", "! sell 0 0 9 = -2", "! sell 0 0 10 = -1",
                "! sell 0 0 MIN = -1", "! sell 0 0 MAX = -1");
        Script.holds("Terms 1: STAGES are 0 to 9: DOWN", DOWN, "! sell 0 0 10 = -1",
                "sell 0 0 9 = 7", "! sell 0 0 0 = -2", "! sell 0 0 -1 = -1",
                "! sell 0 0 MIN = -1", "! sell 0 0 MAX = -1");
    }

    private static void sellStages() {
        Script.holds("Promise 7: STATE: the TRIP's last STAGE: UP", ON_TRIP, "! sell 0 0 9 = -2",
                "sell 0 0 8 = 100", "! sell 0 0 9 = -2", "sell 0 0 8 = 101");
        Script.holds("Promise 7: STATE: the TRIP's last STAGE: DOWN", DOWN, "! sell 0 0 0 = -2",
                "sell 0 0 1 = 7", "! sell 0 0 0 = -2", "sell 0 0 1 = 8");
        Script.holds("Promise 7: at the TRIP's first STAGE: UP", ON_TRIP, "sell 0 0 0 = 100",
                "sell 0 0 0 = 101", "sell 0 0 1 = 102", "! sell 0 0 0 = -2");
        Script.holds("Promise 7: at the TRIP's first STAGE: DOWN", DOWN, "sell 0 0 9 = 7",
                "sell 0 0 9 = 8", "sell 0 0 8 = 9", "! sell 0 0 9 = -2");
        Script.holds("Promise 7: the other way's last STAGE is none", ON_TRIP, "sell 0 0 0 = 100",
                "close 0", "trip 0 down", "sell 1 0 9 = 101");
        Script.holds("Promise 7: a SALE at each STAGE: UP", ON_TRIP, "sell 0 0 0", "sell 0 0 1",
                "sell 0 0 2", "sell 0 0 3", "sell 0 0 4", "sell 0 0 5", "sell 0 0 6",
                "sell 0 0 7", "sell 0 0 8 = 108");
        Script.holds("Promise 7: a SALE at each STAGE: DOWN", DOWN, "sell 0 0 9", "sell 0 0 8",
                "sell 0 0 7", "sell 0 0 6", "sell 0 0 5", "sell 0 0 4", "sell 0 0 3",
                "sell 0 0 2", "sell 0 0 1 = 15");
        Script.holds("Promise 7: STATE: the TRIP is closed", ON_TRIP, "sell 0 0 3", "close 0",
                "! sell 0 0 3 = -2", "! sell 0 0 8 = -2");
    }

    private static void sellLatest() {
        Script.holds("Promise 7: STATE: behind the latest SALE's: UP", ON_TRIP, "sell 0 0 4 = 100",
                "! sell 0 0 3 = -2", "! sell 0 0 0 = -2", "sell 0 0 4 = 101", "sell 0 0 5 = 102",
                "! sell 0 0 4 = -2");
        Script.holds("Promise 7: STATE: behind the latest SALE's: DOWN", DOWN, "sell 0 0 5 = 7",
                "! sell 0 0 6 = -2", "! sell 0 0 9 = -2", "sell 0 0 5 = 8", "sell 0 0 4 = 9",
                "! sell 0 0 5 = -2");
        Script.holds("Promise 7: the latest SALE of that TRIP, of whatever TYPE", ON_TRIP,
                "type 1 1 | issue 0 1 0 5 | issue 1 0 50 5 | trip 1 up | trip 2 down",
                "sell 0 0 6 = 100", "! sell 0 1 5 = -2", "sell 1 0 2 = 50", "sell 0 1 6 = 0",
                "! sell 0 0 2 = -2", "! sell 1 0 1 = -2", "sell 1 0 3 = 51");
        Script.holds("Promise 7: an earlier TRIP's latest SALE does not matter", ON_TRIP,
                "sell 0 0 8 | close 0", "trip 0 up = 1", "sell 1 0 0 = 101");
        Script.holds("Promise 7: a SALE undone is not the latest one", ON_TRIP, "sell 0 0 4",
                "sell 0 0 7 | undo", "! sell 0 0 3 = -2", "sell 0 0 4 = 101", "undo | undo = 0",
                "sell 0 0 0 = 100");
        Script.holds("Promise 7: a refused SALE is not the latest one", ON_TRIP,
                "type 1 1 | sell 0 1 8 = -4", "sell 0 0 9 = -2", "sell 0 0 2 = 100");
    }

    private static void sellFullAndEmpty() {
        Script.holds("Promise 7: FULL: 200 SALES", "type 1 1 | issue 0 0 0 300 | trip 0 up",
                "199 x sell 0 0 0", "sell 0 0 0 = 199", "! sell 0 0 0 = -3", "count 2 = 200",
                "pack 0 0 0 = 200");
        Script.holds("Promise 7: FULL: 200 SALES on all TRIPS together",
                "type 1 1 | issue 0 0 0 300 | issue 1 0 500 300 | trip 0 up | trip 1 down",
                "199 x sell 0 0 0", "sell 1 0 9 = 500", "! sell 1 0 9 = -3", "! sell 0 0 0 = -3");
        Script.holds("Promise 7: one undone, there is room for one", ALL_SOLD, "undo = 199",
                "sell 0 0 0 = 199", "! sell 0 0 0 = -3");
        Script.holds("Promise 7: NONE: the PACK is empty: at first", "type 1 1 | trip 0 up",
                "! sell 0 0 0 = -4");
        Script.holds("Promise 7: NONE: the PACK is sold out", "type 1 1 | issue 0 0 5 1 | trip 0 up",
                "sell 0 0 0 = 5", "! sell 0 0 0 = -4", "issue 0 0 6 1 = 0", "sell 0 0 0 = 6",
                "! sell 0 0 0 = -4");
        Script.holds("Promise 7: NONE: the PACK was issued empty", ON_TRIP, "issue 0 0 5 0 = 10",
                "! sell 0 0 0 = -4");
        Script.holds("Promise 7: NONE: another CONDUCTOR's PACK is none of his", ON_TRIP,
                "trip 1 up", "! sell 1 0 0 = -4", "sell 0 0 0 = 100");
        Script.holds("Promise 7: the NUMBER may be 0", "type 1 1 | issue 0 0 0 1 | trip 0 up",
                "sell 0 0 0 = 0", "count 2 = 1");
    }

    private static void sellFirstThatFits() {
        Script.holds("Promise 7: BAD ahead of STATE", ON_TRIP, "sell 0 0 5", "close 0",
                "! sell 0 0 10 = -1", "! sell 0 0 -1 = -1", "! sell 0 1 0 = -1",
                "! sell 1 0 9 = -1");
        Script.holds("Promise 7: BAD ahead of FULL, of NONE", ALL_SOLD, "! sell 0 1 0 = -1",
                "! sell 0 0 10 = -1", "issue 0 0 0 0", "! sell 0 1 0 = -1");
        Script.holds("Promise 7: STATE ahead of FULL", ALL_SOLD, "! sell 0 0 9 = -2", "close 0",
                "! sell 0 0 0 = -2", "trip 0 down", "! sell 1 0 0 = -2", "! sell 1 0 9 = -3");
        Script.holds("Promise 7: STATE ahead of NONE", "type 1 1 | issue 0 0 0 1 | trip 0 up",
                "sell 0 0 5", "! sell 0 0 4 = -2", "! sell 0 0 9 = -2", "! sell 0 0 5 = -4",
                "close 0", "! sell 0 0 5 = -2");
        Script.holds("Promise 7: FULL ahead of NONE", ALL_SOLD, "issue 0 0 0 0",
                "! sell 0 0 0 = -3", "undo = -2");
    }

    private static void undoNone() {
        Script.holds("Promise 8: NONE: no SALE", "! undo = -4", ON_TRIP, "! undo = -4");
        Script.holds("Promise 8: NONE: all undone", ON_TRIP, "sell 0 0 0 | sell 0 0 0",
                "undo = 1", "undo = 0", "! undo = -4");
        Script.holds("Promise 8: how many SALES there are: from 200 on", ALL_SOLD, "undo = 199",
                "undo = 198");
        Script.holds("Promise 8: down to the first NUMBER of the PACK", ON_TRIP,
                "10 x sell 0 0 0", "pack 0 0 0 = -4", "undo = 9", "pack 0 0 0 = 109",
                "pack 0 0 1 = 1", "9 x undo", "pack 0 0 0 = 100", "pack 0 0 1 = 10",
                "sell 0 0 0 = 100");
        Script.holds("Promise 8: down to NUMBER 0", "type 1 1 | issue 0 0 0 1 | trip 0 up",
                "sell 0 0 0 = 0", "undo = 0", "pack 0 0 0 = 0", "pack 0 0 1 = 1",
                "sell 0 0 0 = 0");
        Script.alike("Promise 8: a SALE undone is as if it had not been",
                ON_TRIP + " | sell 0 0 2 | sell 0 0 5 | undo", ON_TRIP + " | sell 0 0 2");
    }

    private static void undoNumbers() {
        String sold = ON_TRIP + " | sell 0 0 0 = 100";
        Script.holds("Promise 8: STATE: NEXT is farther on", sold, "issue 0 0 102 5",
                "! undo = -2", "count 2 = 1");
        Script.holds("Promise 8: STATE: NEXT is the NUMBER, or ahead of it", sold,
                "issue 0 0 100 0", "! undo = -2", "issue 0 0 99 1", "! undo = -2");
        Script.holds("Promise 8: its NUMBER is the one ahead of a new PACK's NEXT", sold,
                "issue 0 0 101 5", "undo = 0", "pack 0 0 0 = 100", "pack 0 0 1 = 6");
        Script.holds("Promise 8: empty or not: issued empty", sold, "issue 0 0 101 0",
                "pack 0 0 0 = -4", "undo = 0", "pack 0 0 0 = 100", "pack 0 0 1 = 1",
                "sell 0 0 0 = 100", "sell 0 0 0 = -4");
        Script.holds("Promise 8: STATE: issued empty elsewhere", sold, "issue 0 0 102 0",
                "! undo = -2", "issue 0 0 0 0", "! undo = -2", "issue 0 0 101 0", "undo = 0");
        Script.holds("Promise 8: empty or not: sold out", "type 1 1 | issue 0 0 8 1 | trip 0 up",
                "sell 0 0 0 = 8", "undo = 0", "pack 0 0 0 = 8", "pack 0 0 1 = 1");
        Script.holds("Promise 8: of its CONDUCTOR's PACK of its TYPE", sold, "type 1 1",
                "issue 0 0 200 1", "issue 1 0 101 5", "issue 0 1 101 5", "! undo = -2");
    }

    private static void undoTrips() {
        String two = "type 3 2 | issue 0 0 100 10 | issue 1 0 200 10 | trip 0 up | trip 1 down";
        Script.holds("Promise 8: the latest SALE on any TRIP", two, "sell 0 0 0 | sell 1 0 9",
                "sell 0 0 0", "undo = 2", "money 0 = 3", "money 1 = 3", "undo = 1",
                "money 0 = 3", "money 1 = 0", "pack 1 0 0 = 200", "undo = 0", "pack 0 0 0 = 100");
        Script.holds("Promise 8: STATE: its TRIP is closed, though another's is OPEN", two,
                "sell 1 0 9 | sell 0 0 0 | close 0", "! undo = -2", "count 2 = 2");
        Script.holds("Promise 8: its TRIP is OPEN, though an earlier one's is closed", two,
                "sell 0 0 0 | close 0 | sell 1 0 9", "undo = 1", "! undo = -2");
        Script.holds("Promise 8: STATE: its CONDUCTOR's next TRIP does not open it", two,
                "sell 0 0 0 | close 0 | trip 0 up", "! undo = -2");
    }
}
