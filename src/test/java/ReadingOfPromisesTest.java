/** The document from its first promise to the 19th: each sentence, and calls that show it. */
final class ReadingOfPromisesTest {
    /** TYPES 0 of 3 pence and 2 SECTIONS, 1 of 9 SECTIONS; trips 0 up, of 0, and 1 down, of 1. */
    private static final String TRIPS = "type 3 2 | type 5 9 | issue 0 0 100 50 | issue 1 0 200 50"
            + " | issue 0 1 300 50 | issue 1 1 400 50 | trip 0 up | trip 1 down";

    private static Reading reading;

    public static void main(String[] args) throws Exception {
        reading = new Reading("## Promise 1: A new object", "## Promise 20: feed");
        newObject();
        type();
        issue();
        pack();
        trip();
        close();
        sell();
        undo();
        sheet();
        lay();
        scan();
        scanRefused();
        waybill();
        money();
        paid();
        aboard();
        riders();
        shown();
        heads();
        gap();
        reading.finish();
    }

    private static void newObject() {
        reading.head("## Promise 1: A new object");
        reading.says("`TramPence()`: No TYPES,", "count 0 = 0", "gap 0 = -1", "type 1 1 = 0");
        reading.says("TRIPS,", "count 1 = 0", "count 3 = 0", "close 0 = -1", "trip 0 up = 0");
        reading.says("DUTIES;", "count 4 = 0", "crew 0 = -1", "crews 0 = 0", "duty 0 1 = 0");
        reading.says("no law is told;", "count 5 = 0", "fare 1 0 = -4", "change 0 0 = 0",
                "fault = 0");
        reading.says("SHEETS have nothing.", "count 6 = -4", "lay 0 0 0 = -11", "lay 1 0 0 = -11",
                "lay 2 0 0 = -11", "lay 3 0 0 = -11", "trip 0 up", "scan 0 0 0 0 0 = -11",
                "scan 0 3 2 0 0 = -11");
    }

    private static void type() {
        reading.head("## Promise 2: type");
        reading.says("`int type(int price, int span)`: A TYPE: its number.", "type 3 2 = 0",
                "type 3 2 = 1", "type 60 9 = 2", "count 0 = 3");
        reading.says("BAD;", "! type 0 1 = -1", "! type 61 1 = -1", "! type 1 0 = -1",
                "! type 1 10 = -1", "! type MIN MAX = -1");
        reading.says("FULL.", "4 x type 1 1", "type 1 1 = 4", "! type 1 1 = -3", "type 0 1 = -1");
    }

    private static void issue() {
        reading.head("## Promise 3: issue");
        reading.says("`int issue(int c, int type, int from, int n)`: A CONDUCTOR's PACK of a TYPE"
                + " becomes n (0 to 1000) NUMBERS", "type 1 1", "issue 2 0 50 1000 = 0",
                "pack 2 0 1 = 1000", "issue 2 0 50 0 = 1000", "pack 2 0 1 = 0",
                "! issue 2 0 50 1001 = -1", "! issue 2 0 50 -1 = -1");
        reading.says("from one on (0 to 100000):", "type 1 1 | trip 0 up", "issue 0 0 100000 2 = 0",
                "sell 0 0 0 = 100000", "issue 0 0 0 1 = 1", "sell 0 0 0 = 0",
                "! issue 0 0 100001 1 = -1", "! issue 0 0 -1 1 = -1");
        reading.says("how many of the one that it had were not sold.", "type 1 1 | trip 0 up",
                "issue 0 0 10 5 = 0", "2 x sell 0 0 0", "issue 0 0 20 4 = 3", "4 x sell 0 0 0",
                "issue 0 0 30 1 = 0", "issue 0 0 31 1 = 1");
        reading.says("BAD;", "! issue 0 0 0 1 = -1", "type 1 1", "! issue -1 0 0 1 = -1",
                "! issue 6 0 0 1 = -1", "! issue 0 1 0 1 = -1", "! issue 0 -1 0 1 = -1",
                "issue 5 0 0 1 = 0");
        reading.says("STATE: a TICKET of that TYPE with one of these NUMBERS was sold,",
                "type 1 1 | type 1 1 | issue 0 0 10 5 | trip 0 up | sell 0 0 0 = 10",
                "! issue 0 0 10 3 = -2", "! issue 1 0 6 5 = -2", "issue 1 1 10 3 = 0",
                "issue 1 0 6 4 = 0");
        reading.says("or is in another CONDUCTOR's PACK.", "type 1 1 | issue 0 0 10 5",
                "! issue 1 0 14 1 = -2", "! issue 1 0 8 3 = -2", "issue 1 0 15 1 = 0",
                "issue 0 0 12 2 = 5", "issue 1 0 14 1 = 1");
    }

    private static void pack() {
        reading.head("## Promise 4: pack");
        reading.says("`int pack(int c, int type, int what)`: Of a CONDUCTOR's PACK of a TYPE:"
                + " 0 NEXT", "type 1 1 | issue 3 0 70 2 | trip 3 up", "pack 3 0 0 = 70",
                "sell 0 0 0", "pack 3 0 0 = 71", "issue 3 0 9 1", "pack 3 0 0 = 9");
        reading.says("(NONE: it is empty),", "type 1 1 | issue 3 0 70 1 | trip 3 up",
                "pack 2 0 0 = -4", "sell 0 0 0", "pack 3 0 0 = -4", "undo", "pack 3 0 0 = 70");
        reading.says("1 how many there are.", "type 1 1", "pack 3 0 1 = 0",
                "issue 3 0 70 2 | trip 3 up", "pack 3 0 1 = 2", "sell 0 0 0", "pack 3 0 1 = 1",
                "sell 0 0 0", "pack 3 0 1 = 0");
        reading.says("BAD.", "! pack 0 0 0 = -1", "type 1 1", "! pack 6 0 1 = -1",
                "! pack -1 0 1 = -1", "! pack 0 1 1 = -1", "! pack 0 -1 1 = -1",
                "! pack 0 0 2 = -1", "! pack 0 0 -1 = -1", "pack 5 0 1 = 0");
    }

    private static void trip() {
        reading.head("## Promise 5: trip");
        reading.says("`int trip(int c, boolean up)`: A TRIP: its number.", "trip 2 up = 0",
                "trip 4 down = 1", "close 0", "trip 2 down = 2", "count 1 = 3");
        reading.says("BAD;", "! trip 6 up = -1", "! trip -1 down = -1", "trip 5 up = 0");
        reading.says("STATE: the CONDUCTOR has one that is OPEN;", "trip 2 up",
                "! trip 2 down = -2", "! trip 2 up = -2", "trip 3 up = 1", "close 0",
                "trip 2 down = 2");
        StringBuilder sixteen = new StringBuilder();
        for (int t = 0; t < 16; t++) {
            sixteen.append("trip 1 up = " + t + " | close " + t + " | ");
        }
        reading.says("FULL.", sixteen + "! trip 1 up = -3", "! trip 2 down = -3");
    }

    private static void close() {
        reading.head("## Promise 6: close");
        reading.says("`int close(int t)`: A TRIP is closed: what its SALES come to.", TRIPS,
                "sell 0 0 4 | sell 0 1 4 | sell 1 0 4", "close 0 = 8", "count 3 = 1",
                "sell 0 0 4 = -2", "close 1 = 3", "count 3 = 0");
        reading.says("BAD;", "! close 0 = -1", "trip 0 up", "! close -1 = -1", "! close 1 = -1");
        reading.says("STATE: it is.", "trip 0 up | close 0", "! close 0 = -2", "trip 0 up = 1",
                "! close 0 = -2", "close 1 = 0");
    }

    private static void sell() {
        reading.head("## Promise 7: sell");
        reading.says("`int sell(int t, int type, int stage)`: A SALE: the NUMBER.", TRIPS,
                "sell 0 0 4 = 100", "sell 0 1 4 = 300", "sell 1 0 4 = 200", "sell 0 0 4 = 101",
                "count 2 = 4");
        reading.says("BAD;", TRIPS, "! sell 2 0 4 = -1", "! sell -1 0 4 = -1",
                "! sell 0 2 4 = -1", "! sell 0 -1 4 = -1", "! sell 0 0 10 = -1",
                "! sell 0 0 -1 = -1");
        reading.says("STATE: the TRIP is closed,", TRIPS, "close 0", "! sell 0 0 4 = -2",
                "sell 1 0 4 = 200");
        reading.says("the STAGE lies behind the latest SALE's,", TRIPS, "sell 0 0 4 | sell 1 0 4",
                "! sell 0 0 3 = -2", "! sell 1 0 5 = -2", "sell 0 0 5 = 101", "sell 1 0 3 = 201");
        reading.says("or is the TRIP's last one;", TRIPS, "! sell 0 0 9 = -2", "! sell 1 0 0 = -2",
                "sell 1 0 9 = 200", "sell 0 0 0 = 100");
        reading.says("FULL: 200 SALES;", "type 1 1 | issue 0 0 0 201 | trip 0 up",
                "199 x sell 0 0 0", "sell 0 0 0 = 199", "! sell 0 0 0 = -3");
        reading.says("NONE: the PACK is empty.", TRIPS, "trip 2 up = 2", "! sell 2 0 0 = -4",
                "issue 0 0 0 0", "! sell 0 0 0 = -4", "issue 2 0 0 1", "sell 2 0 0 = 0",
                "! sell 2 0 0 = -4");
    }

    private static void undo() {
        reading.head("## Promise 8: undo");
        reading.says("`int undo()`: The latest SALE on any TRIP is undone", TRIPS,
                "sell 0 0 4 | sell 0 1 5 | sell 1 0 4", "undo = 2", "waybill 1 0 0 = 0",
                "waybill 0 1 0 = 1", "undo = 1", "waybill 0 1 0 = 0", "waybill 0 0 0 = 1",
                "money 0 = 3", "sell 0 0 4 = 101");
        reading.says("(its TRIP being OPEN,", TRIPS, "sell 0 0 4 | sell 0 0 4 | close 1",
                "undo = 1", "close 0", "! undo = -2");
        reading.also(TRIPS, "sell 0 0 4 | sell 1 0 4 | close 1", "! undo = -2", "trip 1 down",
                "! undo = -2");
        reading.says("its NUMBER the one ahead of NEXT of its CONDUCTOR's PACK,", TRIPS,
                "sell 0 0 4 = 100", "issue 0 0 102 5", "! undo = -2", "issue 0 0 101 5 = 5",
                "undo = 0");
        reading.says("empty or not:", TRIPS, "sell 0 0 4 = 100", "issue 0 0 102 0", "! undo = -2",
                "issue 0 0 101 0 = 0", "undo = 0", "pack 0 0 1 = 1");
        reading.says("it is NEXT then):", TRIPS, "sell 0 0 4 = 100", "sell 0 0 4 = 101", "undo",
                "pack 0 0 0 = 101", "pack 0 0 1 = 49", "undo", "pack 0 0 0 = 100",
                "pack 0 0 1 = 50", "sell 0 0 4 = 100");
        reading.says("how many SALES there are.", TRIPS, "3 x sell 0 0 4 | sell 1 0 4", "undo = 3",
                "undo = 2", "undo = 1", "undo = 0");
        reading.says("NONE;", "! undo = -4", "type 1 1 | issue 0 0 0 1 | trip 0 up", "! undo = -4",
                "sell 0 0 0 = 0", "undo = 0", "! undo = -4");
        reading.says("STATE: it can not be.", TRIPS, "sell 0 0 4 | close 0", "! undo = -2",
                "count 2 = 1", "money 0 = 3");
    }

    private static void sheet() {
        reading.head("## Promise 9: sheet");
        reading.says("`int sheet(int k, int lane, int n)`: A SHEET is a new row of CELLS 0: 1.",
                TRIPS, "sheet 0 0 2 = 1", "lay 0 0 5", "scan 0 0 0 0 1 = -21", "sheet 0 0 2 = 1",
                "scan 0 0 0 0 1 = 1", "sheet 0 2 3 = 1", "count 6 = 3", "scan 0 0 2 0 1 = 1");
        reading.says("BAD: also n above 64;", "! sheet 4 0 1 = -1", "! sheet -1 0 1 = -1",
                "! sheet 0 3 1 = -1", "! sheet 0 -1 1 = -1", "! sheet 0 0 65 = -1",
                "sheet 3 2 64 = 1");
        reading.says("-10 - 4.", "! sheet 0 0 -1 = -14", "sheet 4 0 -1 = -1", "sheet 0 3 -1 = -1",
                "sheet 0 1 5", "! sheet 0 1 -5 = -14");
    }

    private static void lay() {
        reading.head("## Promise 10: lay");
        reading.says("`int lay(int k, int i, int v)`: CELL i of a SHEET becomes v"
                + " (its lowest bits): 1.", TRIPS, "sheet 1 0 4", "lay 1 2 1 = 1",
                "lay 1 3 258 = 1", "scan 0 1 0 2 1 = 1", "waybill 0 1 0 = 1", "aboard 0 2 0 = 1");
        reading.says("BAD: k;", "! lay 4 0 0 = -1", "! lay -1 0 0 = -1", "sheet 3 0 1",
                "lay 3 0 0 = 1");
        reading.says("-10 less the FAULT: NULL,", "! lay 0 0 0 = -11", "! lay 0 -1 0 = -11",
                "sheet 0 0 1", "lay 0 0 0 = 1");
        reading.says("INDEX.", "sheet 0 0 2", "! lay 0 -1 0 = -12", "! lay 0 2 0 = -12",
                "lay 0 1 0 = 1");
    }

    private static void scan() {
        reading.head("## Promise 11: scan");
        reading.says("`int scan(int t, int k, int lane, int f, int n)`: n (0 to 32) SALES on a TRIP"
                + " are read", TRIPS, "sheet 0 0 64", "scan 0 0 0 0 32 = 32", "count 2 = 32",
                "waybill 0 0 0 = 32", "! scan 0 0 0 0 33 = -1", "! scan 0 0 0 0 -1 = -1",
                "! scan 0 0 0 0 0 = 0");
        reading.says("of a SHEET taken as of a lane:", TRIPS,
                "sheet 0 0 2 | sheet 1 1 2 | sheet 2 2 2", "scan 0 0 0 0 1 = 1",
                "scan 0 1 1 0 1 = 1", "scan 0 2 2 0 1 = 1", "! scan 0 0 1 0 1 = -13",
                "! scan 0 2 1 0 1 = -13");
        reading.says("of each its TYPE,", TRIPS, "sheet 0 0 6 | lay 0 0 1 | lay 0 4 1",
                "scan 0 0 0 0 3 = 3", "waybill 0 0 0 = 1", "waybill 0 1 0 = 2");
        reading.says("its STAGE,", TRIPS, "sheet 0 0 4 | lay 0 1 3 | lay 0 3 6",
                "scan 0 0 0 0 2 = 2", "aboard 0 3 0 = 1", "aboard 0 6 0 = 1", "aboard 0 0 0 = 0");
        reading.says("from CELL f on:", TRIPS, "sheet 0 0 5 | lay 0 0 9 | lay 0 3 1 | lay 0 4 7",
                "scan 0 0 0 3 1 = 1", "waybill 0 1 0 = 1", "aboard 0 7 0 = 1",
                "! scan 0 0 0 1 1 = -22");
        reading.says("n.", TRIPS, "sheet 0 0 8", "scan 0 0 0 0 4 = 4", "scan 0 0 0 2 3 = 3",
                "count 2 = 7");
    }

    private static void scanRefused() {
        reading.says("BAD: t, k, lane, n;", TRIPS, "sheet 0 0 2", "! scan 2 0 0 0 1 = -1",
                "! scan -1 0 0 0 1 = -1", "! scan 0 4 0 0 1 = -1", "! scan 0 -1 0 0 1 = -1",
                "! scan 0 0 3 0 1 = -1", "! scan 0 0 -1 0 1 = -1", "! scan 0 0 0 0 33 = -1",
                "! scan 0 0 0 0 -1 = -1");
        reading.says("-10 less the FAULT: NULL,", TRIPS, "! scan 0 1 0 0 1 = -11",
                "! scan 0 1 2 -9 0 = -11");
        reading.says("CAST,", TRIPS, "sheet 0 1 2", "! scan 0 0 0 0 1 = -13",
                "! scan 0 0 2 9 1 = -13");
        reading.says("then SALE by SALE INDEX;", TRIPS, "sheet 0 0 4", "! scan 0 0 0 1 2 = -12",
                "! scan 0 0 0 4 1 = -12", "! scan 0 0 0 -1 1 = -12", "scan 0 0 0 0 2 = 2");
        reading.says("-20 and what sell() refuses;", TRIPS, "sheet 0 0 2 | lay 0 0 2",
                "! scan 0 0 0 0 1 = -21", "lay 0 0 0 | lay 0 1 9", "! scan 0 0 0 0 1 = -22",
                "lay 0 1 4 | issue 0 0 0 0", "! scan 0 0 0 0 1 = -24");
        reading.also("type 1 1 | issue 0 0 0 300 | trip 0 up | 199 x sell 0 0 0 | sheet 0 0 4",
                "! scan 0 0 0 0 2 = -23", "scan 0 0 0 0 1 = 1", "! scan 0 0 0 0 1 = -23");
        reading.says("the first met:", TRIPS, "sheet 0 0 5 | lay 0 2 9", "! scan 0 0 0 0 3 = -21",
                "lay 0 2 0", "! scan 0 0 0 0 3 = -12");
        reading.says("then none of them is.", TRIPS, "sheet 0 0 6 | lay 0 4 9",
                "! scan 0 0 0 0 3 = -21", "count 2 = 0", "pack 0 0 0 = 100", "money 0 = 0",
                "scan 0 0 0 0 2 = 2", "pack 0 0 0 = 102");
    }

    private static void waybill() {
        String sold = TRIPS + " | 3 x sell 0 0 4 | sell 0 1 4 | sell 1 0 4";
        reading.head("## Promise 12: waybill");
        reading.says("`int waybill(int t, int type, int what)`: How many of a TYPE were sold on a"
                + " TRIP (what 0),", sold, "waybill 0 0 0 = 3", "waybill 0 1 0 = 1",
                "waybill 1 0 0 = 1", "waybill 1 1 0 = 0", "undo", "waybill 1 0 0 = 0");
        reading.says("the first NUMBER (1;", sold, "waybill 0 0 1 = 100", "waybill 0 1 1 = 300",
                "waybill 1 0 1 = 200");
        reading.says("NONE),", TRIPS, "waybill 0 0 1 = -4", "sell 0 1 4", "waybill 0 0 1 = -4",
                "waybill 1 1 1 = -4");
        reading.says("the last one (2;", sold, "waybill 0 0 2 = 102", "waybill 0 1 2 = 300",
                "waybill 1 0 2 = 200");
        reading.says("NONE).", TRIPS, "waybill 0 0 2 = -4", "sell 0 1 4", "waybill 0 0 2 = -4",
                "waybill 1 1 2 = -4");
        reading.says("BAD.", sold, "! waybill 2 0 0 = -1", "! waybill -1 0 0 = -1",
                "! waybill 0 2 0 = -1", "! waybill 0 -1 0 = -1", "! waybill 0 0 3 = -1",
                "! waybill 0 0 -1 = -1");
    }

    private static void money() {
        reading.head("## Promise 13: money");
        reading.says("`int money(int t)`: What all SALES of a TRIP come to.", TRIPS, "money 0 = 0",
                "sell 0 0 4", "money 0 = 3", "sell 0 1 4", "money 0 = 8", "money 1 = 0", "close 0",
                "money 0 = 8");
        reading.says("BAD.", "! money 0 = -1", "trip 0 up", "! money -1 = -1", "! money 1 = -1");
    }

    private static void paid() {
        reading.head("## Promise 14: paid");
        reading.says("`int paid(int c, int pence)`: What a CONDUCTOR paid in (0 to 100000)",
                "paid 0 0 = 0", "paid 5 100000 = 100000", "paid 0 7 = 7", "paid 0 8 = 8");
        reading.says("less what SALES of all its closed TRIPS come to.", TRIPS,
                "sell 0 0 4 | sell 1 1 4", "paid 0 10 = 10", "close 0", "paid 0 10 = 7",
                "trip 0 down | sell 2 1 4 | close 2", "paid 0 10 = 2", "paid 0 0 = -8",
                "paid 1 10 = 10");
        reading.says("BAD -1000000.", "! paid 6 0 = -1000000", "! paid -1 0 = -1000000",
                "! paid 0 -1 = -1000000", "! paid 0 100001 = -1000000");
    }

    private static void aboard() {
        String sold = TRIPS + " | sell 0 0 4 | sell 0 0 5 | sell 1 0 6";
        reading.head("## Promise 15: aboard");
        reading.says("`int aboard(int t, int section, int what)`: ABOARD a TRIP in a SECTION:"
                + " 0 LEAST,", sold, "aboard 0 4 0 = 1", "aboard 0 5 0 = 1", "aboard 0 6 0 = 0",
                "aboard 1 5 0 = 1", "aboard 1 4 0 = 0");
        reading.says("1 MOST.", sold, "aboard 0 4 1 = 1", "aboard 0 5 1 = 2", "aboard 0 6 1 = 1",
                "aboard 0 7 1 = 0", "aboard 1 5 1 = 1", "aboard 1 4 1 = 1", "aboard 1 3 1 = 0");
        reading.says("BAD.", sold, "! aboard 2 4 0 = -1", "! aboard -1 4 0 = -1",
                "! aboard 0 9 0 = -1", "! aboard 0 -1 0 = -1", "! aboard 0 4 2 = -1",
                "! aboard 0 4 -1 = -1");
    }

    private static void riders() {
        reading.head("## Promise 16: riders");
        reading.says("`int riders(boolean up, int section, int what)`: ABOARD all TRIPS of a way"
                + " together in a SECTION likewise.", TRIPS, "trip 2 up | issue 2 0 0 5",
                "sell 0 0 4 | sell 2 0 3 | sell 2 0 4 | sell 1 0 5", "riders up 3 0 = 1",
                "riders up 4 0 = 2", "riders up 4 1 = 3", "riders up 5 0 = 0", "riders up 5 1 = 2",
                "riders down 4 0 = 1", "riders down 4 1 = 1", "riders down 3 0 = 0",
                "riders down 3 1 = 1", "riders down 5 1 = 0", "close 2", "riders up 4 1 = 3");
        reading.says("BAD.", "! riders up 9 0 = -1", "! riders down -1 0 = -1",
                "! riders up 0 2 = -1", "! riders down 0 -1 = -1", "riders up 0 0 = 0",
                "riders up 8 1 = 0");
    }

    private static void shown() {
        String sold = TRIPS + " | sell 0 0 4 = 100 | sell 1 0 4 = 200";
        reading.head("## Promise 17: shown");
        reading.says("`int shown(int t, int section, int type, int number)`: A TICKET is shown on a"
                + " TRIP in a SECTION: 0 it is good;", sold, "shown 0 4 0 100 = 0",
                "shown 0 5 0 100 = 0", "shown 1 3 0 200 = 0", "shown 1 2 0 200 = 0");
        reading.says("1 it was not sold;", sold, "shown 0 4 0 101 = 1", "shown 0 4 0 99 = 1",
                "shown 0 4 1 100 = 1", "shown 1 3 0 201 = 1");
        reading.says("2 on another TRIP;", sold, "shown 0 4 0 200 = 2", "shown 1 3 0 100 = 2",
                "close 0 | trip 0 up = 2", "shown 2 4 0 100 = 2");
        reading.says("3 at a later STAGE;", sold, "shown 0 3 0 100 = 3", "shown 0 0 0 100 = 3",
                "shown 1 4 0 200 = 3", "shown 1 8 0 200 = 3");
        reading.says("4 it is good no more.", sold, "shown 0 6 0 100 = 4", "shown 0 8 0 100 = 4",
                "shown 1 1 0 200 = 4", "shown 1 0 0 200 = 4");
        reading.says("BAD: also a NUMBER below 0.", sold, "! shown 2 4 0 100 = -1",
                "! shown -1 4 0 100 = -1", "! shown 0 9 0 100 = -1", "! shown 0 -1 0 100 = -1",
                "! shown 0 4 2 100 = -1", "! shown 0 4 -1 100 = -1", "! shown 0 4 0 -1 = -1",
                "shown 0 4 0 0 = 1");
    }

    private static void heads() {
        String sold = TRIPS + " | sell 0 0 4 | sell 0 0 5 | sell 0 0 5";
        reading.head("## Promise 18: heads");
        reading.says("`int heads(int t, int section, int n)`: How many of so many heads (0 to 1000)"
                + " in a SECTION are beyond MOST (above 0),", sold, "heads 0 5 4 = 1",
                "heads 0 5 1000 = 997", "heads 0 7 2 = 2", "heads 0 6 3 = 1");
        reading.says("or how many LEAST is beyond them (below 0);", sold, "heads 0 5 0 = -2",
                "heads 0 5 1 = -1", "heads 0 4 0 = -1");
        reading.says("else 0.", sold, "heads 0 5 2 = 0", "heads 0 5 3 = 0", "heads 0 6 0 = 0",
                "heads 0 6 2 = 0", "heads 0 0 0 = 0");
        reading.says("BAD -1000000.", sold, "! heads 2 4 0 = -1000000", "! heads -1 4 0 = -1000000",
                "! heads 0 9 0 = -1000000", "! heads 0 -1 0 = -1000000",
                "! heads 0 4 1001 = -1000000", "! heads 0 4 -1 = -1000000");
    }

    private static void gap() {
        reading.head("## Promise 19: gap");
        reading.says("`int gap(int type)`: The least NUMBER of a TYPE that was not sold,",
                "type 1 1 | issue 0 0 0 2 | trip 0 up | 2 x sell 0 0 0 | issue 0 0 5 1",
                "sell 0 0 0 = 5", "gap 0 = 2");
        reading.says("though a greater one was,",
                "type 1 1 | issue 0 0 0 2 | trip 0 up | sell 0 0 0 = 0", "issue 0 0 4 2 = 1",
                "gap 0 = -4", "sell 0 0 0 = 4", "gap 0 = 1");
        reading.says("and is in no PACK", "type 1 1 | issue 0 0 3 1 | issue 1 0 0 2 | trip 0 up",
                "sell 0 0 0 = 3", "gap 0 = 2", "issue 2 0 2 1", "gap 0 = -4", "issue 1 0 1 1",
                "gap 0 = 0");
        reading.also("type 1 1 | issue 5 0 3 1 | trip 5 up", "sell 0 0 0 = 3", "issue 0 0 0 3",
                "gap 0 = -4", "issue 0 0 1 2", "gap 0 = 0");
        reading.says("(0 is the least that can be);", "type 1 1 | issue 0 0 1 1 | trip 0 up",
                "sell 0 0 0 = 1", "gap 0 = 0", "issue 1 0 0 1", "gap 0 = -4");
        reading.says("NONE.", "type 1 1", "gap 0 = -4", "issue 0 0 0 1 | trip 0 up",
                "sell 0 0 0 = 0", "gap 0 = -4");
        reading.says("BAD.", "! gap 0 = -1", "type 1 1", "! gap -1 = -1", "! gap 1 = -1");
    }
}
