/** Promises 9 to 11, sentence by sentence: rows, cells, lanes, the faults of the machine. */
final class EdgesOfSheetsTest {
    /** Types 0 and 1, ten numbers of each from 0 and 50 on, trip 0 up. */
    private static final String ON_TRIP =
            "type 1 2 | type 2 3 | issue 0 0 0 10 | issue 0 1 50 10 | trip 0 up";
    /** A sheet 0 of ints with two sales: of type 0 at stage 3, of type 1 at stage 5. */
    private static final String TWO = ON_TRIP + " | sheet 0 2 4 | lay 0 0 0 | lay 0 1 3"
            + " | lay 0 2 1 | lay 0 3 5";

    public static void main(String[] args) {
        sheetBounds();
        sheetFaults();
        sheetRows();
        layBounds();
        layFaults();
        bytes();
        shorts();
        ints();
        scanBounds();
        scanNullAndCast();
        scanIndex();
        scanLengths();
        scanRefusals();
        scanFirstMet();
        scanNone();
        Check.finish();
    }

    private static void sheetBounds() {
        Script.holds("Promise 9: BAD: SHEETS are 0 to 3", "! sheet -1 0 1 = -1", "sheet 0 0 1 = 1",
                "sheet 3 0 1 = 1", "! sheet 4 0 1 = -1", "! sheet MIN 0 1 = -1",
                "! sheet MAX 0 1 = -1");
        Script.holds("Promise 9: BAD: lanes are 0 to 2", "! sheet 0 -1 1 = -1", "sheet 0 0 1 = 1",
                "sheet 0 2 1 = 1", "! sheet 0 3 1 = -1", "! sheet 0 MIN 1 = -1",
                "! sheet 0 MAX 1 = -1");
        Script.holds("Promise 9: BAD: also n above 64", "sheet 0 0 64 = 1", "count 6 = 64",
                "! sheet 0 0 65 = -1", "! sheet 0 0 MAX = -1", "! sheet 1 0 65 = -1",
                "count 6 = 64");
        Script.holds("Terms 1: 0 CELLS are not nothing", "count 6 = -4", "sheet 0 0 0 = 1",
                "count 6 = 0", "lay 0 0 0 = -12");
        Script.holds("Terms: there is no such SHEET: the last of 4, and one beyond",
                "sheet 3 1 1 = 1", "lay 3 0 0 = 1", "! lay 4 0 0 = -1", "trip 0 up",
                "scan 0 3 1 0 0 = 0", "! scan 0 4 1 0 0 = -1");
    }

    private static void sheetFaults() {
        Script.holds("Promise 9: -10 - 4: SIZE (below 0)", "! sheet 0 2 -1 = -14",
                "! sheet 0 2 MIN = -14", "count 6 = -4", "sheet 0 2 0 = 1", "! sheet 0 2 -1 = -14",
                "count 6 = 0");
        Script.holds("Promise 9: BAD ahead of -10 - 4", "! sheet 4 0 -1 = -1",
                "! sheet -1 0 -1 = -1", "! sheet 0 3 -1 = -1", "! sheet 0 -1 -1 = -1");
        Script.holds("Promise 9: refused, the SHEET stays: its CELLS, its lane", TWO,
                "! sheet 0 2 -1 = -14", "! sheet 0 0 65 = -1", "! sheet 0 3 1 = -1",
                "count 6 = 4", "scan 0 0 2 0 2 = 2");
    }

    private static void sheetRows() {
        Script.holds("Promise 9: a new row of CELLS 0", TWO, "sheet 0 2 4 = 1",
                "scan 0 0 2 0 2 = 2", "waybill 0 0 0 = 2", "waybill 0 1 0 = 0",
                "shown 0 0 0 1 = 0");
        Script.holds("Promise 9: all 64 CELLS of a new row are 0", ON_TRIP,
                "sheet 0 2 64 | lay 0 62 1 | lay 0 63 8 | lay 0 0 1 | lay 0 1 8", "sheet 0 2 64 = 1",
                "scan 0 0 2 62 1 = 1", "waybill 0 0 0 = 1", "shown 0 0 0 0 = 0",
                "scan 0 0 2 0 1 = 1", "waybill 0 0 0 = 2", "shown 0 0 0 1 = 0");
        Script.holds("Promise 9: a longer new row after a shorter one is of 0, too", ON_TRIP,
                "sheet 0 2 4 | lay 0 3 5 | sheet 0 2 2 | sheet 0 2 4", "scan 0 0 2 2 1 = 1",
                "shown 0 0 0 0 = 0");
        Script.holds("Promise 9: a new row of another lane", TWO, "sheet 0 0 4 = 1",
                "! scan 0 0 2 0 1 = -13", "scan 0 0 0 0 1 = 1", "sheet 0 1 4 = 1",
                "! scan 0 0 0 0 1 = -13", "scan 0 0 1 0 1 = 1");
        Script.holds("Promise 9: the other SHEETS stay", TWO, "sheet 1 0 1 | sheet 2 0 1",
                "sheet 3 0 1", "count 6 = 4", "scan 0 0 2 0 2 = 2", "! lay 1 1 0 = -12");
    }

    private static void layBounds() {
        Script.holds("Promise 10: BAD: SHEETS are 0 to 3", "sheet 0 0 1 | sheet 3 0 1",
                "! lay -1 0 1 = -1", "lay 0 0 1 = 1", "lay 3 0 1 = 1", "! lay 4 0 1 = -1",
                "! lay MIN 0 1 = -1", "! lay MAX 0 1 = -1");
        Script.holds("Promise 10: BAD ahead of NULL, of INDEX", "! lay 4 0 0 = -1",
                "! lay -1 -1 0 = -1", "sheet 3 0 1", "! lay 4 1 0 = -1");
    }

    private static void layFaults() {
        Script.holds("Promise 10: -10 less NULL: nothing", "! lay 0 0 7 = -11",
                "! lay 3 0 7 = -11", "sheet 1 0 1", "! lay 0 0 7 = -11", "! lay 2 0 7 = -11",
                "lay 1 0 7 = 1");
        Script.holds("Promise 10: NULL ahead of INDEX", "! lay 0 -1 7 = -11", "! lay 0 64 7 = -11",
                "! lay 0 MAX 7 = -11");
        Script.holds("Promise 10: -10 less INDEX: ahead of the first CELL, behind the last one",
                "sheet 0 1 5", "! lay 0 -1 7 = -12", "lay 0 0 7 = 1", "lay 0 4 7 = 1",
                "! lay 0 5 7 = -12", "! lay 0 MIN 7 = -12", "! lay 0 MAX 7 = -12");
        Script.holds("Promise 10: INDEX: of 64 CELLS", "sheet 0 2 64", "lay 0 63 1 = 1",
                "! lay 0 64 1 = -12");
        Script.holds("Promise 10: INDEX: of 1 CELL, of 0 CELLS", "sheet 0 0 1", "lay 0 0 1 = 1",
                "! lay 0 1 1 = -12", "sheet 0 0 0", "! lay 0 0 1 = -12", "! lay 0 -1 1 = -12");
        Script.holds("Promise 10: CELL i and no other; on that SHEET and no other", TWO,
                "sheet 1 2 4 | lay 1 0 1", "lay 0 1 4 = 1", "scan 0 0 2 0 2 = 2",
                "shown 0 3 0 0 = 3", "shown 0 4 0 0 = 0", "shown 0 5 1 50 = 0",
                "waybill 0 1 0 = 1");
    }

    /** A sheet whose stage cell has this lane and value; the answer of its sale. */
    private static String stageLaid(int lane, int v, int answer) {
        return "sheet 0 " + lane + " 2 | lay 0 1 " + v + " = 1 | scan 0 0 " + lane + " 0 1 = "
                + answer;
    }

    private static void bytes() {
        Script.holds("Promise 10: its lowest bits: a BYTE: 256 is 0, 255 is -1", ON_TRIP,
                stageLaid(0, 255, -21), stageLaid(0, 256, 1), "shown 0 0 0 0 = 0",
                stageLaid(0, 257, 1), "shown 0 1 0 1 = 0", "shown 0 0 0 1 = 3",
                stageLaid(0, 264, 1), "shown 0 8 0 2 = 0", stageLaid(0, 265, -22),
                stageLaid(0, 266, -21));
        Script.holds("Promise 10: its lowest bits: a BYTE: -256 is 0, -1 and -257 are -1",
                ON_TRIP, stageLaid(0, -1, -21), stageLaid(0, -257, -21), stageLaid(0, -256, 1),
                "shown 0 0 0 0 = 0", stageLaid(0, -252, 1), "shown 0 4 0 1 = 0",
                "shown 0 3 0 1 = 3");
        Script.holds("Promise 10: its lowest bits: a BYTE: 127, 128, -128, -129", ON_TRIP,
                stageLaid(0, 127, -21), stageLaid(0, 128, -21), stageLaid(0, -128, -21),
                stageLaid(0, -129, -21));
        Script.holds("Promise 10: its lowest bits: a BYTE of higher bits alone", ON_TRIP,
                stageLaid(0, 65536, 1), stageLaid(0, 1 << 30, 1), stageLaid(0, 0x7fffff00, 1),
                stageLaid(0, Integer.MIN_VALUE, 1), stageLaid(0, Integer.MAX_VALUE, -21),
                "waybill 0 0 0 = 4", "shown 0 0 0 3 = 0");
        Script.holds("Promise 10: its lowest bits: a BYTE that is a TYPE", ON_TRIP,
                "sheet 0 0 2 | lay 0 0 257 | scan 0 0 0 0 1 = 1", "waybill 0 1 0 = 1",
                "lay 0 0 -256 | scan 0 0 0 0 1 = 1", "waybill 0 0 0 = 1",
                "lay 0 0 258", "! scan 0 0 0 0 1 = -21", "lay 0 0 255", "! scan 0 0 0 0 1 = -21");
    }

    private static void shorts() {
        Script.holds("Promise 10: its lowest bits: a SHORT: 65536 is 0, 65535 is -1", ON_TRIP,
                stageLaid(1, 65535, -21), stageLaid(1, 65536, 1), "shown 0 0 0 0 = 0",
                stageLaid(1, 65538, 1), "shown 0 2 0 1 = 0", "shown 0 1 0 1 = 3",
                stageLaid(1, 65545, -22), stageLaid(1, 65546, -21));
        Script.holds("Promise 10: its lowest bits: a SHORT: -65536 is 0, -1 and -65537 are -1",
                ON_TRIP, stageLaid(1, -1, -21), stageLaid(1, -65537, -21),
                stageLaid(1, -65536, 1), "shown 0 0 0 0 = 0", stageLaid(1, -65533, 1),
                "shown 0 3 0 1 = 0", "shown 0 2 0 1 = 3");
        Script.holds("Promise 10: its lowest bits: a SHORT: 32767, 32768, -32768, -32769", ON_TRIP,
                stageLaid(1, 32767, -21), stageLaid(1, 32768, -21), stageLaid(1, -32768, -21),
                stageLaid(1, -32769, -21));
        Script.holds("Promise 10: its lowest bits: a SHORT keeps what a BYTE does not", ON_TRIP,
                stageLaid(1, 256, -21), stageLaid(1, 257, -21), stageLaid(1, -256, -21),
                stageLaid(1, 255, -21));
        Script.holds("Promise 10: its lowest bits: a SHORT of higher bits alone", ON_TRIP,
                stageLaid(1, 1 << 30, 1), stageLaid(1, 0x7fff0000, 1),
                stageLaid(1, Integer.MIN_VALUE, 1), stageLaid(1, Integer.MAX_VALUE, -21),
                "waybill 0 0 0 = 3", "shown 0 0 0 2 = 0");
    }

    private static void ints() {
        Script.holds("Promise 10: an INT keeps all bits", ON_TRIP, stageLaid(2, 65536, -21),
                stageLaid(2, 256, -21), stageLaid(2, 65537, -21), stageLaid(2, 1 << 30, -21),
                stageLaid(2, Integer.MIN_VALUE, -21), stageLaid(2, Integer.MAX_VALUE, -21),
                stageLaid(2, -1, -21), stageLaid(2, -65536, -21), stageLaid(2, 0, 1),
                stageLaid(2, 8, 1), "shown 0 8 0 1 = 0", "count 2 = 2");
    }

    private static void scanBounds() {
        Script.holds("Promise 11: BAD: no such TRIP", "sheet 0 2 4", "! scan 0 0 2 0 1 = -1",
                "type 1 1 | issue 0 0 0 5 | issue 1 0 5 5 | trip 0 up | trip 1 up",
                "! scan -1 0 2 0 1 = -1", "scan 0 0 2 0 1 = 1", "scan 1 0 2 0 1 = 1",
                "! scan 2 0 2 0 1 = -1", "! scan MIN 0 2 0 1 = -1", "! scan MAX 0 2 0 1 = -1");
        Script.holds("Promise 11: BAD: SHEETS are 0 to 3", TWO, "sheet 3 2 2",
                "! scan 0 -1 2 0 1 = -1", "scan 0 3 2 0 1 = 1", "scan 0 0 2 0 1 = 1",
                "! scan 0 4 2 0 1 = -1", "! scan 0 MIN 2 0 1 = -1", "! scan 0 MAX 2 0 1 = -1");
        Script.holds("Promise 11: BAD: lanes are 0 to 2", ON_TRIP, "sheet 0 0 2 | sheet 1 2 2",
                "! scan 0 0 -1 0 1 = -1", "scan 0 0 0 0 1 = 1", "scan 0 1 2 0 1 = 1",
                "! scan 0 1 3 0 1 = -1", "! scan 0 0 MIN 0 1 = -1", "! scan 0 0 MAX 0 1 = -1");
        Script.holds("Promise 11: n is 0 to 32", "type 1 1 | issue 0 0 0 50 | trip 0 up",
                "sheet 0 2 64", "! scan 0 0 2 0 -1 = -1", "! scan 0 0 2 0 0 = 0",
                "scan 0 0 2 0 32 = 32", "count 2 = 32", "! scan 0 0 2 0 33 = -1",
                "! scan 0 0 2 0 MIN = -1", "! scan 0 0 2 0 MAX = -1");
        Script.holds("Promise 11: BAD ahead of NULL, of CAST, of INDEX", TWO,
                "! scan 1 1 2 0 1 = -1", "! scan 0 1 3 0 1 = -1", "! scan 0 1 2 0 33 = -1",
                "! scan 1 0 0 0 1 = -1", "! scan 0 0 0 0 -1 = -1", "! scan 1 0 2 9 1 = -1",
                "! scan 0 0 2 9 33 = -1");
    }

    private static void scanNullAndCast() {
        Script.holds("Promise 11: -10 less NULL: nothing, also for 0 SALES", TWO,
                "! scan 0 1 0 0 1 = -11", "! scan 0 1 1 0 1 = -11", "! scan 0 3 2 0 1 = -11",
                "! scan 0 3 2 0 0 = -11");
        Script.holds("Promise 11: NULL ahead of CAST, of INDEX, of a closed TRIP", TWO,
                "! scan 0 1 1 -1 1 = -11", "close 0", "! scan 0 1 1 0 1 = -11");
        Script.holds("Promise 11: -10 less CAST: each lane taken as each other one",
                ON_TRIP + " | sheet 0 0 2 | sheet 1 1 2 | sheet 2 2 2", "! scan 0 0 1 0 1 = -13",
                "! scan 0 0 2 0 1 = -13", "! scan 0 1 0 0 1 = -13", "! scan 0 1 2 0 1 = -13",
                "! scan 0 2 0 0 1 = -13", "! scan 0 2 1 0 1 = -13", "scan 0 0 0 0 1 = 1",
                "scan 0 1 1 0 1 = 1", "scan 0 2 2 0 1 = 1");
        Script.holds("Promise 11: CAST also of 0 CELLS, for 0 SALES", ON_TRIP, "sheet 0 1 0",
                "! scan 0 0 0 0 0 = -13", "! scan 0 0 2 0 1 = -13", "! scan 0 0 1 0 0 = 0");
        Script.holds("Promise 11: CAST ahead of INDEX, of a closed TRIP", TWO,
                "! scan 0 0 1 -1 1 = -13", "! scan 0 0 1 4 1 = -13", "close 0",
                "! scan 0 0 1 0 1 = -13");
    }

    private static void scanIndex() {
        Script.holds("Promise 11: -10 less INDEX: from ahead of the first CELL", TWO,
                "! scan 0 0 2 -1 1 = -12", "! scan 0 0 2 -2 1 = -12", "! scan 0 0 2 -2 2 = -12",
                "! scan 0 0 2 MIN 1 = -12", "! scan 0 0 2 MIN 32 = -12", "scan 0 0 2 0 1 = 1");
        Script.holds("Promise 11: INDEX: the TYPE's CELL is the last one, is none", TWO,
                "! scan 0 0 2 3 1 = -12", "! scan 0 0 2 4 1 = -12", "! scan 0 0 2 5 1 = -12",
                "! scan 0 0 2 MAX 1 = -12", "! scan 0 0 2 MAX 32 = -12",
                "! scan 0 0 2 2147483646 2 = -12", "scan 0 0 2 2 1 = 1");
        Script.holds("Promise 11: SALE by SALE INDEX: the second one's CELLS", TWO,
                "! scan 0 0 2 1 2 = -21", "lay 0 1 0 | lay 0 2 5", "! scan 0 0 2 1 2 = -12",
                "! scan 0 0 2 2 2 = -21", "lay 0 2 1", "! scan 0 0 2 2 2 = -12");
        Script.holds("Promise 11: 0 SALES need no CELL, wherever from", TWO, "! scan 0 0 2 -1 0 = 0",
                "! scan 0 0 2 4 0 = 0", "! scan 0 0 2 MIN 0 = 0", "! scan 0 0 2 MAX 0 = 0",
                "sheet 0 2 0", "! scan 0 0 2 0 0 = 0", "! scan 0 0 2 0 1 = -12");
        Script.holds("Promise 11: INDEX: one CELL alone", ON_TRIP, "sheet 0 2 1",
                "! scan 0 0 2 0 1 = -12", "! scan 0 0 2 -1 1 = -12", "sheet 0 2 2",
                "scan 0 0 2 0 1 = 1");
        Script.holds("Promise 11: INDEX: 32 SALES need 64 CELLS",
                "type 1 1 | issue 0 0 0 99 | trip 0 up", "sheet 0 2 63", "! scan 0 0 2 0 32 = -12",
                "scan 0 0 2 0 31 = 31", "sheet 0 2 64", "! scan 0 0 2 1 32 = -12",
                "scan 0 0 2 0 32 = 32");
    }

    private static void scanLengths() {
        Script.holds("Promise 11: of each its TYPE, its STAGE, from CELL f on",
                ON_TRIP + " | sheet 0 2 5 | lay 0 0 9 | lay 0 1 1 | lay 0 2 3 | lay 0 3 0"
                + " | lay 0 4 4", "scan 0 0 2 1 2 = 2", "waybill 0 1 1 = 50", "waybill 0 0 1 = 0",
                "shown 0 2 1 50 = 3", "shown 0 3 1 50 = 0", "shown 0 3 0 0 = 3",
                "shown 0 4 0 0 = 0");
        Script.holds("Promise 11: n SALES and no more", TWO, "scan 0 0 2 0 1 = 1", "count 2 = 1",
                "scan 0 0 2 2 1 = 1", "count 2 = 2");
        Script.holds("Promise 11: the SALES come in their order, the latest is undone first", TWO,
                "scan 0 0 2 0 2 = 2", "undo = 1", "waybill 0 0 0 = 1", "waybill 0 1 0 = 0");
        Script.alike("Promise 11: n SALES are as if sold one by one", TWO + " | scan 0 0 2 0 2",
                TWO + " | sell 0 0 3 | sell 0 1 5");
    }

    private static void scanRefusals() {
        Script.holds("Promise 11: -20 and BAD: no such TYPE, no such STAGE", TWO, "lay 0 2 2",
                "! scan 0 0 2 0 2 = -21", "lay 0 2 -1", "! scan 0 0 2 0 2 = -21", "lay 0 2 1",
                "lay 0 3 10", "! scan 0 0 2 0 2 = -21", "lay 0 3 -1", "! scan 0 0 2 0 2 = -21",
                "lay 0 3 8", "scan 0 0 2 0 2 = 2");
        Script.holds("Promise 11: -20 and STATE: the TRIP is closed", TWO, "close 0",
                "! scan 0 0 2 0 1 = -22", "! scan 0 0 2 0 0 = 0");
        Script.holds("Promise 11: -20 and STATE: behind the latest one, of the same SHEET too",
                TWO, "lay 0 3 2", "! scan 0 0 2 0 2 = -22", "lay 0 3 3", "scan 0 0 2 0 2 = 2",
                "lay 0 1 2", "! scan 0 0 2 0 1 = -22");
        Script.holds("Promise 11: -20 and STATE: the TRIP's last STAGE", TWO, "lay 0 3 9",
                "! scan 0 0 2 0 2 = -22", "close 0", "trip 0 down", "lay 0 3 0",
                "! scan 1 0 2 0 2 = -22", "lay 0 3 1", "scan 1 0 2 0 2 = 2");
        Script.holds("Promise 11: -20 and FULL: the last that has room, one more",
                "type 1 1 | issue 0 0 0 300 | trip 0 up | 198 x sell 0 0 0", "sheet 0 2 6",
                "! scan 0 0 2 0 3 = -23", "scan 0 0 2 0 2 = 2", "! scan 0 0 2 0 1 = -23",
                "! scan 0 0 2 0 0 = 0");
        Script.holds("Promise 11: -20 and NONE: the last of the PACK, one more",
                "type 1 1 | issue 0 0 5 2 | trip 0 up", "sheet 0 2 6", "! scan 0 0 2 0 3 = -24",
                "pack 0 0 0 = 5", "pack 0 0 1 = 2", "scan 0 0 2 0 2 = 2",
                "! scan 0 0 2 0 1 = -24", "! scan 0 0 2 0 0 = 0");
    }

    private static void scanFirstMet() {
        Script.holds("Promise 11: the first met: a SALE refused ahead of a later INDEX", TWO,
                "lay 0 0 2", "! scan 0 0 2 0 3 = -21", "lay 0 0 0 | lay 0 1 9",
                "! scan 0 0 2 0 3 = -22", "lay 0 1 3", "! scan 0 0 2 0 3 = -12");
        Script.holds("Promise 11: the first met: INDEX of a SALE ahead of what sell() refuses",
                TWO, "lay 0 3 9", "! scan 0 0 2 3 1 = -12", "close 0", "! scan 0 0 2 3 1 = -12",
                "! scan 0 0 2 4 1 = -12");
        Script.holds("Promise 11: the first met: of two SALES refused the earlier one", TWO,
                "lay 0 0 7 | lay 0 3 9", "! scan 0 0 2 0 2 = -21", "lay 0 0 0 | lay 0 1 9",
                "lay 0 2 7", "! scan 0 0 2 0 2 = -22");
        Script.holds("Promise 11: what sell() refuses is its first that fits", TWO,
                "issue 0 0 0 0", "close 0", "lay 0 1 10", "! scan 0 0 2 0 1 = -21", "lay 0 1 3",
                "! scan 0 0 2 0 1 = -22", "trip 0 up", "! scan 1 0 2 0 1 = -24");
    }

    private static void scanNone() {
        Script.holds("Promise 11: none of them is: after 31 good ones",
                "type 1 1 | issue 0 0 0 99 | trip 0 up | sell 0 0 0", "sheet 0 2 64 | lay 0 63 9",
                "! scan 0 0 2 0 32 = -22", "count 2 = 1", "pack 0 0 0 = 1", "pack 0 0 1 = 98",
                "money 0 = 1", "scan 0 0 2 0 31 = 31");
        Script.holds("Promise 11: none of them is: of several TYPES", TWO,
                "sell 0 1 0 = 50", "! scan 0 0 2 0 3 = -12", "pack 0 0 0 = 0", "pack 0 1 0 = 51",
                "undo = 0", "pack 0 1 0 = 50");
        Script.holds("Promise 11: none of them is: their STAGES are not the latest", TWO,
                "! scan 0 0 2 0 3 = -12", "sell 0 0 0 = 0", "sell 0 0 3 = 1");
        Script.holds("Promise 11: NUMBER 0 sold is not refused", TWO, "scan 0 0 2 0 1 = 1",
                "waybill 0 0 1 = 0", "count 2 = 1");
    }
}
