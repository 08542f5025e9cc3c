/** Promises 9 to 11: sheets of sales, and the faults that the machine finds. */
final class SheetsTest {
    private static final int LEAST = Integer.MIN_VALUE, MOST = Integer.MAX_VALUE;

    public static void main(String[] args) {
        sheet();
        lay();
        lowestBits();
        scan();
        scanNumberNought();
        scanFaults();
        scanRefusals();
        scanFull();
        Check.finish();
    }

    private static void sheet() {
        TramPence x = new TramPence();
        int[][] bad = {{-1, 0, 0}, {4, 0, 0}, {0, -1, 0}, {0, 3, 0}, {0, 0, 65}, {4, 0, -1},
            {0, 3, -1}, {0, 0, MOST}, {LEAST, LEAST, LEAST}};
        for (int[] b : bad) {
            Check.due("bad sheet", x.sheet(b[0], b[1], b[2]), -1);
        }
        Check.due("below 0", x.sheet(0, 2, -1), -14);
        Check.due("far below 0", x.sheet(0, 2, LEAST), -14);
        Check.due("still nothing", x.count(6), -4);
        Check.due("no cells", x.sheet(0, 2, 0), 1);
        Check.due("no cells", x.count(6), 0);
        Check.due("64 cells", x.sheet(0, 1, 64), 1);
        Check.due("64 cells", x.count(6), 64);
        Check.due("refused", x.sheet(0, 0, -1), -14);
        Check.due("still 64", x.count(6), 64);
        Check.due("sheet 3", x.sheet(3, 0, 5), 1);
        Check.due("sheet 0 as before", x.count(6), 64);
    }

    private static void lay() {
        TramPence x = new TramPence();
        x.sheet(2, 0, 2);
        for (int k : new int[] {-1, 4, LEAST, MOST}) {
            Check.due("lay(" + k + ")", x.lay(k, 0, 0), -1);
        }
        Check.due("nothing", x.lay(0, 0, 0), -11);
        Check.due("nothing, no index", x.lay(0, -1, 0), -11);
        for (int i : new int[] {-1, 2, LEAST, MOST}) {
            Check.due("lay(2, " + i + ")", x.lay(2, i, 0), -12);
        }
        Check.due("cell 0", x.lay(2, 0, MOST), 1);
        Check.due("cell 1", x.lay(2, 1, LEAST), 1);
        x.sheet(2, 0, 0);
        Check.due("no cells", x.lay(2, 0, 0), -12);
    }

    /** Sells a ticket by a sheet of this lane whose stage was laid as v. */
    private static int stageLaid(int lane, int v) {
        TramPence x = new TramPence();
        x.type(1, 1);
        x.issue(0, 0, 0, 10);
        x.trip(0, true);
        x.sheet(0, lane, 2);
        x.lay(0, 1, v);
        int answer = x.scan(0, 0, lane, 0, 1);
        for (int stage = 0; stage < 9; stage++) {
            if (x.shown(0, stage, 0, 0) == 0) {
                return 100 + stage;
            }
        }
        return answer;
    }

    private static void lowestBits() {
        Check.due("byte 256 + 3", stageLaid(0, 259), 103);
        Check.due("byte -253", stageLaid(0, -253), 103);
        Check.due("byte 65536 + 5", stageLaid(0, 65541), 105);
        Check.due("byte 128", stageLaid(0, 128), -21);
        Check.due("byte -1", stageLaid(0, -1), -21);
        Check.due("short 259", stageLaid(1, 259), -21);
        Check.due("short 65536 + 5", stageLaid(1, 65541), 105);
        Check.due("short -65535", stageLaid(1, -65535), 101);
        Check.due("int 65541", stageLaid(2, 65541), -21);
        Check.due("int 7", stageLaid(2, 7), 107);
    }

    /** Types 0 and 1, ten numbers of each, an open trip 0 up, a sheet 0 of shorts. */
    private static TramPence withSheet(int... cells) {
        TramPence x = new TramPence();
        x.type(1, 2);
        x.type(2, 3);
        x.issue(0, 0, 10, 10);
        x.issue(0, 1, 50, 10);
        x.trip(0, true);
        x.sheet(0, 1, cells.length);
        for (int i = 0; i < cells.length; i++) {
            x.lay(0, i, cells[i]);
        }
        return x;
    }

    private static void scan() {
        TramPence x = withSheet(7, 1, 2, 0, 2, 1, 4);
        int[][] bad = {{-1, 0, 1, 1, 1}, {1, 0, 1, 1, 1}, {0, -1, 1, 1, 1}, {0, 4, 1, 1, 1},
            {0, 0, -1, 1, 1}, {0, 0, 3, 1, 1}, {0, 0, 1, 1, -1}, {0, 0, 1, 1, 33},
            {MOST, LEAST, MOST, LEAST, MOST}};
        for (int[] b : bad) {
            Check.due("bad scan", x.scan(b[0], b[1], b[2], b[3], b[4]), -1);
        }
        Check.due("none", x.scan(0, 0, 1, 1, 0), 0);
        Check.due("three", x.scan(0, 0, 1, 1, 3), 3);
        Check.due("sales", x.count(2), 3);
        Check.due("of type 0", x.waybill(0, 0, 1), 10);
        Check.due("of type 1", x.waybill(0, 1, 0), 2);
        Check.due("the last one", x.waybill(0, 1, 2), 51);
        Check.due("its stage", x.shown(0, 4, 1, 51), 0);
        Check.due("ahead of its stage", x.shown(0, 3, 1, 51), 3);
        x.sheet(0, 1, 7);
        Check.due("a new row is of 0: stage 0 lies behind", x.scan(0, 0, 1, 0, 1), -22);
        x.sheet(1, 2, 64);
        for (int i = 0; i < 64; i++) {
            x.lay(1, i, i % 2 == 0 ? 0 : 5);
        }
        x.issue(0, 0, 100, 40);
        Check.due("32 sales", x.scan(0, 1, 2, 0, 32), 32);
        Check.due("in order, undone one by one", x.undo(), 34);
        Check.due("next", x.pack(0, 0, 0), 131);
    }

    /** An answer of 0 is a number that was sold, and no refusal. */
    private static void scanNumberNought() {
        TramPence x = withSheet(0, 4, 0, 4);
        x.issue(0, 0, 0, 2);
        Check.due("numbers 0 and 1", x.scan(0, 0, 1, 0, 2), 2);
        Check.due("both are sold", x.count(2), 2);
        x.issue(0, 0, 40, 2);
        x.sheet(3, 0, 4);
        x.lay(3, 1, 4);
        x.lay(3, 3, 4);
        Check.due("of sheet 3", x.scan(0, 3, 0, 0, 2), 2);
        Check.due("four are sold", x.waybill(0, 0, 0), 4);
    }

    private static void scanFaults() {
        TramPence x = withSheet(0, 1, 0, 1);
        Check.due("nothing", x.scan(0, 1, 1, 0, 1), -11);
        Check.due("nothing, read of none", x.scan(0, 1, 0, 0, 0), -11);
        Check.due("another lane", x.scan(0, 0, 0, 0, 1), -13);
        Check.due("another lane, no index", x.scan(0, 0, 2, -1, 1), -13);
        Check.due("another lane, read of none", x.scan(0, 0, 2, 0, 0), -13);
        Check.due("none from nowhere", x.scan(0, 0, 1, LEAST, 0), 0);
        for (int f : new int[] {-1, 3, 4, LEAST, MOST, MOST - 1, -2}) {
            Check.due("scan from " + f, x.scan(0, 0, 1, f, 32), -12);
        }
        Check.due("the third one is not there", x.scan(0, 0, 1, 0, 3), -12);
        Check.due("so none of them is", x.count(2), 0);
        Check.due("so none of them is", x.pack(0, 0, 0), 10);
        Check.due("so none of them is", x.pack(0, 0, 1), 10);
        Check.due("the second one's stage is not there", x.scan(0, 0, 1, 1, 2), -12);
        Check.due("so none of them is", x.count(2), 0);
        x.lay(0, 3, 9);
        Check.due("index ahead of a bad type", x.scan(0, 0, 1, 3, 1), -12);
        Check.due("two are", x.scan(0, 0, 1, 0, 1), 1);
        x.sheet(0, 1, 0);
        Check.due("no cells", x.scan(0, 0, 1, 0, 1), -12);
        Check.due("no cells, read of none", x.scan(0, 0, 1, 0, 0), 0);
    }

    private static void scanRefusals() {
        TramPence x = withSheet(0, 3, 1, 3, 0, 2, 2, 4);
        Check.due("the third one lies behind", x.scan(0, 0, 1, 0, 4), -22);
        Check.due("none of type 0", x.pack(0, 0, 0), 10);
        Check.due("none of type 1", x.pack(0, 1, 0), 50);
        Check.due("none at all", x.count(2), 0);
        Check.due("stage 0 is free still", x.sell(0, 0, 0), 10);
        Check.due("no such type", x.scan(0, 0, 1, 6, 1), -21);
        x.issue(0, 1, 90, 0);
        Check.due("an empty pack", x.scan(0, 0, 1, 0, 2), -24);
        Check.due("the one ahead of it is not", x.pack(0, 0, 0), 11);
        x.close(0);
        Check.due("closed", x.scan(0, 0, 1, 0, 1), -22);
        Check.due("closed, read of none", x.scan(0, 0, 1, 0, 0), 0);
        Check.due("sales", x.count(2), 1);
    }

    private static void scanFull() {
        TramPence x = withSheet(0, 8, 0, 8, 0, 8);
        x.issue(0, 0, 1000, 300);
        for (int i = 0; i < 198; i++) {
            x.sell(0, 0, 8);
        }
        Check.due("the third one is too many", x.scan(0, 0, 1, 0, 3), -23);
        Check.due("none of them is", x.count(2), 198);
        Check.due("none of them is", x.pack(0, 0, 0), 1198);
        Check.due("two are", x.scan(0, 0, 1, 0, 2), 2);
        Check.due("full", x.scan(0, 0, 1, 0, 1), -23);
    }
}
