/** Promises 1 to 8: a new object, types, packs, trips, sales, the latest sales undone. */
final class TicketsTest {
    private static final int LEAST = Integer.MIN_VALUE, MOST = Integer.MAX_VALUE;

    public static void main(String[] args) {
        newObject();
        type();
        issue();
        issueAmongConductors();
        pack();
        trip();
        close();
        sell();
        sellDown();
        sellFull();
        undo();
        undoAfterIssue();
        Check.finish();
    }

    /** A conductor 0 with 100 numbers from 0 on of a type 0, on an open trip 0 up. */
    private static TramPence onTrip() {
        TramPence x = new TramPence();
        x.type(3, 2);
        x.issue(0, 0, 0, 100);
        x.trip(0, true);
        return x;
    }

    private static void newObject() {
        TramPence x = new TramPence();
        int[] counts = {0, 0, 0, 0, 0, 0, -4, 0};
        for (int what = 0; what < 8; what++) {
            Check.due("new count(" + what + ")", x.count(what), counts[what]);
        }
        Check.due("new undo()", x.undo(), -4);
        Check.due("new fault()", x.fault(), 0);
        Check.due("new fare(1, 0)", x.fare(1, 0), -4);
        Check.due("new change(0, 0)", x.change(0, 0), 0);
        Check.due("new crews(0)", x.crews(0), 0);
        Check.due("new rest(30)", x.rest(30), 30);
        for (int k = 0; k < 4; k++) {
            Check.due("new lay(" + k + ", 0, 0)", x.lay(k, 0, 0), -11);
        }
        x.type(1, 1);
        for (int c = 0; c < 6; c++) {
            Check.due("new pack(" + c + ", 0, 0)", x.pack(c, 0, 0), -4);
            Check.due("new pack(" + c + ", 0, 1)", x.pack(c, 0, 1), 0);
        }
    }

    private static void type() {
        TramPence x = new TramPence();
        int[][] bad = {{0, 1}, {61, 1}, {1, 0}, {1, 10}, {-1, 1}, {1, -1}, {LEAST, 1}, {1, MOST}};
        for (int[] b : bad) {
            Check.due("type(" + b[0] + ", " + b[1] + ")", x.type(b[0], b[1]), -1);
        }
        Check.due("types", x.count(0), 0);
        Check.due("type(1, 1)", x.type(1, 1), 0);
        Check.due("type(60, 9)", x.type(60, 9), 1);
        Check.due("type(1, 1) again", x.type(1, 1), 2);
        Check.due("type(2, 3)", x.type(2, 3), 3);
        Check.due("type(2, 4)", x.type(2, 4), 4);
        Check.due("type beyond", x.type(2, 4), -3);
        Check.due("type beyond, bad", x.type(0, 4), -1);
        Check.due("types", x.count(0), 5);
    }

    private static void issue() {
        TramPence x = new TramPence();
        Check.due("issue without a type", x.issue(0, 0, 0, 1), -1);
        x.type(1, 1);
        int[][] bad = {{-1, 0, 0, 1}, {6, 0, 0, 1}, {0, -1, 0, 1}, {0, 1, 0, 1}, {0, 0, -1, 1},
            {0, 0, 100001, 1}, {0, 0, 0, -1}, {0, 0, 0, 1001}, {0, 0, MOST, MOST},
            {LEAST, LEAST, LEAST, LEAST}};
        for (int[] b : bad) {
            Check.due("bad issue", x.issue(b[0], b[1], b[2], b[3]), -1);
        }
        Check.due("issue of 1000", x.issue(5, 0, 100000, 1000), 0);
        Check.due("1000 there", x.pack(5, 0, 1), 1000);
        Check.due("issue over its own", x.issue(5, 0, 100000, 3), 1000);
        Check.due("issue of none", x.issue(5, 0, 100000, 0), 3);
        Check.due("none there", x.pack(5, 0, 1), 0);
        Check.due("issue after none", x.issue(5, 0, 4, 4), 0);
        x.trip(5, true);
        x.sell(0, 0, 0);
        Check.due("a sold number", x.issue(5, 0, 4, 1), -2);
        Check.due("a sold number at the end", x.issue(5, 0, 0, 5), -2);
        Check.due("still 3", x.pack(5, 0, 1), 3);
        Check.due("still from 5", x.pack(5, 0, 0), 5);
        Check.due("none at a sold number", x.issue(5, 0, 4, 0), 3);
        Check.due("up to a sold number", x.issue(5, 0, 0, 4), 0);
        Check.due("from behind a sold number", x.issue(5, 0, 5, 4), 4);
        x.type(1, 1);
        Check.due("like numbers of another type", x.issue(5, 1, 4, 1), 0);
    }

    private static void issueAmongConductors() {
        TramPence x = new TramPence();
        x.type(1, 1);
        x.type(1, 1);
        x.issue(0, 0, 10, 10);
        Check.due("with another's last", x.issue(1, 0, 19, 1), -2);
        Check.due("with another's first", x.issue(1, 0, 0, 11), -2);
        Check.due("around another's", x.issue(1, 0, 0, 100), -2);
        Check.due("within another's", x.issue(1, 0, 12, 2), -2);
        Check.due("none within another's", x.issue(1, 0, 12, 0), 0);
        Check.due("ahead of another's", x.issue(1, 0, 0, 10), 0);
        Check.due("behind another's", x.issue(1, 0, 20, 10), 10);
        Check.due("another type", x.issue(1, 1, 10, 10), 0);
        x.issue(0, 0, 500, 1);
        Check.due("no more another's", x.issue(1, 0, 10, 10), 10);
        x.issue(2, 0, 15, 0);
        Check.due("another's empty one within", x.issue(1, 0, 10, 11), 10);
    }

    private static void pack() {
        TramPence x = onTrip();
        int[][] bad = {{-1, 0, 0}, {6, 0, 0}, {0, -1, 0}, {0, 1, 0}, {0, 0, -1}, {0, 0, 2},
            {MOST, MOST, MOST}};
        for (int[] b : bad) {
            Check.due("bad pack", x.pack(b[0], b[1], b[2]), -1);
        }
        Check.due("next", x.pack(0, 0, 0), 0);
        Check.due("how many", x.pack(0, 0, 1), 100);
        x.sell(0, 0, 0);
        Check.due("next", x.pack(0, 0, 0), 1);
        Check.due("how many", x.pack(0, 0, 1), 99);
        x.issue(0, 0, 50, 1);
        x.sell(0, 0, 0);
        Check.due("sold out", x.pack(0, 0, 0), -4);
        Check.due("sold out", x.pack(0, 0, 1), 0);
        Check.due("another's", x.pack(1, 0, 0), -4);
    }

    private static void trip() {
        TramPence x = new TramPence();
        for (int c : new int[] {-1, 6, LEAST, MOST}) {
            Check.due("trip(" + c + ")", x.trip(c, true), -1);
        }
        Check.due("trip(5)", x.trip(5, false), 0);
        Check.due("trip(5) again", x.trip(5, true), -2);
        Check.due("trip(0)", x.trip(0, true), 1);
        x.close(0);
        Check.due("trip(5) once more", x.trip(5, true), 2);
        for (int t = 3; t < 16; t++) {
            x.close(t - 1);
            Check.due("trip(5)", x.trip(5, true), t);
        }
        Check.due("open and full", x.trip(5, true), -2);
        Check.due("full", x.trip(1, true), -3);
        Check.due("open ones", x.count(3), 2);
        Check.due("bad and full", x.trip(6, true), -1);
        Check.due("trips", x.count(1), 16);
    }

    private static void close() {
        TramPence x = onTrip();
        for (int t : new int[] {-1, 1, LEAST, MOST}) {
            Check.due("close(" + t + ")", x.close(t), -1);
        }
        x.type(5, 1);
        x.issue(0, 1, 0, 10);
        x.sell(0, 0, 0);
        x.sell(0, 1, 0);
        x.sell(0, 0, 4);
        x.issue(1, 1, 20, 1);
        x.trip(1, false);
        x.sell(1, 1, 9);
        Check.due("close(0)", x.close(0), 11);
        Check.due("close(0) again", x.close(0), -2);
        Check.due("close(1)", x.close(1), 5);
        Check.due("open ones", x.count(3), 0);
    }

    private static void sell() {
        TramPence x = onTrip();
        int[][] bad = {{-1, 0, 0}, {1, 0, 0}, {0, -1, 0}, {0, 1, 0}, {0, 0, -1}, {0, 0, 10},
            {LEAST, MOST, LEAST}};
        for (int[] b : bad) {
            Check.due("bad sell", x.sell(b[0], b[1], b[2]), -1);
        }
        Check.due("at the last stage", x.sell(0, 0, 9), -2);
        Check.due("at stage 3", x.sell(0, 0, 3), 0);
        Check.due("behind the only one", x.sell(0, 0, 2), -2);
        Check.due("at stage 3 again", x.sell(0, 0, 3), 1);
        Check.due("behind", x.sell(0, 0, 2), -2);
        Check.due("far behind", x.sell(0, 0, 0), -2);
        Check.due("at stage 8", x.sell(0, 0, 8), 2);
        x.undo();
        Check.due("at stage 4, 8 undone", x.sell(0, 0, 4), 2);
        x.type(1, 1);
        Check.due("empty pack", x.sell(0, 1, 4), -4);
        Check.due("empty pack, behind", x.sell(0, 1, 3), -2);
        Check.due("sales", x.count(2), 3);
        x.trip(1, true);
        Check.due("another's trip, empty", x.sell(1, 0, 0), -4);
        x.issue(1, 0, 200, 1);
        Check.due("on another trip the stage is free", x.sell(1, 0, 0), 200);
        x.close(0);
        Check.due("closed", x.sell(0, 0, 8), -2);
        Check.due("closed, bad", x.sell(0, 0, 10), -1);
        x.trip(0, true);
        Check.due("on a new trip the stage is free", x.sell(2, 0, 0), 3);
    }

    private static void sellDown() {
        TramPence x = new TramPence();
        x.type(3, 2);
        x.issue(2, 0, 40, 10);
        x.trip(2, false);
        Check.due("at the last stage", x.sell(0, 0, 0), -2);
        Check.due("at the first stage", x.sell(0, 0, 9), 40);
        Check.due("at stage 9 again", x.sell(0, 0, 9), 41);
        Check.due("at stage 4", x.sell(0, 0, 4), 42);
        Check.due("behind", x.sell(0, 0, 5), -2);
        Check.due("at stage 1", x.sell(0, 0, 1), 43);
        Check.due("behind", x.sell(0, 0, 9), -2);
    }

    private static void sellFull() {
        TramPence x = onTrip();
        x.issue(1, 0, 1000, 101);
        x.trip(1, false);
        for (int i = 0; i < 100; i++) {
            Check.due("up", x.sell(0, 0, 0), i);
            Check.due("down", x.sell(1, 0, 9), 1000 + i);
        }
        Check.due("200", x.count(2), 200);
        Check.due("full", x.sell(1, 0, 9), -3);
        Check.due("full and empty", x.sell(0, 0, 0), -3);
        Check.due("full, last stage", x.sell(1, 0, 0), -2);
        Check.due("full, no type", x.sell(1, 1, 0), -1);
        Check.due("undone", x.undo(), 199);
        Check.due("room again", x.sell(1, 0, 9), 1099);
        Check.due("full again", x.sell(1, 0, 9), -3);
        Check.due("the next one kept", x.pack(1, 0, 0), 1100);
    }

    private static void undo() {
        TramPence x = onTrip();
        x.issue(1, 0, 200, 2);
        x.trip(1, true);
        x.sell(0, 0, 5);
        x.sell(1, 0, 0);
        x.sell(1, 0, 3);
        Check.due("sold out", x.pack(1, 0, 0), -4);
        Check.due("undo of a sold out pack", x.undo(), 2);
        Check.due("its next", x.pack(1, 0, 0), 201);
        Check.due("its size", x.pack(1, 0, 1), 1);
        Check.due("not sold", x.shown(1, 3, 0, 201), 1);
        Check.due("not worth", x.money(1), 3);
        Check.due("sold anew", x.sell(1, 0, 1), 201);
        x.close(0);
        Check.due("undo", x.undo(), 2);
        Check.due("undo", x.undo(), 1);
        Check.due("closed", x.undo(), -2);
        Check.due("sales", x.count(2), 1);
        Check.due("next of trip 0 stays", x.pack(0, 0, 0), 1);
        Check.due("the trip's stages are free", x.sell(1, 0, 0), 200);
    }

    private static void undoAfterIssue() {
        TramPence x = onTrip();
        x.sell(0, 0, 0);
        x.issue(0, 0, 1, 0);
        Check.due("issued empty right behind", x.undo(), 0);
        Check.due("its next", x.pack(0, 0, 0), 0);
        Check.due("its size", x.pack(0, 0, 1), 1);
        Check.due("sold anew", x.sell(0, 0, 0), 0);
        x.issue(0, 0, 1, 5);
        Check.due("issued right behind", x.undo(), 0);
        Check.due("its size", x.pack(0, 0, 1), 6);
        x.sell(0, 0, 0);
        x.issue(0, 0, 2, 5);
        Check.due("issued farther behind", x.undo(), -2);
        x.issue(0, 0, 2, 0);
        Check.due("issued empty farther behind", x.undo(), -2);
        Check.due("refused, still sold", x.count(2), 1);
        x.issue(1, 0, 1, 5);
        Check.due("another's pack is right behind", x.undo(), -2);
        x.type(4, 4);
        x.issue(0, 1, 1, 5);
        Check.due("another type is right behind", x.undo(), -2);
    }
}
