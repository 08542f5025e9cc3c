/** Promises 12 to 19: waybills, money, who can be aboard, tickets shown, heads, gaps. */
final class WaybillsTest {
    private static final int LEAST = Integer.MIN_VALUE, MOST = Integer.MAX_VALUE;

    public static void main(String[] args) {
        waybill();
        money();
        paid();
        aboard();
        aboardDown();
        riders();
        shown();
        shownDown();
        heads();
        gap();
        gapAmongPacks();
        Check.finish();
    }

    /** Types of 3 pence and 2 sections, of 7 and 9; conductors 0, 1 with 20 of each; no trips. */
    private static TramPence withPacks() {
        TramPence x = new TramPence();
        x.type(3, 2);
        x.type(7, 9);
        x.issue(0, 0, 100, 20);
        x.issue(0, 1, 100, 20);
        x.issue(1, 0, 200, 20);
        x.issue(1, 1, 200, 20);
        return x;
    }

    private static void waybill() {
        TramPence x = withPacks();
        x.trip(0, true);
        int[][] bad = {{-1, 0, 0}, {1, 0, 0}, {0, -1, 0}, {0, 2, 0}, {0, 0, -1}, {0, 0, 3},
            {MOST, LEAST, MOST}};
        for (int[] b : bad) {
            Check.due("bad waybill", x.waybill(b[0], b[1], b[2]), -1);
        }
        Check.due("none sold", x.waybill(0, 0, 0), 0);
        Check.due("no first one", x.waybill(0, 0, 1), -4);
        Check.due("no last one", x.waybill(0, 0, 2), -4);
        x.sell(0, 0, 0);
        Check.due("the first one", x.waybill(0, 0, 1), 100);
        Check.due("the last one", x.waybill(0, 0, 2), 100);
        x.sell(0, 1, 0);
        x.sell(0, 0, 0);
        x.sell(0, 0, 0);
        x.trip(1, true);
        x.sell(1, 0, 0);
        Check.due("how many", x.waybill(0, 0, 0), 3);
        Check.due("the first one", x.waybill(0, 0, 1), 100);
        Check.due("the last one", x.waybill(0, 0, 2), 102);
        Check.due("of the other type", x.waybill(0, 1, 0), 1);
        Check.due("on the other trip", x.waybill(1, 0, 1), 200);
        Check.due("on the other trip none", x.waybill(1, 1, 2), -4);
        x.issue(0, 0, 7, 1);
        x.sell(0, 0, 0);
        Check.due("first as sold", x.waybill(0, 0, 1), 100);
        Check.due("last as sold", x.waybill(0, 0, 2), 7);
        x.close(0);
        Check.due("closed", x.waybill(0, 0, 0), 4);
    }

    private static void money() {
        TramPence x = withPacks();
        x.trip(0, true);
        x.trip(1, true);
        for (int t : new int[] {-1, 2, LEAST, MOST}) {
            Check.due("money(" + t + ")", x.money(t), -1);
        }
        Check.due("nothing yet", x.money(0), 0);
        x.sell(0, 0, 0);
        x.sell(0, 1, 0);
        x.sell(0, 1, 0);
        x.sell(1, 0, 0);
        Check.due("money(0)", x.money(0), 17);
        Check.due("money(1)", x.money(1), 3);
        x.close(0);
        Check.due("closed", x.money(0), 17);
    }

    private static void paid() {
        TramPence x = withPacks();
        int[][] bad = {{-1, 0}, {6, 0}, {0, -1}, {0, 100001}, {LEAST, MOST}};
        for (int[] b : bad) {
            Check.due("bad paid", x.paid(b[0], b[1]), -1000000);
        }
        x.trip(0, true);
        x.sell(0, 1, 0);
        Check.due("open", x.paid(0, 100000), 100000);
        x.close(0);
        Check.due("closed", x.paid(0, 5), -2);
        x.trip(0, false);
        x.sell(1, 0, 9);
        x.trip(1, false);
        x.sell(2, 0, 9);
        x.close(2);
        Check.due("one closed, one open", x.paid(0, 7), 0);
        x.close(1);
        Check.due("both closed", x.paid(0, 0), -10);
        Check.due("both closed again", x.paid(0, 0), -10);
        Check.due("the other one", x.paid(1, 3), 0);
        Check.due("none", x.paid(5, 8), 8);
        for (int t = 3; t < 16; t++) {
            x.close(x.trip(3, true));
        }
        Check.due("after 16 trips", x.paid(0, 0), -10);
    }

    private static void aboard() {
        TramPence x = withPacks();
        x.trip(0, true);
        int[][] bad = {{-1, 0, 0}, {1, 0, 0}, {0, -1, 0}, {0, 9, 0}, {0, 0, -1}, {0, 0, 2},
            {MOST, MOST, MOST}};
        for (int[] b : bad) {
            Check.due("bad aboard", x.aboard(b[0], b[1], b[2]), -1);
        }
        x.sell(0, 0, 1);
        x.sell(0, 1, 2);
        x.sell(0, 0, 2);
        x.sell(0, 0, 8);
        int[] least = {0, 1, 2, 0, 0, 0, 0, 0, 1};
        int[] most = {0, 1, 3, 2, 1, 1, 1, 1, 2};
        for (int section = 0; section < 9; section++) {
            Check.due("least up in " + section, x.aboard(0, section, 0), least[section]);
            Check.due("most up in " + section, x.aboard(0, section, 1), most[section]);
        }
        x.close(0);
        Check.due("closed", x.aboard(0, 2, 1), 3);
    }

    private static void aboardDown() {
        TramPence x = withPacks();
        x.trip(1, false);
        x.sell(0, 0, 9);
        x.sell(0, 0, 4);
        x.sell(0, 1, 4);
        x.sell(0, 0, 1);
        int[] least = {1, 0, 0, 2, 0, 0, 0, 0, 1};
        int[] most = {2, 1, 2, 2, 0, 0, 0, 1, 1};
        for (int section = 0; section < 9; section++) {
            Check.due("least down in " + section, x.aboard(0, section, 0), least[section]);
            Check.due("most down in " + section, x.aboard(0, section, 1), most[section]);
        }
    }

    private static void riders() {
        TramPence x = withPacks();
        x.issue(2, 0, 300, 10);
        Check.due("no trips", x.riders(true, 0, 1), 0);
        x.trip(0, true);
        x.trip(1, true);
        x.trip(2, false);
        x.sell(0, 0, 3);
        x.sell(1, 1, 4);
        x.sell(2, 0, 5);
        x.close(0);
        int[][] bad = {{-1, 0}, {9, 0}, {0, -1}, {0, 2}, {LEAST, MOST}};
        for (int[] b : bad) {
            Check.due("bad riders", x.riders(true, b[0], b[1]), -1);
            Check.due("bad riders", x.riders(false, b[0], b[1]), -1);
        }
        int[] leastUp = {0, 0, 0, 1, 1, 0, 0, 0, 0};
        int[] mostUp = {0, 0, 0, 1, 2, 1, 1, 1, 1};
        int[] leastDown = {0, 0, 0, 0, 1, 0, 0, 0, 0};
        int[] mostDown = {0, 0, 0, 1, 1, 0, 0, 0, 0};
        for (int section = 0; section < 9; section++) {
            Check.due("least up", x.riders(true, section, 0), leastUp[section]);
            Check.due("most up", x.riders(true, section, 1), mostUp[section]);
            Check.due("least down", x.riders(false, section, 0), leastDown[section]);
            Check.due("most down", x.riders(false, section, 1), mostDown[section]);
        }
    }

    private static void shown() {
        TramPence x = withPacks();
        x.trip(0, true);
        x.trip(1, true);
        x.sell(0, 0, 3);
        x.sell(1, 0, 3);
        int[][] bad = {{-1, 0, 0, 0}, {2, 0, 0, 0}, {0, -1, 0, 0}, {0, 9, 0, 0}, {0, 0, -1, 0},
            {0, 0, 2, 0}, {0, 0, 0, -1}, {0, 0, 0, LEAST}};
        for (int[] b : bad) {
            Check.due("bad shown", x.shown(b[0], b[1], b[2], b[3]), -1);
        }
        int[] due = {3, 3, 3, 0, 0, 4, 4, 4, 4};
        for (int section = 0; section < 9; section++) {
            Check.due("shown in " + section, x.shown(0, section, 0, 100), due[section]);
            Check.due("on another trip", x.shown(0, section, 0, 200), 2);
            Check.due("not sold yet", x.shown(0, section, 0, 101), 1);
            Check.due("of another type", x.shown(0, section, 1, 100), 1);
        }
        Check.due("no such number", x.shown(0, 0, 0, MOST), 1);
        x.close(0);
        Check.due("closed", x.shown(0, 3, 0, 100), 0);
        x.trip(0, true);
        Check.due("an earlier trip's", x.shown(2, 3, 0, 100), 2);
    }

    private static void shownDown() {
        TramPence x = withPacks();
        x.trip(0, false);
        x.sell(0, 0, 6);
        x.sell(0, 1, 6);
        int[] two = {4, 4, 4, 4, 0, 0, 3, 3, 3};
        int[] nine = {0, 0, 0, 0, 0, 0, 3, 3, 3};
        for (int section = 0; section < 9; section++) {
            Check.due("shown down in " + section, x.shown(0, section, 0, 100), two[section]);
            Check.due("shown down in " + section, x.shown(0, section, 1, 100), nine[section]);
        }
    }

    private static void heads() {
        TramPence x = withPacks();
        x.trip(0, true);
        int[][] bad = {{-1, 0, 0}, {1, 0, 0}, {0, -1, 0}, {0, 9, 0}, {0, 0, -1}, {0, 0, 1001},
            {LEAST, LEAST, LEAST}};
        for (int[] b : bad) {
            Check.due("bad heads", x.heads(b[0], b[1], b[2]), -1000000);
        }
        x.sell(0, 1, 0);
        x.sell(0, 1, 4);
        x.sell(0, 1, 4);
        int[] due = {-2, -1, 0, 0, 1, 2};
        for (int n = 0; n < due.length; n++) {
            Check.due("heads(0, 4, " + n + ")", x.heads(0, 4, n), due[n]);
        }
        Check.due("1000 heads", x.heads(0, 0, 1000), 999);
        Check.due("no head where none is due", x.heads(0, 3, 0), 0);
    }

    private static void gap() {
        TramPence x = new TramPence();
        Check.due("no such type", x.gap(0), -1);
        x.type(1, 1);
        Check.due("no such type", x.gap(1), -1);
        Check.due("no such type", x.gap(-1), -1);
        Check.due("no such type", x.gap(MOST), -1);
        x.trip(0, true);
        Check.due("none sold", x.gap(0), -4);
        x.issue(0, 0, 5, 3);
        Check.due("none sold yet", x.gap(0), -4);
        x.sell(0, 0, 0);
        Check.due("0", x.gap(0), 0);
        x.issue(0, 0, 0, 2);
        Check.due("behind the pack", x.gap(0), 2);
        x.sell(0, 0, 0);
        x.sell(0, 0, 0);
        Check.due("behind the sold ones", x.gap(0), 2);
        x.issue(0, 0, 2, 3);
        Check.due("all are there", x.gap(0), -4);
        x.sell(0, 0, 0);
        x.issue(0, 0, 90, 1);
        Check.due("taken away", x.gap(0), 3);
        x.sell(0, 0, 0);
        x.issue(0, 0, 3, 2);
        Check.due("between sold ones", x.gap(0), 6);
    }

    private static void gapAmongPacks() {
        TramPence x = new TramPence();
        x.type(1, 1);
        x.type(1, 1);
        x.issue(5, 0, 20, 10);
        x.issue(4, 0, 10, 10);
        x.issue(3, 0, 0, 10);
        x.issue(2, 0, 30, 10);
        x.trip(2, false);
        x.sell(0, 0, 9);
        Check.due("pack behind pack", x.gap(0), -4);
        Check.due("another type", x.gap(1), -4);
        x.issue(5, 0, 21, 9);
        Check.due("a number between packs", x.gap(0), 20);
        x.issue(5, 0, 20, 9);
        Check.due("a number ahead of the sold one", x.gap(0), 29);
        x.issue(5, 0, 20, 10);
        x.issue(2, 0, 60, 10);
        Check.due("a number behind the last sold one is none", x.gap(0), -4);
        x.sell(0, 0, 9);
        Check.due("now it is one", x.gap(0), 31);
        x.undo();
        Check.due("undone", x.gap(0), -4);
    }
}
