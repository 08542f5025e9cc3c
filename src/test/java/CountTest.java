/** Promise 31: count; and that what is refused changes nothing. */
final class CountTest {
    public static void main(String[] args) {
        counts();
        refusals();
        apart();
        Check.finish();
    }

    private static void due(TramPence x, String when, int... counts) {
        for (int what = 0; what < counts.length; what++) {
            Check.due(when + ": count(" + what + ")", x.count(what), counts[what]);
        }
    }

    private static TramPence filled() {
        TramPence x = new TramPence();
        x.type(1, 1);
        x.type(2, 2);
        x.type(3, 3);
        x.issue(0, 0, 0, 10);
        x.trip(0, true);
        x.trip(1, true);
        x.trip(2, true);
        x.close(1);
        x.sell(0, 0, 0);
        x.sell(0, 0, 1);
        x.duty(0, 1);
        // "change 1", ";" and blanks.
        x.feed(0x6368616e67652031L);
        x.feed(0x3b20202020202020L);
        x.laws();
        x.feed(0);
        x.sheet(0, 0, 17);
        x.sheet(1, 0, 18);
        return x;
    }

    private static void counts() {
        TramPence x = new TramPence();
        due(x, "new", 0, 0, 0, 0, 0, 0, -4, 0);
        for (int what : new int[] {-1, 8, Integer.MIN_VALUE, Integer.MAX_VALUE}) {
            Check.due("count(" + what + ")", x.count(what), -1);
        }
        x = filled();
        due(x, "filled", 3, 3, 2, 2, 1, 1, 17, 8);
        x.undo();
        x.close(0);
        x.sheet(0, 0, 0);
        x.end(0);
        x.laws();
        due(x, "less", 3, 3, 1, 1, 1, 0, 0, 0);
    }

    private static void refusals() {
        TramPence x = filled();
        x.type(0, 0);
        x.issue(0, 0, 1, 1001);
        x.issue(0, 0, 0, 1);
        x.trip(0, true);
        x.trip(6, true);
        x.close(1);
        x.sell(0, 0, 0);
        x.sell(0, 1, 5);
        x.sheet(0, 0, -1);
        x.sheet(0, 0, 65);
        x.scan(0, 0, 0, 16, 1);
        x.end(9);
        x.duty(1, 1);
        x.rest(601);
        due(x, "after refusals", 3, 3, 2, 2, 1, 1, 17, 8);
        Check.due("pack", x.pack(0, 0, 1), 8);
        Check.due("rest", x.rest(5), 30);
    }

    private static void apart() {
        TramPence x = filled();
        TramPence y = new TramPence();
        due(y, "another object", 0, 0, 0, 0, 0, 0, -4, 0);
        due(x, "the first object", 3, 3, 2, 2, 1, 1, 17, 8);
    }
}
