import java.util.ArrayList;
import java.util.List;
import java.util.function.Consumer;
import java.util.function.Supplier;

/**
 * All that can be seen of an object, call by call. Each way of looking has a new object, made by
 * the same calls, for it may change what it looks at.
 */
final class Sight {
    private final Script x;
    private final List<String> seen;
    private final int types;
    private final int trips;
    private int left;

    private Sight(Script x, int left, List<String> seen) {
        this.x = x;
        this.seen = seen;
        this.left = left - 2;
        types = (int) x.ask("count", 0);
        trips = (int) x.ask("count", 1);
    }

    /** No way of looking takes more calls than are left. */
    static List<String> of(Supplier<Script> maker, int left) {
        List<String> seen = new ArrayList<>();
        List<Consumer<Sight>> ways = new ArrayList<>(List.of(Sight::numbers, Sight::waybills,
                Sight::aboard, Sight::shown, Sight::undone, Sight::fares, Sight::changes,
                Sight::stages, Sight::closed, Sight::types, Sight::duties));
        for (int k = 0; k < 4; k++) {
            int sheet = k;
            ways.add(s -> s.cells(sheet));
        }
        int bytes = (int) maker.get().ask("count", 7);
        for (int n = 0; n <= bytes; n++) {
            int length = n;
            ways.add(s -> s.bytes(length));
        }
        for (Consumer<Sight> way : ways) {
            way.accept(new Sight(maker.get(), left, seen));
        }
        return seen;
    }

    private long see(String name, Object... arguments) {
        if (left <= 0) {
            return -1;
        }
        left--;
        long answer = x.ask(name, arguments);
        seen.add(name + java.util.Arrays.toString(arguments) + " = " + answer);
        return answer;
    }

    private void numbers() {
        for (int what = 0; what < 8; what++) {
            see("count", what);
        }
        see("fault");
        for (int type = 0; type < types; type++) {
            see("gap", type);
        }
        packs();
        for (int t = 0; t < trips; t++) {
            see("money", t);
        }
        for (int c = 0; c < 6; c++) {
            see("paid", c, 0);
        }
        for (int what = 0; what < 3; what++) {
            see("crews", what);
        }
        for (int d = 0; d < 10; d++) {
            see("crew", d);
            see("ill", d);
        }
        see("rest", 0);
    }

    private void packs() {
        for (int c = 0; c < 6; c++) {
            for (int type = 0; type < types; type++) {
                see("pack", c, type, 0);
                see("pack", c, type, 1);
            }
        }
    }

    private void waybills() {
        for (int t = 0; t < trips; t++) {
            for (int type = 0; type < types; type++) {
                for (int what = 0; what < 3; what++) {
                    see("waybill", t, type, what);
                }
            }
        }
    }

    private void aboard() {
        for (int section = 0; section < 9; section++) {
            for (int what = 0; what < 2; what++) {
                see("riders", true, section, what);
                see("riders", false, section, what);
                for (int t = 0; t < trips; t++) {
                    see("aboard", t, section, what);
                }
            }
        }
    }

    private void shown() {
        for (int type = 0; type < types; type++) {
            for (int t = 0; t < trips; t++) {
                int first = (int) see("waybill", t, type, 1);
                int last = (int) see("waybill", t, type, 2);
                for (int section = 0; section < 9 && first >= 0; section++) {
                    see("shown", t, section, type, first);
                    see("shown", t, section, type, last);
                    see("shown", t, section, type, last + 1);
                }
            }
        }
    }

    private void undone() {
        for (int i = 0; i <= 200 && see("undo") >= 0; i++) {
            see("money", i % 16);
        }
        packs();
    }

    private void fares() {
        for (int n = 1; n <= 9; n++) {
            for (int hour = 0; hour < 24; hour++) {
                see("fare", n, hour * 60);
            }
        }
    }

    private void changes() {
        for (int apart = 0; apart <= 121; apart++) {
            see("change", 0, apart);
        }
    }

    private void stages() {
        for (int t = 0; t < trips; t++) {
            for (int stage = 0; stage < 10; stage++) {
                if (see("sell", t, 0, stage) >= 0) {
                    see("undo");
                }
            }
        }
    }

    private void closed() {
        for (int c = 0; c < 6; c++) {
            see("trip", c, true);
        }
        for (int t = 0; t <= trips; t++) {
            see("close", t);
        }
        for (int c = 0; c < 6; c++) {
            see("paid", c, 100000);
        }
    }

    private void types() {
        for (int i = 0; i < 6; i++) {
            see("type", 1, 1);
        }
    }

    private void duties() {
        for (int i = 0; i < 11; i++) {
            see("duty", 0, 1440);
            see("crews", 0);
        }
    }

    private void cells(int k) {
        if (trips == 0) {
            see("trip", 0, true);
        }
        for (int lane = 0; lane < 3; lane++) {
            if (see("scan", 0, k, lane, 0, 0) == 0) {
                for (int f = 0; f < 64; f++) {
                    if (see("scan", 0, k, lane, f, 1) >= 0) {
                        see("undo");
                    }
                }
            }
        }
        see("lay", k, 0, 0);
    }

    private void bytes(int length) {
        see("end", length);
        see("laws");
        see("fault");
        see("count", 5);
        see("change", 0, 3);
        see("fare", 1, 0);
    }
}
