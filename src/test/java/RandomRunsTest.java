/** Long runs of calls, always the same ones, answered by TramPence as by the plain model. */
final class RandomRunsTest {
    /** No object is used for more than 512 calls; a step takes fewer than 65. */
    private static final int RUNS = 1200, CALLS = 512 - 65;

    private long seed;
    private int calls;
    private final TramPence x = new TramPence();
    private final PlainModel y = new PlainModel();
    private final boolean wild;
    private final int topic;

    private RandomRunsTest(int run) {
        seed = 88172645463325252L + run * 1000003L;
        wild = run % 8 == 0;
        topic = run % 4;
    }

    public static void main(String[] args) {
        for (int run = 0; run < RUNS; run++) {
            new RandomRunsTest(run).go(run);
        }
        Check.finish();
    }

    private int below(int n) {
        seed ^= seed << 13;
        seed ^= seed >>> 7;
        seed ^= seed << 17;
        return (int) Math.floorMod(seed, (long) n);
    }

    /** Mostly from least to most; at times one beside it, or anything. */
    private int some(int least, int most) {
        if (below(wild ? 8 : 60) != 0) {
            return least + below(most - least + 1);
        }
        int[] odd = {least - 1, most + 1, Integer.MIN_VALUE, Integer.MAX_VALUE, -least, 1 << below(32)};
        return odd[below(odd.length)];
    }

    private void due(int run, String call, int... gotAndWant) {
        calls++;
        Check.due("run " + run + ": " + call, gotAndWant[0], gotAndWant[1]);
    }

    private void go(int run) {
        for (int i = 0; i < 2 && topic != 3; i++) {
            due(run, "type", x.type(3 + i, 2 + 5 * i), y.type(3 + i, 2 + 5 * i));
        }
        if (run % 12 == 0) {
            sellMany(run);
        } else if (topic < 2) {
            setOut(run);
        }
        while (calls < CALLS) {
            int kind = below(100);
            if (topic == 3 ? kind < 40 : kind < 4) {
                roster(run);
            } else if (topic == 2 ? kind < 80 : kind < 8) {
                fares(run);
            } else if (kind < 60) {
                tickets(run);
            } else if (kind < 80) {
                sheets(run);
            } else {
                queries(run);
            }
        }
    }

    private void setOut(int run) {
        for (int c = 0; c < 4; c++) {
            int type = c % 2;
            int from = 15 * c;
            boolean up = below(2) == 0;
            due(run, "issue", x.issue(c, type, from, 9), y.issue(c, type, from, 9));
            due(run, "trip", x.trip(c, up), y.trip(c, up));
        }
    }

    /** 200 sales, and more that are refused. */
    private void sellMany(int run) {
        for (int c = 0; c < 2; c++) {
            due(run, "issue", x.issue(c, c, 20, 150), y.issue(c, c, 20, 150));
            due(run, "trip", x.trip(c, c == 0), y.trip(c, c == 0));
        }
        for (int i = 0; i < 220; i++) {
            int t = below(2);
            int stage = t == 0 ? i / 40 : 9 - i / 40;
            if (below(16) == 0) {
                due(run, "undo()", x.undo(), y.undo());
            } else {
                due(run, "sell", x.sell(t, t, stage), y.sell(t, t, stage));
            }
        }
        for (int i = 0; i < 30 && y.count(2) < 200; i++) {
            due(run, "sell", x.sell(i % 2, i % 2, 4), y.sell(i % 2, i % 2, 4));
        }
    }

    private int latestTrip() {
        return Math.max(0, y.count(1) - 1);
    }

    private void tickets(int run) {
        int t = below(4) == 0 ? some(0, 15) : some(Math.max(0, latestTrip() - 3), latestTrip());
        int a = some(0, 4) % 3;
        int kind = below(100);
        if (kind < 3) {
            int p = some(1, 60);
            int s = some(1, 9);
            due(run, "type(" + p + ", " + s + ")", x.type(p, s), y.type(p, s));
        } else if (kind < 20) {
            int c = some(0, 5);
            int from = below(30) == 0 ? some(0, 100000) : some(0, 60);
            int n = below(30) == 0 ? some(0, 1000) : some(0, 12);
            due(run, "issue(" + c + ", " + a + ", " + from + ", " + n + ")",
                    x.issue(c, a, from, n), y.issue(c, a, from, n));
        } else if (kind < 30) {
            int c = some(0, 5);
            boolean up = below(2) == 0;
            due(run, "trip(" + c + ", " + up + ")", x.trip(c, up), y.trip(c, up));
        } else if (kind < 34) {
            due(run, "close(" + t + ")", x.close(t), y.close(t));
        } else if (kind < 42) {
            due(run, "undo()", x.undo(), y.undo());
        } else {
            int s = below(3) == 0 ? some(0, 9) : some(3, 6);
            due(run, "sell(" + t + ", " + a + ", " + s + ")", x.sell(t, a, s), y.sell(t, a, s));
        }
    }

    private void sheets(int run) {
        int k = below(3) == 0 ? some(0, 3) : 0;
        int lane = below(3) == 0 ? some(0, 2) : 0;
        int kind = below(20);
        if (kind < 2) {
            int n = some(-1, 64);
            due(run, "sheet(" + k + ", " + lane + ", " + n + ")", x.sheet(k, lane, n), y.sheet(k, lane, n));
        } else if (kind < 14) {
            int i = some(0, 20);
            int v = (i % 2 == 0 ? some(0, 1) : some(4, 6)) + 256 * below(2);
            due(run, "lay(" + k + ", " + i + ", " + v + ")", x.lay(k, i, v), y.lay(k, i, v));
        } else {
            int t = some(0, latestTrip());
            int f = below(3) == 0 ? some(0, 63) : 2 * below(10);
            int n = below(3) == 0 ? some(0, 32) : some(0, 3);
            due(run, "scan(" + t + ", " + k + ", " + lane + ", " + f + ", " + n + ")",
                    x.scan(t, k, lane, f, n), y.scan(t, k, lane, f, n));
        }
    }

    private void queries(int run) {
        int t = some(0, latestTrip());
        int a = some(0, 4) % 3;
        int section = some(0, 8);
        int what = some(0, 1);
        boolean up = below(2) == 0;
        String args = "(" + t + ", " + section + ", type " + a + ", what " + what + ")";
        due(run, "aboard" + args, x.aboard(t, section, what), y.aboard(t, section, what));
        due(run, "riders" + args, x.riders(up, section, what), y.riders(up, section, what));
        int n = some(0, 20);
        due(run, "heads" + args + n, x.heads(t, section, n), y.heads(t, section, n));
        int number = some(0, 60);
        due(run, "shown" + args + number, x.shown(t, section, a, number), y.shown(t, section, a, number));
        due(run, "gap" + args, x.gap(a), y.gap(a));
        due(run, "money" + args, x.money(t), y.money(t));
        int c = some(0, 5);
        due(run, "pack" + args + c, x.pack(c, a, what), y.pack(c, a, what));
        int pence = some(0, 100000);
        due(run, "paid" + args + c, x.paid(c, pence), y.paid(c, pence));
        int which = some(0, 2);
        due(run, "waybill" + args + which, x.waybill(t, a, which), y.waybill(t, a, which));
        int counted = some(0, 7);
        due(run, "count(" + counted + ")", x.count(counted), y.count(counted));
    }

    private void fares(int run) {
        if (below(3) == 0) {
            String text = text();
            for (int i = 0; i < text.length(); i += 8) {
                long v = 0;
                for (int j = i; j < i + 8; j++) {
                    v = v << 8 | (j < text.length() ? text.charAt(j) : ' ');
                }
                due(run, "feed(" + v + ")", x.feed(v), y.feed(v));
            }
            for (int i = below(20) == 0 ? 26 : 0; i > 0; i--) {
                due(run, "feed", x.feed(0x2020202020202020L), y.feed(0x2020202020202020L));
            }
            due(run, "laws() of '" + text + "'", x.laws(), y.laws());
            due(run, "fault() of '" + text + "'", x.fault(), y.fault());
        } else if (below(8) == 0) {
            long v = (long) some(0, 9) << below(40) ^ 0x2020202020202020L;
            due(run, "feed(" + v + ")", x.feed(v), y.feed(v));
            int n = some(0, y.count(7));
            due(run, "end(" + n + ")", x.end(n), y.end(n));
        }
        int n = some(1, 9);
        int minute = some(0, 1439);
        int later = below(2) == 0 ? some(0, 1439) : minute + below(130);
        due(run, "fare(" + n + ", " + minute + ")", x.fare(n, minute), y.fare(n, minute));
        due(run, "change(" + minute + ", " + later + ")", x.change(minute, later), y.change(minute, later));
        due(run, "count(5)", x.count(5), y.count(5));
        due(run, "count(7)", x.count(7), y.count(7));
    }

    /** Laws, mostly right ones, at times with a sign or two changed. */
    private String text() {
        StringBuilder s = new StringBuilder();
        int sections = 0;
        int pence = 0;
        int laws = below(12);
        for (int i = 0; i < laws; i++) {
            int kind = below(10);
            if (kind < 6) {
                sections += below(8) == 0 ? some(0, 2) % 9 : 1;
                pence += below(8) == 0 ? some(0, 20) % 999 : 1 + below(99);
                s.append("fare ").append(sections).append(' ').append(pence);
            } else if (kind < 9) {
                int from = some(0, 23) % 99;
                int to = from + 1 + below(4) - below(9) / 8;
                s.append("work ").append(from).append(' ').append(to).append(' ').append(below(102));
            } else {
                s.append("change ").append(below(122));
            }
            s.append(below(3) == 0 ? " ; " : ";");
        }
        if (s.length() > 0 && below(2) == 0) {
            String signs = "fare workchange;;0123456789  -A\u00ff";
            s.setCharAt(below(s.length()), signs.charAt(below(signs.length())));
        }
        if (below(4) == 0) {
            s.setLength(below(s.length() + 1));
        }
        return s.toString();
    }

    private void roster(int run) {
        int kind = below(8);
        if (kind < 3) {
            int from = some(0, 1440);
            int to = below(2) == 0 ? some(0, 1440) : from + 1 + below(200);
            due(run, "duty(" + from + ", " + to + ")", x.duty(from, to), y.duty(from, to));
        } else if (kind == 3) {
            int minutes = below(2) == 0 ? some(0, 600) : some(0, 40);
            due(run, "rest(" + minutes + ")", x.rest(minutes), y.rest(minutes));
        }
        int d = some(0, 9);
        int what = some(0, 2);
        due(run, "crew(" + d + ")", x.crew(d), y.crew(d));
        due(run, "crews(" + what + ")", x.crews(what), y.crews(what));
        due(run, "ill(" + d + ")", x.ill(d), y.ill(d));
        due(run, "ill(" + d / 3 + ")", x.ill(d / 3), y.ill(d / 3));
    }
}
