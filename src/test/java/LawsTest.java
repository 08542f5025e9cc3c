/** Promises 20 to 25: the tape, the laws told on it and their faults, fares, changes. */
final class LawsTest {
    private static final int LEAST = Integer.MIN_VALUE, MOST = Integer.MAX_VALUE;

    public static void main(String[] args) {
        feed();
        end();
        highestFirst();
        laws();
        tokens();
        noToken();
        cutOff();
        canNotStandThere();
        outOfBounds();
        notAbove();
        tooMany();
        firstMet();
        those();
        fare();
        hours();
        upToWhole();
        change();
        Check.finish();
    }

    /** Puts a text behind the tape. */
    private static void write(TramPence x, String text) {
        int had = x.count(7);
        for (int i = 0; i < text.length(); i += 8) {
            long v = 0;
            for (int j = i; j < i + 8; j++) {
                v = v << 8 | (j < text.length() ? text.charAt(j) & 255 : 0);
            }
            x.feed(v);
        }
        x.end(had + text.length());
    }

    private static TramPence told(String text, int laws) {
        TramPence x = new TramPence();
        tells(x, text, laws);
        return x;
    }

    private static void tells(TramPence x, String text, int laws) {
        write(x, text);
        Check.due("length of '" + text + "'", x.count(7), text.length());
        Check.due("laws of '" + text + "'", x.laws(), laws);
        Check.due("fault of '" + text + "'", x.fault(), 0);
        Check.due("laws told by '" + text + "'", x.count(5), laws);
        Check.due("empty after '" + text + "'", x.count(7), 0);
    }

    private static void fails(String text, int place, int fault) {
        TramPence x = told("fare 9 900; change 3;", 2);
        write(x, text);
        Check.due("laws of '" + text + "'", x.laws(), -10 - place);
        Check.due("fault of '" + text + "'", x.fault(), fault);
        Check.due("empty after '" + text + "'", x.count(7), 0);
        Check.due("laws stay after '" + text + "'", x.count(5), 2);
        Check.due("fare stays after '" + text + "'", x.fare(1, 0), 900);
        Check.due("change stays after '" + text + "'", x.change(0, 4), 0);
        Check.due("fault of '" + text + "' again", x.fault(), fault);
        Check.due("laws of nothing", x.laws(), 0);
        Check.due("fault of nothing", x.fault(), 0);
    }

    private static void feed() {
        TramPence x = new TramPence();
        for (int i = 1; i <= 25; i++) {
            Check.due("feed", x.feed(-1L), 8 * i);
        }
        Check.due("full", x.feed(0), -3);
        Check.due("still 200", x.count(7), 200);
        x.end(193);
        Check.due("201 are too many", x.feed(0), -3);
        Check.due("still 193", x.count(7), 193);
        x.end(192);
        Check.due("200 are not", x.feed(0), 200);
    }

    private static void end() {
        TramPence x = new TramPence();
        Check.due("end(0)", x.end(0), 0);
        Check.due("end(1)", x.end(1), -1);
        x.feed(0);
        for (int n : new int[] {-1, 9, LEAST, MOST}) {
            Check.due("end(" + n + ")", x.end(n), -1);
        }
        Check.due("still 8", x.count(7), 8);
        Check.due("end(8)", x.end(8), 8);
        Check.due("end(3)", x.end(3), 8);
        Check.due("end(4)", x.end(4), -1);
        Check.due("feed behind 3", x.feed(0), 11);
    }

    private static void highestFirst() {
        TramPence x = new TramPence();
        // "change 7" and ";", then blanks.
        x.feed(0x6368616e67652037L);
        x.feed(0x3b20202020202020L);
        Check.due("laws", x.laws(), 1);
        Check.due("7 apart", x.change(0, 7), 1);
        Check.due("8 apart", x.change(0, 8), 0);
        x.feed(0x6368616e67652037L);
        x.end(7);
        x.feed(0x383b202020202020L);
        Check.due("laws, kept by its first bytes", x.laws(), 1);
        Check.due("8 apart now", x.change(0, 8), 1);
        x.feed(0xff20202020202020L);
        Check.due("a byte above 127 is no token", x.laws(), -10);
        Check.due("a byte above 127 is no token", x.fault(), 1);
    }

    private static void laws() {
        told("", 0);
        told("   ", 0);
        told("fare 1 1;", 1);
        told("work 0 1 0;", 1);
        told("change 0;", 1);
        told("change 120;work 23 24 100;fare 9 999;", 3);
        told("fare 1 1;fare 2 2;fare 3 3;fare 4 4;fare 5 5;fare 6 6;fare 7 7;fare 8 8;fare 9 9;"
                + "work 0 24 1;work 0 24 1;work 0 24 1;work 0 24 1;change 1;", 14);
        StringBuilder long200 = new StringBuilder("fare 1 1;");
        while (long200.length() < 191) {
            long200.append(' ');
        }
        told(long200 + "change 1;", 2);
        TramPence x = told("fare 3 3; work 0 24 50; change 5;", 3);
        tells(x, "fare 2 8;", 1);
        Check.due("no fare goes so far now", x.fare(3, 0), -4);
        Check.due("no work now", x.fare(1, 0), 8);
        Check.due("no change now", x.change(0, 0), 0);
        tells(x, "", 0);
        Check.due("no fare now", x.fare(1, 0), -4);
    }

    private static void tokens() {
        TramPence x = told("fare1 5;fare 02 0006;work0 1 50;change007;", 4);
        Check.due("fare 1", x.fare(1, 60), 5);
        Check.due("fare 2", x.fare(2, 60), 6);
        Check.due("fare 2 in hour 0", x.fare(2, 0), 3);
        Check.due("change", x.change(0, 7), 1);
        Check.due("change", x.change(0, 8), 0);
        told("   fare   1   1   ;   ", 1);
        fails("fare 1 1 ; ;", 11, 2);
        fails("fare12;", 4, 3);
        fails("fare9;", 5, 2);
        fails("fare 1 2change 3;", 8, 2);
    }

    private static void noToken() {
        fails("-", 0, 1);
        fails("  ,", 2, 1);
        fails("fare\t1 1;", 4, 1);
        fails("fare 1\n1;", 6, 1);
        fails("Fare 1 1;", 0, 1);
        fails("fare 1 1:", 8, 1);
        fails("far 1 1;", 0, 1);
        fails("fares 1 1;", 0, 1);
        fails("farefare 1 1;", 0, 1);
        fails("fare 1 1; worc 1 2 3;", 10, 1);
        fails("fare one 1;", 5, 1);
        fails("fare 1 1 x;", 9, 1);
        fails("fare 00001 1;", 5, 1);
        fails("fare 1 12345;", 7, 1);
        fails("  12345", 2, 1);
        fails("change 1 99999999999999999999;", 9, 1);
        fails("farez 1 1;", 0, 1);
        fails("fare 1 1; bare 2 2;", 10, 1);
        fails("pork 1 2 3;", 0, 1);
        fails("xhange 1;", 0, 1);
        fails("`", 0, 1);
        fails("{", 0, 1);
        fails("/", 0, 1);
        fails("fare 1 1<", 8, 1);
        fails("change 1\u00e9;", 8, 1);
        fails("change 1\u0000;", 8, 1);
    }

    /** Bytes that the tape keeps no more are not read. */
    private static void cutOff() {
        TramPence x = new TramPence();
        write(x, "fares 12");
        x.end(4);
        Check.due("laws of 'fare'", x.laws(), -14);
        Check.due("fault of 'fare'", x.fault(), 2);
        write(x, "change 123456");
        x.end(8);
        Check.due("laws of 'change 1'", x.laws(), -18);
        Check.due("fault of 'change 1'", x.fault(), 2);
        write(x, "change 1; x");
        x.end(10);
        Check.due("laws of 'change 1; '", x.laws(), 1);
        StringBuilder s = new StringBuilder("change 1;");
        while (s.length() < 200) {
            s.append(' ');
        }
        tells(x, s.toString(), 1);
        s.setLength(196);
        fails(s + "fare", 200, 2);
        fails(s + "   1", 199, 2);
        fails(s + "   ;", 199, 2);
        fails(s + "   x", 199, 1);
    }

    private static void canNotStandThere() {
        fails(";", 0, 2);
        fails("  7", 2, 2);
        fails("fare", 4, 2);
        fails("fare  ", 6, 2);
        fails("fare ; 1;", 5, 2);
        fails("fare fare 1 1;", 5, 2);
        fails("fare 1;", 6, 2);
        fails("fare 1 work", 7, 2);
        fails("fare 1 1", 8, 2);
        fails("fare 1 1 1;", 9, 2);
        fails("fare 1 1 change 3;", 9, 2);
        fails("work;", 4, 2);
        fails("work 1;", 6, 2);
        fails("work 1 2;", 8, 2);
        fails("work 1 2 3 4;", 11, 2);
        fails("work 1 2 3", 10, 2);
        fails("change;", 6, 2);
        fails("change 3 change", 9, 2);
        fails("change 3", 8, 2);
        fails("change 3;;", 9, 2);
    }

    private static void outOfBounds() {
        fails("fare 0 1;", 5, 3);
        fails("fare 10 1;", 5, 3);
        fails("fare 1 0;", 7, 3);
        fails("fare 1 1000;", 7, 3);
        fails("work 24 24 1;", 5, 3);
        fails("work 0 0 1;", 7, 3);
        fails("work 3 3 1;", 7, 3);
        fails("work 3 2 1;", 7, 3);
        fails("work 3 25 1;", 7, 3);
        fails("work 23 24 101;", 11, 3);
        fails("change 121;", 7, 3);
        fails("change 9999;", 7, 3);
        fails("fare 2 2;fare 10 3;", 14, 3);
        fails("fare 2 2;fare 0 3;", 14, 3);
        fails("fare 2 2;fare 3 0;", 16, 3);
    }

    private static void notAbove() {
        fails("fare 2 5;fare 2 6;", 14, 4);
        fails("fare 2 5;fare 1 6;", 14, 4);
        fails("fare 2 5;fare 3 5;", 16, 4);
        fails("fare 2 5;change 3;fare 3 4;", 25, 4);
        fails("fare 1 1;fare 2 5;fare 3 5;", 25, 4);
        told("fare 2 5;fare 3 6;", 2);
        TramPence x = told("fare 5 50;", 1);
        tells(x, "fare 4 40;", 1);
    }

    private static void tooMany() {
        fails("work 0 1 1;work 0 1 1;work 0 1 1;work 0 1 1;work x", 44, 5);
        fails("change 1;change", 9, 5);
        fails("change 0;fare 1 1;change -", 18, 5);
        fails("fare 1 1;fare 2 2;fare 3 3;fare 4 4;fare 5 5;fare 6 6;fare 7 7;fare 8 8;fare 9 9;"
                + " fare 9 9;", 82, 5);
    }

    private static void firstMet() {
        fails("fare 10 $", 5, 3);
        fails("fare 10 20000;", 5, 3);
        fails("fare 10", 5, 3);
        fails("fare 2 2;fare 2 $", 14, 4);
        fails("change 1;change $", 9, 5);
        fails("fare $ 10", 5, 1);
        fails("fare 1 1 $ fare", 9, 1);
        fails("fare 1 ; $", 7, 2);
        fails("change 1; fare 1 2; work 2 1 -; $", 27, 3);
    }

    /** Those laws that were told stay, none of the text with the fault is. */
    private static void those() {
        TramPence x = told("fare 4 4;", 1);
        write(x, "fare 5 5;change 3;work 0 24 0;?");
        Check.due("at the end", x.laws(), -40);
        Check.due("laws", x.count(5), 1);
        Check.due("fare(5, 0)", x.fare(5, 0), -4);
        Check.due("fare(4, 0)", x.fare(4, 0), 4);
        Check.due("change(0, 0)", x.change(0, 0), 0);
        tells(x, "change 9;fare 1 2;", 2);
        Check.due("fare(2, 0)", x.fare(2, 0), -4);
        Check.due("fare(1, 0)", x.fare(1, 0), 2);
    }

    private static void fare() {
        TramPence x = told("fare 2 10;fare 5 20;fare 8 999;", 3);
        int[][] bad = {{0, 0}, {10, 0}, {1, -1}, {1, 1440}, {LEAST, LEAST}, {MOST, MOST}, {10, 1440}};
        for (int[] b : bad) {
            Check.due("fare(" + b[0] + ", " + b[1] + ")", x.fare(b[0], b[1]), -1);
        }
        int[] due = {10, 10, 20, 20, 20, 999, 999, 999, -4};
        for (int n = 1; n <= 9; n++) {
            Check.due("fare(" + n + ", 0)", x.fare(n, 0), due[n - 1]);
            Check.due("fare(" + n + ", 1439)", x.fare(n, 1439), due[n - 1]);
        }
    }

    private static void hours() {
        TramPence x = told("work 5 7 50;work 6 9 20;work 22 24 0;fare 9 100;", 4);
        int[] minutes = {0, 299, 300, 359, 360, 419, 420, 539, 540, 1319, 1320, 1439};
        int[] due = {100, 100, 50, 50, 50, 50, 20, 20, 100, 100, 0, 0};
        for (int i = 0; i < minutes.length; i++) {
            Check.due("fare(3, " + minutes[i] + ")", x.fare(3, minutes[i]), due[i]);
        }
        TramPence y = told("work 0 1 30;work 0 24 60;fare 9 10;", 3);
        Check.due("the first such", y.fare(1, 59), 3);
        Check.due("the second one", y.fare(1, 60), 6);
    }

    private static void upToWhole() {
        TramPence x = told("fare 1 1;fare 2 100;fare 3 101;fare 4 999;work 0 1 1;work 1 2 99;"
                + "work 2 3 100;", 7);
        int[][] due = {{1, 1, 1, 1}, {1, 99, 100, 100}, {2, 100, 101, 101}, {10, 990, 999, 999}};
        for (int n = 1; n <= 4; n++) {
            for (int hour = 0; hour < 4; hour++) {
                Check.due("fare(" + n + ") in hour " + hour, x.fare(n, hour * 60),
                        due[n - 1][hour]);
            }
        }
    }

    private static void change() {
        TramPence x = new TramPence();
        int[][] bad = {{-1, 0}, {0, -1}, {1440, 1440}, {0, 1440}, {5, 4}, {1439, 0}, {LEAST, MOST},
            {MOST, LEAST}};
        for (int[] b : bad) {
            Check.due("change(" + b[0] + ", " + b[1] + ")", x.change(b[0], b[1]), -1);
        }
        Check.due("none told", x.change(7, 7), 0);
        tells(x, "change 0;", 1);
        Check.due("0 apart", x.change(7, 7), 1);
        Check.due("1 apart", x.change(7, 8), 0);
        tells(x, "change 120;", 1);
        Check.due("120 apart", x.change(1319, 1439), 1);
        Check.due("121 apart", x.change(1318, 1439), 0);
        for (int[] b : bad) {
            Check.due("change(" + b[0] + ", " + b[1] + ")", x.change(b[0], b[1]), -1);
        }
    }
}
