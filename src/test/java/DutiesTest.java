/** Promises 26 to 30: duties, rest, crews. */
final class DutiesTest {
    private static final int LEAST = Integer.MIN_VALUE, MOST = Integer.MAX_VALUE;

    public static void main(String[] args) {
        duty();
        rest();
        crew();
        likeBeginnings();
        crews();
        ill();
        illWithSeveral();
        Check.finish();
    }

    private static TramPence withDuties(int... minutes) {
        TramPence x = new TramPence();
        for (int i = 0; i + 1 < minutes.length; i += 2) {
            x.duty(minutes[i], minutes[i + 1]);
        }
        return x;
    }

    private static void duty() {
        TramPence x = new TramPence();
        int[][] bad = {{-1, 5}, {5, 5}, {6, 5}, {0, 1441}, {1440, 1441}, {1440, 1440}, {MOST, LEAST},
            {LEAST, MOST}, {MOST, MOST}};
        for (int[] b : bad) {
            Check.due("duty(" + b[0] + ", " + b[1] + ")", x.duty(b[0], b[1]), -1);
        }
        Check.due("no duties", x.count(4), 0);
        Check.due("all day", x.duty(0, 1440), 0);
        Check.due("the last minute", x.duty(1439, 1440), 1);
        for (int d = 2; d < 10; d++) {
            Check.due("duty " + d, x.duty(0, 1), d);
        }
        Check.due("full", x.duty(0, 1), -3);
        Check.due("full, bad", x.duty(1, 1), -1);
        Check.due("duties", x.count(4), 10);
        Check.due("crews", x.crews(0), 9);
        Check.due("crew of the last minute", x.crew(1), 1);
        Check.due("the most minutes", x.crews(1), 1440);
        Check.due("of crew 0", x.crews(2), 0);
        Check.due("ill(0)", x.ill(0), 1);
        Check.due("ill(1): the last minute could be had by others", x.ill(1), 1);
        Check.due("ill(8)", x.ill(8), 1);
    }

    private static void rest() {
        TramPence x = new TramPence();
        for (int minutes : new int[] {-1, 601, LEAST, MOST}) {
            Check.due("rest(" + minutes + ")", x.rest(minutes), -1);
        }
        Check.due("rest(600)", x.rest(600), 30);
        Check.due("rest(0)", x.rest(0), 600);
        Check.due("rest(7)", x.rest(7), 0);
        Check.due("rest(7)", x.rest(7), 7);
    }

    private static void crew() {
        TramPence x = withDuties(100, 200, 230, 300);
        for (int d : new int[] {-1, 2, LEAST, MOST}) {
            Check.due("crew(" + d + ")", x.crew(d), -1);
        }
        Check.due("rested enough", x.crew(1), 0);
        x.rest(31);
        Check.due("rested too little", x.crew(1), 1);
        x.rest(0);
        Check.due("rested again", x.crew(1), 0);
        x.duty(0, 150);
        Check.due("the new one begins first", x.crew(2), 0);
        Check.due("so this is another's", x.crew(0), 1);
        Check.due("and this the least's", x.crew(1), 0);
    }

    private static void likeBeginnings() {
        TramPence x = withDuties(60, 300, 60, 90, 60, 100, 120, 130, 130, 140);
        int[] due = {0, 1, 2, 1, 2};
        for (int d = 0; d < due.length; d++) {
            Check.due("crew(" + d + ")", x.crew(d), due[d]);
        }
    }

    private static void crews() {
        TramPence x = new TramPence();
        for (int what : new int[] {-1, 3, LEAST, MOST}) {
            Check.due("crews(" + what + ")", x.crews(what), -1);
        }
        Check.due("none", x.crews(0), 0);
        Check.due("none has minutes", x.crews(1), 0);
        Check.due("none", x.crews(2), -4);
        x.duty(0, 1);
        Check.due("one minute", x.crews(1), 1);
        Check.due("of 0", x.crews(2), 0);
        x = new TramPence();
        x.duty(0, 50);
        x.duty(10, 60);
        Check.due("two", x.crews(0), 2);
        Check.due("50 minutes each", x.crews(1), 50);
        Check.due("the least of them", x.crews(2), 0);
        x.duty(85, 86);
        Check.due("51 minutes", x.crews(1), 51);
        Check.due("of 0", x.crews(2), 0);
        x.duty(90, 93);
        Check.due("53 minutes", x.crews(1), 53);
        Check.due("of 1", x.crews(2), 1);
        Check.due("still two", x.crews(0), 2);
        x.rest(600);
        Check.due("four", x.crews(0), 4);
        Check.due("50 minutes again", x.crews(1), 50);
    }

    private static void ill() {
        TramPence x = withDuties(0, 100);
        for (int crew : new int[] {-1, 1, LEAST, MOST}) {
            Check.due("ill(" + crew + ")", x.ill(crew), -1);
        }
        Check.due("there is no other crew", x.ill(0), 1);
        x.duty(50, 60);
        Check.due("the other one has one meanwhile", x.ill(0), 1);
        Check.due("likewise", x.ill(1), 1);
        x.duty(130, 140);
        Check.due("crew of the third", x.crew(2), 0);
        Check.due("the third could be had by the other", x.ill(0), 1);
        x.rest(0);
        x.duty(10, 20);
        Check.due("crew of the fourth", x.crew(3), 1);
        Check.due("the other crew's are both meanwhile", x.ill(1), 2);
    }

    private static void illWithSeveral() {
        TramPence x = withDuties(0, 100, 50, 150, 200, 300, 330, 400);
        int[] due = {0, 1, 0, 0};
        for (int d = 0; d < due.length; d++) {
            Check.due("crew(" + d + ")", x.crew(d), due[d]);
        }
        Check.due("each alone could be had, but the first", x.ill(0), 1);
        x.duty(170, 171);
        Check.due("between its duties, with 20 ahead of the third", x.crew(4), 0);
        restAheadAndBehind(6, 80, 2);
        restAheadAndBehind(6, 79, 3);
        restAheadAndBehind(10, 80, 2);
        restAheadAndBehind(11, 80, 3);
    }

    /** Crew 0 has 0 to 10, 40 to 50, 80 to 90; crew 1 could have the second one at the most. */
    private static void restAheadAndBehind(int to, int from, int due) {
        TramPence x = withDuties(0, 10, 5, to, 40, 50, 80, 90, from, 100);
        int[] crews = {0, 1, 0, 0, 1};
        for (int d = 0; d < crews.length; d++) {
            Check.due("crew(" + d + ")", x.crew(d), crews[d]);
        }
        Check.due("ill(0) by 5 to " + to + ", " + from + " to 100", x.ill(0), due);
    }
}
