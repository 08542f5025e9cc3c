/** The document from its 20th promise to its end: each sentence, and calls that show it. */
final class ReadingOfFaresAndDutiesTest {
    private static Reading reading;

    public static void main(String[] args) throws Exception {
        reading = new Reading("## Promise 20: feed", "");
        feed();
        end();
        laws();
        fault();
        fare();
        change();
        duty();
        rest();
        crew();
        crews();
        ill();
        count();
        notPromised();
        reading.finish();
    }

    private static void feed() {
        reading.head("## Promise 20: feed");
        reading.says("`int feed(long v)`: Eight bytes come behind THE TAPE,", "feed 0 = 8",
                "feed 1 = 16", "count 7 = 16", "end 0", "tape 'fare 1 2'",
                "feed 0x3B20202020202020 = 16", "laws = 1");
        reading.says("the highest first:", "feed 0x6661726520312032 | feed 0x3B63616820202020",
                "end 9", "laws = 1", "fare 1 0 = 2");
        reading.says("how many it has.", "feed 0 = 8", "feed 0 = 16", "end 3", "feed 0 = 11");
        reading.says("FULL: more than 200.", "25 x feed 0", "! feed 0 = -3", "end 193 = 200",
                "! feed 0 = -3", "end 192 = 193", "feed 0 = 200");
    }

    private static void end() {
        reading.head("## Promise 21: end");
        reading.says("`int end(int n)`: THE TAPE keeps its first n bytes:",
                "tape 'fare 1 2;fare 1 1;'", "end 9", "count 7 = 9", "laws = 1", "fare 1 0 = 2");
        reading.says("how many it had.", "feed 0", "end 5 = 8", "end 0 = 5", "end 0 = 0");
        reading.says("BAD.", "! end 1 = -1", "! end -1 = -1", "feed 0", "! end 9 = -1",
                "end 8 = 8");
    }

    private static void laws() {
        reading.head("## Promise 22: laws");
        reading.says("`int laws()`: THE TAPE (empty then,", "tape 'fare 1 2;'", "laws = 1",
                "count 7 = 0", "laws = 0", "count 5 = 0");
        reading.says("by a FAULT, too)", "tape 'fare 1 2'", "laws = -18", "count 7 = 0",
                "tape '#'", "laws = -10", "count 7 = 0", "laws = 0");
        reading.says("tells all laws:", "tape 'fare 1 2;change 3;'", "laws = 2", "fare 1 0 = 2",
                "tape 'fare 2 3;'", "laws = 1", "count 5 = 1", "fare 1 0 = 3", "change 0 0 = 0");
        reading.says("how many;", "tape 'fare 1 2;work 1 2 3;change 3;fare 2 3;'", "laws = 4",
                "tape 'change 3;'", "laws = 1", "laws = 0");
        reading.says("-10 less the place of its FAULT:", "tape '#'", "laws = -10",
                "tape 'fare 1 #'", "laws = -17", "tape 'fare 1 2 '", "laws = -19");
        reading.says("those that were told stay.", "tape 'fare 1 2;change 3;'", "laws = 2",
                "tape 'fare 1 9;#'", "laws = -19", "count 5 = 2", "fare 1 0 = 2",
                "change 0 3 = 1");
    }

    private static void fault() {
        reading.head("## Promise 23: fault");
        reading.says("`int fault()`: The FAULT of the latest laws();", "tape '#'", "laws = -10",
                "fault = 1", "tape 'fare'", "laws = -14", "fault = 2", "tape 'fare 0'",
                "laws = -15", "fault = 3", "tape 'fare 2 2;fare 1'", "laws = -24", "fault = 4",
                "tape 'change 1;change'", "laws = -19", "fault = 5", "! fault = 5");
        reading.says("0.", "! fault = 0", "tape '#'", "laws = -10", "fault = 1", "laws = 0",
                "fault = 0", "tape 'fare 1 1;'", "laws = 1", "fault = 0");
    }

    private static void fare() {
        reading.head("## Promise 24: fare");
        reading.says("`int fare(int n, int minute)`: THE FARE for n SECTIONS (1 to 9)",
                "tape 'fare 3 4;fare 9 6;'", "laws = 2", "! fare 1 0 = 4", "! fare 3 0 = 4",
                "! fare 4 0 = 6", "! fare 9 0 = 6");
        reading.says("at a minute.", "tape 'fare 9 6;work 5 7 50;'", "laws = 2", "fare 9 299 = 6",
                "fare 9 300 = 3", "fare 9 419 = 3", "fare 9 420 = 6", "fare 9 1439 = 6");
        reading.says("BAD;", "tape 'fare 9 6;'", "laws = 1", "! fare 0 0 = -1", "! fare 10 0 = -1",
                "! fare 1 -1 = -1", "! fare 1 1440 = -1");
        reading.says("NONE: no fare goes so far.", "! fare 1 0 = -4", "tape 'fare 3 4;'",
                "laws = 1", "fare 3 0 = 4", "! fare 4 0 = -4", "fare 10 0 = -1");
    }

    private static void change() {
        reading.head("## Promise 25: change");
        reading.says("`int change(int from, int to)`: Whether a CHANGE is good (1, 0).",
                "! change 0 0 = 0", "tape 'change 7;'", "laws = 1", "! change 50 57 = 1",
                "! change 50 58 = 0", "change 1439 1439 = 1", "change 0 1439 = 0");
        reading.says("BAD: also a minute ahead of the other one.", "tape 'change 7;'", "laws = 1",
                "! change -1 0 = -1", "! change 1439 1440 = -1", "! change 1440 1440 = -1",
                "! change 5 4 = -1", "change 5 5 = 1");
    }

    private static void duty() {
        reading.head("## Promise 26: duty");
        reading.says("`int duty(int from, int to)`: A DUTY: its number.", "duty 90 100 = 0",
                "duty 0 1440 = 1", "duty 90 100 = 2", "count 4 = 3");
        reading.says("BAD;", "! duty -1 5 = -1", "! duty 5 1441 = -1", "! duty 5 5 = -1",
                "! duty 6 5 = -1", "! duty 1440 1441 = -1");
        reading.says("FULL.", "9 x duty 0 1", "duty 0 1 = 9", "! duty 0 1 = -3", "duty 1 1 = -1");
    }

    private static void rest() {
        reading.head("## Promise 27: rest");
        reading.says("`int rest(int minutes)`: REST: what it was.", "rest 600 = 30", "rest 0 = 600",
                "rest 12 = 0", "duty 0 10 | duty 21 30 | duty 22 30", "crew 1 = 1", "crew 2 = 0",
                "rest 11 = 12", "crew 1 = 0", "crew 2 = 1");
        reading.says("BAD.", "! rest -1 = -1", "! rest 601 = -1", "rest 30 = 30");
    }

    private static void crew() {
        reading.head("## Promise 28: crew");
        reading.says("`int crew(int d)`: The CREW of a DUTY.",
                "duty 60 90 | duty 0 50 | duty 10 70 | duty 100 200", "crew 0 = 2", "crew 1 = 0",
                "crew 2 = 1", "crew 3 = 0");
        reading.says("BAD.", "! crew 0 = -1", "duty 0 1", "! crew -1 = -1", "! crew 1 = -1",
                "crew 0 = 0");
    }

    private static void crews() {
        reading.head("## Promise 29: crews");
        reading.says("`int crews(int what)`: How many CREWS (what 0),", "crews 0 = 0", "duty 0 10",
                "crews 0 = 1", "duty 39 50", "crews 0 = 2", "duty 40 50", "crews 0 = 2");
        reading.says("the most minutes that one has (1),", "duty 0 10", "crews 1 = 10",
                "duty 30 60", "crews 1 = 30", "duty 100 125", "crews 1 = 35");
        reading.says("the CREW that has them,", "duty 0 10 | duty 30 60", "crews 2 = 1",
                "duty 100 125", "crews 2 = 0");
        reading.says("the least of several (2;", "duty 0 10 | duty 0 20 | duty 0 20",
                "crews 1 = 20", "crews 2 = 1");
        reading.says("NONE: there is none).", "crews 2 = -4", "duty 0 10", "crews 2 = 0");
        reading.says("BAD.", "! crews -1 = -1", "! crews 3 = -1", "duty 0 10", "! crews 3 = -1");
    }

    private static void ill() {
        reading.head("## Promise 30: ill");
        reading.says("`int ill(int crew)`: A CREW is ill: how many of its DUTIES could be had by no"
                + " other one", "duty 0 100 | duty 50 150 | duty 200 300 | duty 700 800",
                "crew 2 = 0", "ill 0 = 1", "ill 1 = 1");
        reading.also("duty 0 100 | duty 200 300 | duty 400 500", "ill 0 = 3");
        reading.says("as they are told (each alone,",
                "duty 0 10 | duty 5 50 | duty 100 110 | duty 105 120 | duty 108 120", "crew 2 = 0",
                "crew 3 = 1", "crew 4 = 2", "ill 0 = 1", "ill 1 = 1", "ill 2 = 1", "crew 0 = 0");
        reading.says("with REST ahead and behind).", "duty 0 100 | duty 90 120 | duty 150 160",
                "crew 2 = 0", "ill 0 = 1", "rest 31", "crew 2 = 0", "ill 0 = 2");
        reading.also("duty 150 160 | duty 190 300 | duty 190 200", "crew 1 = 0", "crew 2 = 1",
                "ill 0 = 1");
        reading.also("duty 150 160 | duty 189 200", "crew 1 = 1", "ill 0 = 1");
        reading.says("BAD: there is no such CREW.", "! ill 0 = -1", "duty 0 1 | duty 100 101",
                "! ill -1 = -1", "! ill 1 = -1", "ill 0 = 2");
    }

    private static void count() {
        reading.head("## Promise 31: count");
        reading.says("`int count(int what)`: How many: 0 TYPES,", "count 0 = 0",
                "type 1 1 | type 1 1", "count 0 = 2");
        reading.says("1 TRIPS,", "count 1 = 0", "trip 0 up | trip 1 up | close 0", "count 1 = 2");
        reading.says("2 SALES,", "count 2 = 0", "type 1 1 | issue 0 0 0 9 | trip 0 up",
                "3 x sell 0 0 0 | undo", "count 2 = 2", "close 0", "count 2 = 2");
        reading.says("3 OPEN TRIPS,", "count 3 = 0", "trip 0 up | trip 1 up | close 0",
                "count 3 = 1");
        reading.says("4 DUTIES,", "count 4 = 0", "duty 0 1 | duty 100 101 | duty 5 6",
                "count 4 = 3");
        reading.says("5 laws told,", "count 5 = 0", "tape 'fare 1 1;work 1 2 3;change 4;'",
                "count 5 = 0", "laws = 3", "count 5 = 3");
        reading.says("6 CELLS of SHEET 0", "sheet 1 0 9", "sheet 0 0 5", "count 6 = 5",
                "sheet 0 0 0", "count 6 = 0");
        reading.says("(NONE: nothing),", "count 6 = -4", "sheet 1 0 9", "count 6 = -4");
        reading.says("7 bytes on THE TAPE.", "count 7 = 0", "feed 0", "count 7 = 8", "end 3",
                "count 7 = 3");
        reading.says("BAD.", "! count -1 = -1", "! count 8 = -1", "! count MIN = -1");
    }

    private static void notPromised() {
        reading.head("## Not promised");
        reading.passes("How the state is held inside the object is free, as are the speed of each"
                + " call, the text of toString and the behaviour of equals and hashCode. Use of one"
                + " object from several threads at once is not promised to be safe. Nothing is"
                + " promised beyond the answers and state changes described above, and nothing"
                + " about an object after its 512th call.");
    }
}
