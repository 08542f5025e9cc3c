/** Promises 26 to 31, sentence by sentence: duties, rests, crews, counts. */
final class EdgesOfDutiesTest {
    public static void main(String[] args) {
        dutyBounds();
        dutyFull();
        rest();
        crewBounds();
        crewOrder();
        crewRest();
        crews();
        crewsMost();
        illBounds();
        illRest();
        illOthers();
        countBounds();
        countTickets();
        countOthers();
        lastCall();
        Check.finish();
    }

    private static void dutyBounds() {
        Script.holds("Promise 26: BAD: a minute is 0 to 1440: where it begins",
                "! duty -1 5 = -1", "duty 0 5 = 0", "duty 1439 1440 = 1", "! duty 1440 1440 = -1",
                "! duty 1440 1441 = -1", "! duty 1441 1442 = -1", "! duty MIN 5 = -1",
                "! duty MAX 5 = -1", "! duty MAX MIN = -1");
        Script.holds("Promise 26: BAD: a minute is 0 to 1440: where it ends", "duty 5 1440 = 0",
                "! duty 5 1441 = -1", "! duty 5 MAX = -1", "duty 0 1 = 1", "! duty 0 0 = -1",
                "! duty 0 -1 = -1", "! duty 0 MIN = -1", "! duty -2 -1 = -1");
        Script.holds("Promise 26: BAD: to a later one: by 1, the same, an earlier one",
                "duty 100 101 = 0", "! duty 100 100 = -1", "! duty 100 99 = -1",
                "! duty 100 0 = -1", "! duty 0 0 = -1", "duty 0 1440 = 1");
        Script.holds("Terms 3: DUTIES are numbered as they come, not as they begin",
                "duty 500 600 = 0", "duty 100 200 = 1", "duty 100 200 = 2", "count 4 = 3");
    }

    private static void dutyFull() {
        Script.holds("Promise 26: FULL, of 10 DUTIES", "9 x duty 0 1", "duty 0 1 = 9",
                "! duty 0 1 = -3", "! duty 1439 1440 = -3", "count 4 = 10", "crew 9 = 9");
        Script.holds("Promise 26: BAD ahead of FULL", "10 x duty 0 1", "! duty 1 1 = -1",
                "! duty -1 1 = -1", "! duty 0 1441 = -1", "! duty 0 1 = -3");
        Script.holds("Terms: there is no such DUTY: the last of 10, and one beyond",
                "9 x duty 0 1", "! crew 9 = -1", "duty 1 2", "! crew 9 = 9", "! crew 10 = -1");
    }

    private static void rest() {
        Script.holds("Promise 27: BAD: REST is 0 to 600", "! rest -1 = -1", "rest 0 = 30",
                "rest 600 = 0", "! rest 601 = -1", "! rest MIN = -1", "! rest MAX = -1",
                "rest 1 = 600");
        Script.holds("Promise 27: what it was: 30 at first, the same again", "rest 30 = 30",
                "rest 30 = 30", "rest 31 = 30", "rest 0 = 31");
        Script.holds("Promise 27: it holds for DUTIES ahead of it and behind it",
                "duty 0 10 | duty 20 30", "crews 0 = 2", "rest 10", "crews 0 = 1", "duty 40 50",
                "crews 0 = 1", "duty 59 60", "crews 0 = 2", "rest 600", "crews 0 = 4");
        Script.holds("Promise 27: REST 600 between DUTIES", "rest 600 | duty 0 100 | duty 700 800",
                "crews 0 = 1", "duty 1399 1440", "crews 0 = 2", "crew 2 = 1");
    }

    private static void crewBounds() {
        Script.holds("Promise 28: BAD: no such DUTY", "! crew 0 = -1", "duty 0 1 | duty 0 1",
                "! crew -1 = -1", "! crew 0 = 0", "! crew 1 = 1", "! crew 2 = -1",
                "! crew MIN = -1", "! crew MAX = -1");
        Script.holds("Promise 28: one DUTY has CREW 0", "duty 0 1440", "crew 0 = 0",
                "crews 0 = 1");
    }

    private static void crewOrder() {
        Script.holds("Terms 3: in the order in which they begin",
                "duty 100 300 | duty 50 400 | duty 0 600", "crew 2 = 0", "crew 1 = 1",
                "crew 0 = 2", "duty 0 1", "crew 2 = 0", "crew 3 = 1", "crew 1 = 1", "crew 0 = 2");
        Script.holds("Terms 3: by 1 minute", "duty 101 300 | duty 100 300", "crew 1 = 0",
                "crew 0 = 1");
        Script.holds("Terms 3: of like ones the least number ahead",
                "duty 100 300 | duty 100 200 | duty 100 400", "crew 0 = 0", "crew 1 = 1",
                "crew 2 = 2", "duty 230 240", "crew 3 = 1");
        Script.holds("Terms 3: the end does not matter for the order",
                "duty 100 900 | duty 100 101 | duty 99 1000", "crew 2 = 0", "crew 0 = 1",
                "crew 1 = 2");
        Script.holds("Terms 3: ten CREWS, from 0 on", "rest 0", "10 x duty 5 6", "crew 0 = 0",
                "crew 1 = 1", "crew 2 = 2", "crew 3 = 3", "crew 4 = 4", "crew 5 = 5",
                "crew 6 = 6", "crew 7 = 7", "crew 8 = 8", "crew 9 = 9", "crews 0 = 10",
                "ill 9 = 1", "ill 10 = -1");
    }

    private static void crewRest() {
        Script.holds("Terms 3: ended REST minutes ahead of it at least: 30, 29",
                "duty 0 100 | duty 130 140", "crew 1 = 0", "crews 0 = 1", "duty 169 170",
                "crew 2 = 1", "crews 0 = 2");
        Script.holds("Terms 3: REST 0: one ends as the other begins, a minute later",
                "rest 0 | duty 0 100 | duty 100 200", "crew 1 = 0", "duty 199 300", "crew 2 = 1");
        Script.holds("Terms 3: REST 1", "rest 1 | duty 0 100 | duty 100 200", "crew 1 = 1",
                "duty 101 102", "crew 2 = 0");
        Script.holds("Terms 3: the least CREW of several that have rested",
                "duty 0 100 | duty 0 50 | duty 0 60", "duty 130 140", "crew 3 = 0", "duty 131 140",
                "crew 4 = 1", "duty 132 140", "crew 5 = 2", "duty 133 140", "crew 6 = 3");
        Script.holds("Terms 3: the least CREW that has rested, not the longest rested",
                "duty 0 100 | duty 0 20", "duty 90 95", "crew 2 = 1", "duty 140 150",
                "crew 3 = 0");
        Script.holds("Terms 3: whose latest DUTY ended, not its first one",
                "duty 0 10 | duty 40 200 | duty 100 110", "crew 1 = 0", "crew 2 = 1",
                "duty 229 300", "crew 3 = 1", "duty 230 300", "crew 4 = 0");
        Script.holds("Terms 3: a CREW that is free again ahead of a new one", "rest 0",
                "9 x duty 0 10", "duty 10 20", "crew 9 = 0", "crews 0 = 9");
    }

    private static void crews() {
        Script.holds("Promise 29: BAD: what is 0 to 2", "duty 0 50", "! crews -1 = -1",
                "! crews 0 = 1", "! crews 1 = 50", "! crews 2 = 0", "! crews 3 = -1",
                "! crews MIN = -1", "! crews MAX = -1");
        Script.holds("Promise 29: no DUTY: 0 CREWS, 0 minutes, NONE has them", "! crews 0 = 0",
                "! crews 1 = 0", "! crews 2 = -4", "! crews 3 = -1");
        Script.holds("Promise 29: no DUTY, whatever the REST", "rest 5 = 30", "! crews 0 = 0",
                "! crews 1 = 0", "! crews 2 = -4", "! ill 0 = -1", "! crew 0 = -1");
        Script.holds("Promise 29: one DUTY: of 1 minute, of all", "duty 0 1", "crews 0 = 1",
                "crews 1 = 1", "crews 2 = 0", "duty 0 1440", "crews 0 = 2", "crews 1 = 1440",
                "crews 2 = 1");
    }

    private static void crewsMost() {
        Script.holds("Promise 29: the CREW that has them, the least of several",
                "duty 0 50 | duty 0 50 | duty 0 50", "crews 1 = 50", "crews 2 = 0");
        Script.holds("Promise 29: the least of several, behind one that has fewer",
                "duty 0 49 | duty 0 50 | duty 0 50", "crews 1 = 50", "crews 2 = 1");
        Script.holds("Promise 29: one minute more", "duty 0 50 | duty 0 51 | duty 0 50",
                "crews 1 = 51", "crews 2 = 1", "duty 80 81", "crew 3 = 0", "crews 1 = 51",
                "crews 2 = 0");
        Script.holds("Promise 29: the minutes of all its DUTIES, without REST",
                "duty 0 10 | duty 40 50 | duty 0 25 | duty 80 86", "crew 1 = 0", "crew 2 = 1",
                "crew 3 = 0", "crews 1 = 26", "crews 2 = 0");
        Script.holds("Promise 29: the tenth CREW has them", "9 x duty 0 10", "duty 0 11",
                "crews 1 = 11", "crews 2 = 9");
    }

    private static void illBounds() {
        Script.holds("Promise 30: BAD: no such CREW", "! ill 0 = -1", "duty 0 1 | duty 0 1",
                "! ill -1 = -1", "! ill 0 = 1", "! ill 1 = 1", "! ill 2 = -1", "! ill MIN = -1",
                "! ill MAX = -1");
        Script.holds("Promise 30: CREWS are fewer than DUTIES", "rest 0 | duty 0 1 | duty 1 2",
                "! ill 0 = 2", "! ill 1 = -1");
        Script.holds("Promise 30: there is no other one", "duty 0 1", "ill 0 = 1",
                "duty 100 200 | duty 300 400", "crews 0 = 1", "ill 0 = 3");
    }

    private static void illRest() {
        Script.holds("Promise 30: with REST ahead: 30, 29", "duty 0 100 | duty 50 170",
                "duty 200 300", "crew 1 = 1", "crew 2 = 0", "ill 0 = 1");
        Script.holds("Promise 30: with REST ahead: 29", "duty 0 100 | duty 50 171",
                "duty 200 300", "crew 1 = 1", "crew 2 = 0", "ill 0 = 2");
        Script.holds("Promise 30: with REST behind: 30", "duty 0 20 | duty 50 100 | duty 50 60",
                "crew 0 = 0", "crew 1 = 0", "crew 2 = 1", "ill 0 = 1");
        Script.holds("Promise 30: with REST behind: 29", "duty 0 20 | duty 50 100 | duty 49 60",
                "crew 0 = 0", "crew 2 = 1", "crew 1 = 0", "ill 0 = 2", "ill 1 = 1");
        Script.holds("Promise 30: with more than REST behind",
                "duty 0 20 | duty 50 100 | duty 60 70", "crew 1 = 0", "crew 2 = 1", "ill 0 = 1",
                "ill 1 = 1");
        Script.holds("Promise 30: with more than REST ahead",
                "duty 0 100 | duty 50 60 | duty 200 300", "crew 1 = 1", "crew 2 = 0", "ill 0 = 1",
                "ill 1 = 1");
        Script.holds("Promise 30: with REST 0 ahead and behind",
                "rest 0 | duty 0 10 | duty 5 20 | duty 20 30 | duty 30 40 | duty 29 35",
                "crew 0 = 0", "crew 1 = 1", "crew 2 = 0", "crew 4 = 1", "crew 3 = 0",
                "ill 0 = 3", "ill 1 = 2");
        Script.holds("Promise 30: with REST 0: one DUTY fits exactly between two",
                "rest 0 | duty 0 10 | duty 5 20 | duty 20 30 | duty 30 40 | duty 30 35",
                "crew 2 = 0", "crew 3 = 0", "crew 4 = 1", "ill 0 = 2", "ill 1 = 2");
    }

    private static void illOthers() {
        Script.holds("Promise 30: each alone: one other has room for each, not for both",
                "rest 0 | duty 0 100 | duty 0 50 | duty 100 200 | duty 200 300", "crew 2 = 0",
                "crew 3 = 0", "ill 0 = 1", "ill 1 = 1");
        Script.holds("Promise 30: any other one: the last CREW alone could",
                "rest 0 | duty 0 100 | duty 10 200 | duty 20 30 | duty 100 150", "crew 2 = 2",
                "crew 3 = 0", "ill 0 = 1", "ill 1 = 1", "ill 2 = 1");
        Script.holds("Promise 30: of 10 DUTIES",
                "rest 0 | duty 0 100 | duty 0 50 | duty 100 200 | 7 x duty 0 10", "crew 2 = 0",
                "crews 0 = 9", "ill 0 = 1", "ill 1 = 1", "ill 8 = 1", "ill 9 = -1");
        Script.holds("Promise 30: as they are told: the DUTIES of the ill CREW stay its own",
                "rest 0 | duty 0 10 | duty 0 10 | duty 10 20 | duty 10 20", "crew 2 = 0",
                "crew 3 = 1", "ill 0 = 2", "ill 1 = 2");
    }

    private static void countBounds() {
        Script.holds("Promise 31: BAD: what is 0 to 7", "feed 0", "! count -1 = -1",
                "! count 0 = 0", "! count 7 = 8", "! count 8 = -1", "! count MIN = -1",
                "! count MAX = -1");
    }

    private static void countTickets() {
        Script.holds("Promise 31: 0 TYPES: 0 to 5", "count 0 = 0", "type 1 1", "count 0 = 1",
                "4 x type 1 1", "count 0 = 5");
        Script.holds("Promise 31: 1 TRIPS: closed ones too; 3 OPEN TRIPS: closed ones not",
                "count 1 = 0", "count 3 = 0", "trip 0 up", "count 1 = 1", "count 3 = 1",
                "close 0", "count 1 = 1", "count 3 = 0", "trip 0 up | trip 1 down | trip 2 up",
                "count 1 = 4", "count 3 = 3");
        Script.holds("Promise 31: 2 SALES: 0 to 200, undone ones not, on closed TRIPS too",
                "type 1 1 | issue 0 0 0 300 | trip 0 up", "count 2 = 0", "sell 0 0 0",
                "count 2 = 1", "undo", "count 2 = 0", "200 x sell 0 0 0", "count 2 = 200",
                "close 0", "count 2 = 200");
    }

    private static void countOthers() {
        Script.holds("Promise 31: 4 DUTIES: 0 to 10", "count 4 = 0", "duty 0 1", "count 4 = 1",
                "9 x duty 0 1", "count 4 = 10");
        Script.holds("Promise 31: 5 laws told: fares, works, a change", "count 5 = 0",
                "tape 'change 0;' | laws = 1", "count 5 = 1", "tape 'work 0 1 0;' | laws = 1",
                "count 5 = 1", "tape 'fare 1 1;work 0 1 0;fare 2 2;change 5;' | laws = 4",
                "count 5 = 4", "tape '' | laws = 0", "count 5 = 0");
        Script.holds("Promise 31: 6 CELLS of SHEET 0: NONE: nothing; 0; 64", "count 6 = -4",
                "sheet 1 0 5", "count 6 = -4", "sheet 0 0 0", "count 6 = 0", "sheet 0 1 64",
                "count 6 = 64", "sheet 3 1 7", "count 6 = 64");
        Script.holds("Promise 31: 7 bytes on THE TAPE: 0 to 200", "count 7 = 0", "feed 0",
                "count 7 = 8", "end 1", "count 7 = 1", "24 x feed 0", "count 7 = 193", "end 192",
                "feed 0", "count 7 = 200", "laws = -10", "count 7 = 0");
    }

    private static void lastCall() {
        Script.holds("What it is: an object is used for at most 512 calls: up to the 512th",
                "type 1 1 | issue 0 0 7 1 | trip 0 up" + " | sell 0 0 4 = 7 | undo = 0".repeat(254),
                "pack 0 0 1 = 1");
        Script.holds("What it is: refused up to the 512th call", "type 1 1 | 511 x trip 6 up = -1");
    }
}
