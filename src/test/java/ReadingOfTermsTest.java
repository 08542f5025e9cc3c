import java.nio.charset.StandardCharsets;
import java.nio.file.Files;
import java.nio.file.Path;
import java.util.regex.Matcher;
import java.util.regex.Pattern;

/** The document from its first line to its first promise: each sentence, and calls that show it. */
final class ReadingOfTermsTest {
    private static final String SOURCE = "src/main/java/TramPence.java";
    /** TYPES 0 of 3 pence and 2 SECTIONS, 1 of 9 SECTIONS; trips 0 up, of 0, and 1 down, of 1. */
    private static final String TRIPS = "type 3 2 | type 5 9 | issue 0 0 100 50 | issue 1 0 200 50"
            + " | issue 0 1 300 50 | issue 1 1 400 50 | trip 0 up | trip 1 down";

    private static Reading reading;
    private static String source;

    public static void main(String[] args) throws Exception {
        reading = new Reading("# TramPence", "## Promise 1: A new object");
        source = Reading.plain(Files.readString(Path.of(SOURCE), StandardCharsets.US_ASCII));
        whatItIs();
        face();
        answers();
        refused();
        typesAndPacks();
        trips();
        sales();
        tickets();
        sheets();
        tape();
        tokens();
        laws();
        faults();
        laterFaults();
        fares();
        duties();
        interfaceSays();
        reading.finish();
    }

    private static void whatItIs() {
        reading.head("# TramPence");
        reading.head("## What it is");
        reading.says("Tram pence: conductors with packs of numbered tickets,", "type 3 2 = 0",
                "issue 0 0 100 2 = 0", "pack 0 0 0 = 100", "pack 0 0 1 = 2");
        reading.says("sold by stages on trips,", TRIPS, "sell 0 0 4 = 100", "sell 1 0 4 = 200");
        reading.says("waybills whose sums are the numbers' worth,", TRIPS, "sell 0 0 4 | sell 0 1 4",
                "sell 0 0 5", "waybill 0 0 0 = 2", "waybill 0 1 0 = 1", "money 0 = 11",
                "close 0 = 11");
        reading.says("who can have been aboard where,", TRIPS, "sell 0 0 4", "aboard 0 4 0 = 1",
                "aboard 0 5 0 = 0", "aboard 0 5 1 = 1", "aboard 0 6 1 = 0");
        reading.says("tickets shown to inspectors,", TRIPS, "sell 0 0 4 = 100", "shown 0 4 0 100 = 0",
                "shown 0 6 0 100 = 4");
        reading.says("heads beyond what can be;", TRIPS, "sell 0 0 4", "heads 0 5 3 = 2");
        reading.says("fares told in a text,", "tape 'fare 4 7;'", "laws = 1", "fare 4 0 = 7");
        reading.says("workmen's hours,", "tape 'fare 4 8; work 5 8 50;'", "laws = 2",
                "fare 4 299 = 8", "fare 4 300 = 4", "fare 4 479 = 4", "fare 4 480 = 8");
        reading.says("changes;", "tape 'change 20;'", "laws = 1", "change 600 620 = 1",
                "change 600 621 = 0");
        reading.says("duties of crews by rests;", "duty 0 100 | duty 129 200 | duty 130 200",
                "crew 0 = 0", "crew 1 = 1", "crew 2 = 0");
        reading.says("sheets of sales whose faults the machine finds;", TRIPS, "sheet 0 0 4 = 1",
                "scan 0 0 0 0 2 = 2", "scan 0 0 0 0 3 = -12", "scan 0 0 1 0 2 = -13",
                "scan 0 1 1 0 2 = -11", "sheet 0 0 -1 = -14");
        reading.says("the latest sales undone.", TRIPS, "sell 0 0 4 = 100 | sell 0 0 4 = 101",
                "undo = 1", "undo = 0", "sell 0 0 0 = 100");
        reading.says("An object is used for at most 512 calls after it has been made;"
                + " what later calls answer is free.", "type 1 1 = 0 | type 1 1 = 1",
                "508 x count 0 = 2", "type 1 1 = 2 | count 0 = 3");
    }

    private static void face() {
        reading.head("## The public face");
        reading.passes("```java");
        inSource("public final class TramPence {");
        inSource("public static final int BAD = -1, STATE = -2, FULL = -3, NONE = -4;");
        Check.holds("the constants", TramPence.BAD == -1 && TramPence.STATE == -2
                && TramPence.FULL == -3 && TramPence.NONE == -4);
        String[] calls = {"public TramPence()", "public int type(int price, int span)",
            "public int issue(int c, int type, int from, int n)",
            "public int pack(int c, int type, int what)", "public int trip(int c, boolean up)",
            "public int close(int t)", "public int sell(int t, int type, int stage)",
            "public int undo()", "public int sheet(int k, int lane, int n)",
            "public int lay(int k, int i, int v)",
            "public int scan(int t, int k, int lane, int f, int n)",
            "public int waybill(int t, int type, int what)", "public int money(int t)",
            "public int paid(int c, int pence)", "public int aboard(int t, int section, int what)",
            "public int riders(boolean up, int section, int what)",
            "public int shown(int t, int section, int type, int number)",
            "public int heads(int t, int section, int n)", "public int gap(int type)",
            "public int feed(long v)", "public int end(int n)", "public int laws()",
            "public int fault()", "public int fare(int n, int minute)",
            "public int change(int from, int to)", "public int duty(int from, int to)",
            "public int rest(int minutes)", "public int crew(int d)", "public int crews(int what)",
            "public int ill(int crew)", "public int count(int what)"};
        int behind = 0;
        for (String call : calls) {
            reading.named(call + ";");
            int at = source.indexOf(" " + call + " {");
            Check.holds(call + " stands there, behind the ones ahead of it", at > behind);
            behind = at;
        }
        reading.passes("} ```");
    }

    private static void inSource(String words) {
        reading.named(words);
        int at = source.indexOf(words);
        Check.holds(words + " stands there once", at >= 0 && at == source.lastIndexOf(words));
    }

    private static void answers() {
        reading.head("## Terms");
        reading.says("Answers: BAD -1 (a number is not as told,", "type 61 1 = -1", "type 60 1 = 0",
                "trip 6 up = -1", "rest 601 = -1", "duty 5 5 = -1", "count 8 = -1");
        reading.says("there is no such TYPE,", "type 1 1 | issue 0 0 0 5 | trip 0 up",
                "issue 0 1 0 1 = -1", "pack 0 1 0 = -1", "sell 0 1 0 = -1", "waybill 0 1 0 = -1",
                "shown 0 0 1 0 = -1", "gap 1 = -1", "type 1 1", "issue 0 1 0 1 = 0",
                "pack 0 1 0 = 0", "sell 0 1 0 = 0", "waybill 0 1 0 = 1", "shown 0 0 1 0 = 0",
                "gap 1 = -4");
        reading.says("CONDUCTOR,", "type 1 1", "issue 6 0 0 1 = -1", "pack 6 0 1 = -1",
                "trip 6 up = -1", "paid 6 0 = -1000000", "issue 5 0 0 1 = 0", "pack 5 0 1 = 1",
                "trip 5 up = 0", "paid 5 0 = 0");
        reading.says("TRIP,", "type 1 1 | issue 0 0 0 5 | trip 1 up | sheet 0 0 2", "close 1 = -1",
                "sell 1 0 0 = -1", "scan 1 0 0 0 1 = -1", "waybill 1 0 0 = -1", "money 1 = -1",
                "aboard 1 0 0 = -1", "shown 1 0 0 0 = -1", "heads 1 0 0 = -1000000", "trip 0 up",
                "sell 1 0 0 = 0", "scan 1 0 0 0 1 = 1", "waybill 1 0 0 = 2", "money 1 = 2",
                "aboard 1 0 0 = 2", "shown 1 0 0 0 = 0", "heads 1 0 2 = 0", "close 1 = 2");
        reading.says("DUTY,", "crew 0 = -1", "duty 0 1", "crew 0 = 0", "crew 1 = -1");
        reading.says("SHEET),", "type 1 1 | issue 0 0 0 5 | trip 0 up", "sheet 4 0 2 = -1",
                "lay 4 0 0 = -1", "scan 0 4 0 0 1 = -1", "sheet 3 0 2 = 1", "lay 3 0 0 = 1",
                "scan 0 3 0 0 1 = 1");
        reading.says("STATE -2 (as told),", TRIPS, "trip 0 up = -2", "issue 1 0 100 1 = -2",
                "close 0 = 0", "close 0 = -2", "sell 0 0 0 = -2", "sell 1 0 4 = 200", "close 1 = 3",
                "undo = -2");
        reading.says("FULL -3,", "5 x type 1 1", "type 1 1 = -3", "25 x feed 0", "feed 0 = -3",
                "10 x duty 0 1", "duty 0 1 = -3");
        reading.says("NONE -4 (there is none),", "undo = -4", "crews 2 = -4", "fare 1 0 = -4",
                "count 6 = -4", "type 1 1 | trip 0 up", "pack 0 0 0 = -4", "waybill 0 0 1 = -4",
                "waybill 0 0 2 = -4", "gap 0 = -4", "sell 0 0 0 = -4");
        reading.says("the first that fits;", "type 1 1 | issue 0 0 0 200 | trip 0 up",
                "200 x sell 0 0 4", "sell 0 0 10 = -1", "sell 0 0 3 = -2", "sell 0 0 4 = -3",
                "undo = 199", "issue 0 0 900 0", "sell 0 0 4 = -4", "sell 0 0 9 = -2");
    }

    private static void refused() {
        reading.says("what is refused changes nothing (but THE TAPE, as told).", TRIPS,
                "sell 0 0 4 | sell 1 1 6 | sheet 0 0 4 | lay 0 1 3 | duty 0 100 | rest 20",
                "tape 'fare 2 9; change 4;' | laws = 2 | tape 'fare'", "! type 61 1 = -1",
                "! issue 1 0 100 5 = -2", "! pack 2 0 0 = -4", "! trip 0 down = -2",
                "! close 2 = -1", "! sell 0 0 3 = -2", "! sheet 0 0 65 = -1",
                "! sheet 0 0 -1 = -14", "! lay 0 4 0 = -12", "! lay 1 0 0 = -11",
                "! scan 0 0 0 0 2 = -22", "! scan 1 0 1 0 1 = -13", "! end 5 = -1",
                "! duty 5 5 = -1", "! rest 601 = -1", "count 7 = 4", "laws = -14", "count 7 = 0",
                "fault = 2", "count 5 = 2", "fare 2 0 = 9", "change 0 4 = 1");
    }

    private static void typesAndPacks() {
        reading.says("======== 1 STAGES 0 to 9,", TRIPS, "sell 0 0 -1 = -1", "sell 0 0 0 = 100",
                "sell 0 0 8 = 101", "sell 0 0 9 = -2", "sell 0 0 10 = -1", "sell 1 0 10 = -1",
                "sell 1 0 9 = 200", "sell 1 0 1 = 201", "sell 1 0 0 = -2", "sell 1 0 -1 = -1");
        reading.says("SECTIONS 0 to 8:", TRIPS, "sell 0 1 0 = 300", "aboard 0 -1 1 = -1",
                "aboard 0 0 1 = 1", "aboard 0 8 1 = 1", "aboard 0 9 1 = -1", "riders up 8 1 = 1",
                "riders up 9 1 = -1", "shown 0 8 1 300 = 0", "shown 0 9 1 300 = -1",
                "heads 0 8 1 = 0", "heads 0 9 1 = -1000000");
        reading.says("SECTION k lies between STAGES k and k + 1.", "type 1 1 | issue 0 0 0 20",
                "issue 1 0 20 20 | trip 0 up | trip 1 down", eachSection());
        reading.says("TYPES (5) of tickets are numbered as they come,", "type 1 1 = 0",
                "type 1 1 = 1", "type 9 9 = 2", "type 5 5 = 3", "type 1 1 = 4", "type 1 1 = -3");
        reading.says("each with a PRICE (1 to 60)", "type 0 1 = -1", "type 1 1 = 0",
                "type 60 1 = 1", "type 61 1 = -1", "issue 0 0 0 5 | issue 0 1 0 5 | trip 0 up",
                "sell 0 0 0", "money 0 = 1", "sell 0 1 0", "money 0 = 61");
        reading.says("and a SPAN (1 to 9).", "type 1 0 = -1", "type 1 1 = 0", "type 1 9 = 1",
                "type 1 10 = -1", "issue 0 0 0 5 | issue 0 1 0 5 | trip 0 up", "sell 0 0 0",
                "aboard 0 0 1 = 1", "aboard 0 1 1 = 0", "sell 0 1 0", "aboard 0 8 1 = 1");
        reading.says("CONDUCTORS 0 to 5;", "trip -1 up = -1", "trip 0 up = 0", "trip 1 up = 1",
                "trip 2 up = 2", "trip 3 up = 3", "trip 4 up = 4", "trip 5 up = 5",
                "trip 6 up = -1");
        reading.says("each has a PACK of each TYPE:", "type 1 1 | type 1 1 | issue 0 0 10 1",
                "issue 0 1 20 2 | issue 1 0 30 3 | issue 1 1 40 4", "pack 0 0 0 = 10",
                "pack 0 1 0 = 20", "pack 1 0 0 = 30", "pack 1 1 0 = 40", "pack 0 0 1 = 1",
                "pack 0 1 1 = 2", "pack 1 0 1 = 3", "pack 1 1 1 = 4");
        reading.says("NUMBERS from NEXT up to, not with, END", "type 1 1 | issue 0 0 7 2",
                "trip 0 up", "issue 1 0 8 1 = -2", "issue 1 0 9 1 = 0", "pack 0 0 0 = 7",
                "sell 0 0 0 = 7", "pack 0 0 0 = 8", "sell 0 0 0 = 8", "sell 0 0 0 = -4");
        reading.says("(0, 0 at first;", "type 1 1 | trip 0 up", "pack 0 0 0 = -4", "pack 0 0 1 = 0",
                "sell 0 0 0 = -4", "issue 1 0 0 1 = 0", "issue 0 0 5 1 = 0");
        reading.says("issued empty: both as told).", "type 1 1 | issue 0 0 7 1 | trip 0 up",
                "sell 0 0 0 = 7", "issue 0 0 9 0 = 0", "pack 0 0 0 = -4", "undo = -2",
                "issue 0 0 8 0 = 0", "pack 0 0 1 = 0", "undo = 0", "pack 0 0 0 = 7",
                "pack 0 0 1 = 1");
    }

    /** A ticket of one SECTION, for each: UP from its first STAGE on, DOWN from its other one. */
    private static String eachSection() {
        StringBuilder calls = new StringBuilder();
        for (int k = 0; k <= 8; k++) {
            calls.append("sell 0 0 " + k + " | aboard 0 " + k + " 0 = 1 | ");
        }
        for (int k = 8; k >= 0; k--) {
            calls.append("sell 1 0 " + (k + 1) + " | aboard 1 " + k + " 0 = 1 | ");
        }
        for (int k = 0; k <= 8; k++) {
            calls.append("aboard 0 " + k + " 1 = 1 | aboard 1 " + k + " 1 = 1 | ");
        }
        return calls + "count 2 = 18";
    }

    private static void trips() {
        StringBuilder sixteen = new StringBuilder();
        for (int t = 0; t < 16; t++) {
            sixteen.append("trip " + t % 3 + " up = " + t + " | close " + t + " | ");
        }
        reading.says("TRIPS (16) are numbered as they come,", sixteen + "trip 0 up = -3");
        reading.says("each of a CONDUCTOR,", TRIPS, "sell 0 0 4 = 100", "sell 1 0 4 = 200",
                "pack 0 0 0 = 101", "pack 1 0 0 = 201", "close 1 = 3", "paid 1 0 = -3",
                "paid 0 0 = 0");
        reading.says("UP (from STAGE 0 to 9) or DOWN,", TRIPS, "sell 0 0 3 = 100",
                "sell 0 0 4 = 101", "sell 0 0 3 = -2", "sell 1 0 4 = 200", "sell 1 0 3 = 201",
                "sell 1 0 4 = -2");
        reading.says("OPEN till it is closed;", TRIPS, "count 3 = 2", "sell 0 0 0", "close 0 = 3",
                "count 3 = 1", "sell 0 0 0 = -2", "close 0 = -2");
        reading.says("a CONDUCTOR has one OPEN at most.", "trip 0 up = 0", "trip 0 up = -2",
                "trip 0 down = -2", "trip 1 up = 1", "close 0", "trip 0 down = 2",
                "trip 0 up = -2");
        reading.passes("```text");
    }

    private static void sales() {
        reading.says("A SALE on an OPEN TRIP,", TRIPS, "sell 0 0 0 = 100", "close 0",
                "sell 0 0 0 = -2");
        reading.says("of a TYPE,", TRIPS, "sell 0 0 0 = 100", "sell 0 1 0 = 300",
                "waybill 0 0 0 = 1", "waybill 0 1 0 = 1", "money 0 = 8");
        reading.says("at a STAGE:", TRIPS, "sell 0 0 4", "aboard 0 3 0 = 0", "aboard 0 4 0 = 1",
                "aboard 0 5 0 = 0");
        reading.says("the NEXT ticket of its CONDUCTOR's PACK;", TRIPS, "pack 0 0 0 = 100",
                "sell 0 0 4 = 100", "pack 0 0 0 = 101", "pack 0 0 1 = 49", "sell 0 0 4 = 101",
                "sell 1 0 4 = 200");
        reading.says("it is good on the SPAN SECTIONS that come next from its STAGE on"
                + " (UP: STAGE and above;", TRIPS, "sell 0 0 4 = 100", "shown 0 3 0 100 = 3",
                "shown 0 4 0 100 = 0", "shown 0 5 0 100 = 0", "shown 0 6 0 100 = 4",
                "sell 1 0 4 = 200", "shown 1 4 0 200 = 3", "shown 1 3 0 200 = 0",
                "shown 1 2 0 200 = 0", "shown 1 1 0 200 = 4");
        reading.says("fewer at the end).", TRIPS, "sell 0 0 8 | sell 0 1 8", "aboard 0 8 1 = 2",
                "aboard 0 7 1 = 0", "aboard 0 0 1 = 0", "sell 1 1 2", "aboard 1 2 1 = 0",
                "aboard 1 1 1 = 1", "aboard 1 0 1 = 1", "aboard 1 8 1 = 0");
        reading.says("SALES (200 at most)", "type 1 1 | issue 0 0 0 300 | issue 1 0 500 300",
                "trip 0 up | trip 1 down", "150 x sell 0 0 0", "50 x sell 1 0 9",
                "sell 0 0 0 = -3", "sell 1 0 9 = -3", "count 2 = 200");
        reading.says("come at STAGES in the order of the TRIP:", TRIPS,
                "sell 0 0 2 | sell 0 0 2 | sell 0 0 5 | sell 0 0 8",
                "sell 1 0 9 | sell 1 0 5 | sell 1 0 5 | sell 1 0 1");
        reading.says("none at one that lies behind the latest one.", TRIPS, "sell 0 0 5",
                "sell 0 0 4 = -2", "sell 0 0 0 = -2", "sell 0 0 5 = 101", "sell 1 0 5",
                "sell 1 0 6 = -2", "sell 1 0 9 = -2", "sell 1 0 5 = 201");
    }

    private static void tickets() {
        reading.says("A TICKET is a TYPE with a NUMBER that was sold;", "type 1 1 | type 1 1",
                "issue 0 0 7 2 | issue 1 1 7 2 | trip 0 up | trip 1 up", "sell 0 0 0 = 7",
                "shown 0 0 0 7 = 0", "shown 0 0 1 7 = 1", "sell 1 1 0 = 7", "shown 0 0 1 7 = 2",
                "shown 1 0 1 7 = 0", "shown 1 0 0 7 = 2", "shown 0 0 0 8 = 1");
        reading.says("each was sold once.", "type 1 1 | issue 0 0 7 2 | trip 0 up",
                "sell 0 0 0 = 7", "issue 0 0 7 1 = -2", "issue 1 0 7 1 = -2", "issue 0 0 8 1 = 1",
                "sell 0 0 0 = 8", "issue 0 0 8 1 = -2");
        reading.says("The rider gets in at its STAGE,", TRIPS, "sell 0 1 4 = 300",
                "aboard 0 3 1 = 0", "aboard 0 4 0 = 1", "aboard 0 4 1 = 1", "shown 0 3 1 300 = 3",
                "shown 0 4 1 300 = 0");
        reading.says("and out at a later one as far as it is good (not told which).", TRIPS,
                "sell 0 0 4", "aboard 0 4 0 = 1", "aboard 0 4 1 = 1", "aboard 0 5 0 = 0",
                "aboard 0 5 1 = 1", "aboard 0 6 1 = 0", "heads 0 4 0 = -1", "heads 0 5 0 = 0",
                "heads 0 5 1 = 0", "heads 0 6 1 = 1");
        reading.says("ABOARD in a SECTION: MOST: all whose tickets are good there.", TRIPS,
                "sell 0 0 3 | sell 0 1 3 | sell 0 0 4 | sell 0 0 5", "aboard 0 4 1 = 3",
                "aboard 0 5 1 = 3", "aboard 0 6 1 = 2", "aboard 0 7 1 = 1");
        reading.says("LEAST: those who got in at its first STAGE (in the order of the TRIP).",
                TRIPS, "sell 0 0 3 | sell 0 1 3 | sell 0 0 4", "aboard 0 3 0 = 2",
                "aboard 0 4 0 = 1", "aboard 0 5 0 = 0", "sell 1 0 4 | sell 1 1 4 | sell 1 1 3",
                "aboard 1 3 0 = 2", "aboard 1 2 0 = 1", "aboard 1 4 0 = 0");
    }

    private static void sheets() {
        String trip = "type 1 1 | issue 0 0 0 50 | trip 0 up";
        reading.says("SHEETS 0 to 3", "sheet -1 0 1 = -1", "sheet 0 0 1 = 1", "sheet 1 0 1 = 1",
                "sheet 2 0 1 = 1", "sheet 3 0 1 = 1", "sheet 4 0 1 = -1");
        reading.says("are rows of BYTES (lane 0),", trip, "sheet 0 0 2 | lay 0 0 256",
                "scan 0 0 0 0 1 = 1", "lay 0 0 255", "scan 0 0 0 0 1 = -21");
        reading.says("SHORTS (1),", trip, "sheet 0 1 2 | lay 0 0 65536", "scan 0 0 1 0 1 = 1",
                "lay 0 0 256", "scan 0 0 1 0 1 = -21");
        reading.says("INTS (2)", trip, "sheet 0 2 2", "scan 0 0 2 0 1 = 1", "lay 0 0 65536",
                "scan 0 0 2 0 1 = -21", "lay 0 0 0", "scan 0 0 2 0 1 = 1");
        reading.says("with 0 to 64 CELLS,", "sheet 0 0 0 = 1", "count 6 = 0", "lay 0 0 0 = -12",
                "sheet 0 0 64 = 1", "lay 0 63 0 = 1", "lay 0 64 0 = -12", "sheet 0 0 65 = -1",
                "count 6 = 64");
        reading.says("or nothing (at first).", trip, "count 6 = -4", "lay 0 0 0 = -11",
                "lay 3 0 0 = -11", "scan 0 0 0 0 0 = -11", "scan 0 3 0 0 0 = -11", "sheet 0 0 0",
                "count 6 = 0", "scan 0 0 0 0 0 = 0");
        reading.says("A FAULT is what the machine finds: 1 NULL (nothing),", trip,
                "lay 0 0 0 = -11", "scan 0 0 0 0 1 = -11");
        reading.says("2 INDEX,", trip, "sheet 0 0 1", "lay 0 -1 0 = -12", "lay 0 1 0 = -12",
                "scan 0 0 0 0 1 = -12", "scan 0 0 0 -1 1 = -12");
        reading.says("3 CAST (another lane),", trip, "sheet 0 1 2", "scan 0 0 0 0 1 = -13",
                "scan 0 0 2 0 1 = -13", "scan 0 0 1 0 1 = 1");
        reading.says("4 SIZE (below 0).", "sheet 0 0 -1 = -14", "sheet 3 2 MIN = -14",
                "sheet 0 0 0 = 1");
        reading.passes("```");
    }

    private static void tape() {
        reading.says("======== 2 THE TAPE has 200 bytes,", "24 x feed 0", "feed 0 = 200",
                "feed 0 = -3", "count 7 = 200");
        reading.says("places from 0.", "tape '#'", "laws = -10", "tape ' #'", "laws = -11");
    }

    private static void tokens() {
        reading.says("TOKENS, each as long as may be,", "tape 'fares 1 1;'", "laws = -10",
                "fault = 1", "tape 'farefare 1 1;'", "laws = -10", "fault = 1",
                "tape 'fare 12 1;'", "laws = -15", "fault = 3");
        reading.says("any number of blanks (32) ahead of, between, behind them",
                "tape '   fare   1    2  ;  '", "laws = 1", "fare 1 0 = 2", "tape '   '",
                "laws = 0", "tape '\tfare 1 1;'", "laws = -10", "fault = 1");
        reading.says("(none is needed,", "tape 'fare1 2;work1 2 3;change4;'", "laws = 3",
                "fare 1 0 = 2", "change 0 4 = 1", "change 0 5 = 0");
        reading.says("but between two NUMBERS side by side):", "tape 'work 0 1 2;'", "laws = 1",
                "tape 'work 0 12;'", "laws = -19", "fault = 2");
        reading.says("NAMES (a .. z),", "tape 'fare 1 1;'", "laws = 1", "tape 'Fare 1 1;'",
                "laws = -10", "fault = 1", "tape 'xare 1 1;'", "laws = -10", "tape 'farez 1 1;'",
                "laws = -10", "tape 'farea 1 1;'", "laws = -10", "tape 'fare_ 1 1;'", "laws = -14",
                "fault = 1", "tape 'fare` 1 1;'", "laws = -14", "tape 'fare{ 1 1;'", "laws = -14");
        reading.says("NUMBERS (1 to 4 figures),", "tape 'fare 9 1;'", "laws = 1", "fare 9 0 = 1",
                "tape 'fare 0009 0002;'", "laws = 1", "fare 9 0 = 2", "tape 'fare 00009 1;'",
                "laws = -15", "fault = 1");
        reading.says("one ; .", "tape 'fare 1 1;'", "laws = 1", "tape 'fare 1 1;;'", "laws = -19",
                "fault = 2", "tape 'fare 1 1:'", "laws = -18", "fault = 1");
        reading.passes("```text");
    }

    private static void laws() {
        reading.says("text: { law }", "tape ''", "laws = 0", "tape 'fare 1 1;'", "laws = 1",
                "tape 'change 5; fare 1 2; work 1 2 3; fare 2 3;'", "laws = 4");
        reading.says("law: fare NUMBER NUMBER ;", "tape 'fare 1 2;'", "laws = 1",
                "tape 'fare 1;'", "laws = -16", "fault = 2", "tape 'fare 1 2 3;'", "laws = -19",
                "fault = 2");
        reading.says("| work NUMBER NUMBER NUMBER ;", "tape 'work 1 2 3;'", "laws = 1",
                "tape 'work 1 2;'", "laws = -18", "fault = 2", "tape 'work 1 2 3 4;'",
                "laws = -21", "fault = 2");
        reading.says("| change NUMBER ;", "tape 'change 1;'", "laws = 1", "tape 'change;'",
                "laws = -16", "fault = 2", "tape 'change 1 2;'", "laws = -19", "fault = 2");
        reading.says("fare s p: up to s SECTIONS (1 to 9)", "tape 'fare 4 7;'", "laws = 1",
                "fare 1 0 = 7", "fare 4 0 = 7", "fare 5 0 = -4", "tape 'fare 1 7; fare 9 8;'",
                "laws = 2", "fare 1 0 = 7", "fare 9 0 = 8", "tape 'fare 0 7;'", "laws = -15",
                "fault = 3", "tape 'fare 10 7;'", "laws = -15", "fault = 3");
        reading.says("cost p (1 to 999) pence.", "tape 'fare 4 1; fare 5 999;'", "laws = 2",
                "fare 4 0 = 1", "fare 5 0 = 999", "tape 'fare 4 0;'", "laws = -17", "fault = 3",
                "tape 'fare 4 1000;'", "laws = -17", "fault = 3");
        reading.says("work a b c: from hour a (0 to 23) on,",
                "tape 'fare 1 100; work 0 1 10; work 23 24 20;'", "laws = 3", "fare 1 0 = 10",
                "fare 1 1379 = 100", "fare 1 1380 = 20", "tape 'work 24 25 1;'", "laws = -15",
                "fault = 3");
        reading.says("ahead of hour b (1 to 24),",
                "tape 'fare 1 100; work 0 1 10; work 5 24 20;'", "laws = 3", "fare 1 59 = 10",
                "fare 1 60 = 100", "fare 1 1439 = 20", "tape 'work 0 0 1;'", "laws = -17",
                "fault = 3", "tape 'work 0 25 1;'", "laws = -17", "fault = 3");
        reading.says("c of a hundred (0 to 100).",
                "tape 'fare 1 100; work 0 1 0; work 1 2 100; work 2 3 25;'", "laws = 4",
                "fare 1 0 = 0", "fare 1 60 = 100", "fare 1 120 = 25", "tape 'work 0 1 101;'",
                "laws = -19", "fault = 3");
        reading.says("change m: minutes (0 to 120).", "tape 'change 0;'", "laws = 1",
                "change 5 5 = 1", "change 5 6 = 0", "tape 'change 120;'", "laws = 1",
                "change 0 120 = 1", "change 0 121 = 0", "tape 'change 121;'", "laws = -17",
                "fault = 3");
    }

    private static void faults() {
        reading.says("FAULTS, the first met as it is read", "tape 'fare 0 0; fare fare #'",
                "laws = -15", "fault = 3", "tape '# fare 0'", "laws = -10", "fault = 1",
                "tape 'fare ; fare 0'", "laws = -15", "fault = 2");
        reading.says("(a TOKEN is read when the one before has been taken):", "tape 'fare #'",
                "laws = -15", "fault = 1", "tape 'fare 10 #'", "laws = -15", "fault = 3",
                "tape 'fare 1 1; fare 1 #'", "laws = -25", "fault = 4",
                "tape 'change 1; change #'", "laws = -20", "fault = 5", "tape 'fare ; #'",
                "laws = -15", "fault = 2");
        reading.says("1 no TOKEN,", "tape 'fare 1 1; !'", "laws = -20", "fault = 1");
        reading.says("a NAME that is none of these,", "tape 'fare 1 1; fares 2 2;'",
                "laws = -20", "fault = 1", "tape 'car 1;'", "laws = -10", "fault = 1");
        reading.says("a NUMBER that is too long (its first byte).", "tape 'fare 00001 1;'",
                "laws = -15", "fault = 1", "tape 'fare 1 12345678;'", "laws = -17", "fault = 1");
        reading.says("2 a TOKEN that can not stand there", "tape 'fare fare'", "laws = -15",
                "fault = 2", "tape '7 fare'", "laws = -10", "fault = 2", "tape 'fare ;'",
                "laws = -15", "fault = 2", "tape 'change 1 fare'", "laws = -19", "fault = 2");
        reading.says("(or the end: the length).", "tape 'fare'", "laws = -14", "fault = 2",
                "tape 'fare 1 1'", "laws = -18", "fault = 2", "tape 'fare 1  '", "laws = -18",
                "fault = 2");
    }

    private static void laterFaults() {
        reading.says("3 a NUMBER out of its bounds;", "tape 'fare 10 1;'", "laws = -15",
                "fault = 3", "tape 'fare 1 1000;'", "laws = -17", "tape 'work 24 1 1;'",
                "laws = -15", "tape 'work 1 25 1;'", "laws = -17", "tape 'work 1 2 101;'",
                "laws = -19", "tape 'change 121;'", "laws = -17", "fault = 3");
        reading.says("the second one of work that is not above the first one (at it).",
                "tape 'work 5 5 1;'", "laws = -17", "fault = 3", "tape 'work 5 4 1;'",
                "laws = -17", "fault = 3", "tape 'work 5 6 1;'", "laws = 1");
        reading.says("4 a fare whose SECTIONS,", "tape 'fare 2 5; fare 2 9;'", "laws = -25",
                "fault = 4", "tape 'fare 2 5; fare 1 9;'", "laws = -25", "fault = 4",
                "tape 'fare 2 5; fare 3 9;'", "laws = 2");
        reading.says("or pence,", "tape 'fare 2 5; fare 3 5;'", "laws = -27", "fault = 4",
                "tape 'fare 2 5; fare 3 4;'", "laws = -27", "fault = 4",
                "tape 'fare 2 5; fare 3 6;'", "laws = 2");
        reading.says("are not above those of the fare told ahead of it (at that NUMBER).",
                "tape 'fare 2 5; work 1 2 3; fare 2 4;'", "laws = -37", "fault = 4",
                "tape 'fare 9 9;'", "laws = 1", "tape 'fare 1 1;'", "laws = 1");
        String nine = "fare 1 1;fare 2 2;fare 3 3;fare 4 4;fare 5 5;fare 6 6;fare 7 7;fare 8 8;"
                + "fare 9 9;";
        reading.says("5 a tenth fare,", "tape '" + nine + "'", "laws = 9",
                "tape '" + nine + "fare 9 9;'", "laws = -91", "fault = 5");
        String four = "work 0 1 1;".repeat(4);
        reading.says("a fifth work,", "tape '" + four + "'", "laws = 4",
                "tape '" + four + "work 0 1 1;'", "laws = -54", "fault = 5");
        reading.says("a second change (at its NAME).", "tape 'change 5;'", "laws = 1",
                "tape 'change 5;change 5;'", "laws = -19", "fault = 5");
    }

    private static void fares() {
        reading.says("THE FARE for n SECTIONS at a minute of the day (0 to 1439):",
                "tape 'fare 1 10;fare 3 20; work 1 2 50;'", "laws = 3", "fare 1 0 = 10",
                "fare 3 0 = 20", "fare 3 60 = 10", "fare 1 -1 = -1", "fare 1 1439 = 10",
                "fare 1 1440 = -1");
        reading.says("of the first fare that goes so far;",
                "tape 'fare 2 5; fare 4 7; fare 9 8;'", "laws = 3", "fare 1 0 = 5", "fare 2 0 = 5",
                "fare 3 0 = 7", "fare 4 0 = 7", "fare 5 0 = 8", "fare 9 0 = 8");
        reading.says("if the minute's hour is in a work's,", "tape 'fare 9 8; work 6 8 50;'",
                "laws = 2", "fare 9 359 = 8", "fare 9 360 = 4", "fare 9 479 = 4",
                "fare 9 480 = 8");
        reading.says("the first such:", "tape 'fare 9 100; work 6 8 50; work 7 9 20; work 7 8 90;'",
                "laws = 4", "fare 9 360 = 50", "fare 9 420 = 50", "fare 9 480 = 20",
                "fare 9 540 = 100");
        reading.says("so much times c by 100,", "tape 'fare 9 200; work 6 8 50; work 8 9 7;'",
                "laws = 3", "fare 9 360 = 100", "fare 9 480 = 14");
        reading.says("up to a whole number.", "tape 'fare 1 1; fare 2 3; work 6 8 50; work 8 9 1;'",
                "laws = 4", "fare 1 360 = 1", "fare 2 360 = 2", "fare 1 480 = 1", "fare 2 480 = 1");
        reading.says("A CHANGE from one minute to another (not ahead of it) is good,",
                "tape 'change 10;'", "laws = 1", "change 100 105 = 1", "change 100 100 = 1",
                "change 100 99 = -1");
        reading.says("if a change is told,", "change 0 0 = 0", "tape 'fare 1 1;'", "laws = 1",
                "change 0 0 = 0", "tape 'change 0;'", "laws = 1", "change 0 0 = 1");
        reading.says("and they are at most so far apart.", "tape 'change 10;'", "laws = 1",
                "change 100 110 = 1", "change 100 111 = 0", "change 0 1439 = 0");
        reading.passes("```");
    }

    private static void duties() {
        reading.says("======== 3 DUTIES (10) are numbered as they come,", "duty 500 600 = 0",
                "duty 1 2 = 1", "7 x duty 5 6", "duty 5 6 = 9", "duty 5 6 = -3", "count 4 = 10");
        reading.says("each from a minute to a later one (0 to 1440).", "duty 0 1440 = 0",
                "duty 5 5 = -1", "duty 5 4 = -1", "duty -1 5 = -1", "duty 5 1441 = -1",
                "duty 1439 1440 = 1", "crews 1 = 1440");
        reading.says("REST: minutes (0 to 600;", "rest 0", "rest 600 = 0", "rest 601 = -1",
                "rest -1 = -1", "rest 5 = 600");
        reading.says("30 at first).", "duty 0 10 | duty 39 41 | duty 40 45", "crew 0 = 0",
                "crew 1 = 1", "crew 2 = 0", "rest 30 = 30");
        reading.says("CREWS: DUTIES in the order in which they begin",
                "duty 100 200 | duty 0 150", "crew 0 = 1", "crew 1 = 0");
        reading.says("(of like ones the least number ahead),",
                "duty 100 200 | duty 100 110 | duty 100 300", "crew 0 = 0", "crew 1 = 1",
                "crew 2 = 2");
        reading.says("each for the least CREW (from 0 on)",
                "duty 0 10 | duty 5 15 | duty 100 110", "crew 0 = 0", "crew 1 = 1", "crew 2 = 0");
        reading.says("that has none,", "duty 0 100 | duty 50 150 | duty 99 150", "crew 0 = 0",
                "crew 1 = 1", "crew 2 = 2", "crews 0 = 3");
        reading.says("or whose latest DUTY ended REST minutes ahead of it at least.",
                "duty 0 100 | duty 129 140 | duty 130 150 | duty 179 190 | duty 200 210",
                "crew 0 = 0", "crew 1 = 1", "crew 2 = 0", "crew 3 = 1", "crew 4 = 0");
    }

    private static void interfaceSays() {
        reading.named("Ahead of the calls `feed`, `end`, `laws`, `fault`, `fare`, `change`"
                + " the interface says: ---- fares.");
        calls("// ---- fares", "// ---- duties", "feed end laws fault fare change");
        reading.named("Ahead of the calls `duty`, `rest`, `crew`, `crews`, `ill`, `count`"
                + " the interface says: ---- duties.");
        calls("// ---- duties", "private ", "duty rest crew crews ill count");
    }

    /** The calls of the face from some words of the source up to others. */
    private static void calls(String from, String to, String due) {
        int first = source.indexOf(from);
        int behind = source.indexOf(to, Math.max(0, first));
        Check.holds(from + " stands in the source", first >= 0 && behind > first);
        String part = first >= 0 && behind > first ? source.substring(first, behind) : "";
        StringBuilder found = new StringBuilder();
        Matcher call = Pattern.compile("public int (\\w+)\\(").matcher(part);
        while (call.find()) {
            found.append(found.length() == 0 ? "" : " ").append(call.group(1));
        }
        Check.holds(from + ": " + found, found.toString().equals(due));
        Check.holds(from + " is right ahead", part.startsWith(from + " public int "));
    }
}
