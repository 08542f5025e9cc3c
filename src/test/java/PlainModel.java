import java.util.ArrayList;
import java.util.Comparator;
import java.util.HashMap;
import java.util.List;
import java.util.Map;
import java.util.TreeSet;

/**
 * The document told once more, in the Java library's collections and as literally as may be: every
 * number of a pack is held by itself, every section of a ticket too. Slow, and for tests alone.
 */
final class PlainModel {
    private static final int BAD = -1, STATE = -2, FULL = -3, NONE = -4;

    private record Type(int price, int span) {
    }

    private record Sale(Trip trip, int type, int stage, int number, List<Integer> sections) {
    }

    private record Duty(int number, int from, int to) {
    }

    private static final class Trip {
        int conductor;
        boolean up;
        boolean open = true;
    }

    private static final class Pack {
        int next;
        final TreeSet<Integer> numbers = new TreeSet<>();
    }

    private final List<Type> types = new ArrayList<>();
    private final Map<Integer, Pack> packs = new HashMap<>();
    private final List<Trip> trips = new ArrayList<>();
    private List<Sale> sales = new ArrayList<>();
    private final Object[] sheets = new Object[4];
    private final List<Duty> duties = new ArrayList<>();
    private int rest = 30;
    private String tape = "";
    private List<int[]> fares = new ArrayList<>();
    private List<int[]> works = new ArrayList<>();
    private List<int[]> changes = new ArrayList<>();
    private int fault;

    private static boolean in(int v, int a, int b) {
        return a <= v && v <= b;
    }

    private boolean isTrip(int t) {
        return in(t, 0, trips.size() - 1);
    }

    private boolean isType(int type) {
        return in(type, 0, types.size() - 1);
    }

    private Pack packOf(int c, int type) {
        return packs.computeIfAbsent(c * 10 + type, key -> new Pack());
    }

    int type(int price, int span) {
        if (!in(price, 1, 60) || !in(span, 1, 9)) {
            return BAD;
        }
        if (types.size() == 5) {
            return FULL;
        }
        types.add(new Type(price, span));
        return types.size() - 1;
    }

    int issue(int c, int type, int from, int n) {
        if (!in(c, 0, 5) || !isType(type) || !in(from, 0, 100000) || !in(n, 0, 1000)) {
            return BAD;
        }
        for (int number = from; number < from + n; number++) {
            if (saleOf(type, number) != null) {
                return STATE;
            }
            for (int other = 0; other < 6; other++) {
                if (other != c && packOf(other, type).numbers.contains(number)) {
                    return STATE;
                }
            }
        }
        Pack pack = packOf(c, type);
        int unsold = pack.numbers.size();
        pack.numbers.clear();
        for (int number = from; number < from + n; number++) {
            pack.numbers.add(number);
        }
        pack.next = from;
        return unsold;
    }

    int pack(int c, int type, int what) {
        if (!in(c, 0, 5) || !isType(type) || !in(what, 0, 1)) {
            return BAD;
        }
        Pack pack = packOf(c, type);
        return what == 1 ? pack.numbers.size() : pack.numbers.isEmpty() ? NONE : pack.next;
    }

    int trip(int c, boolean up) {
        if (!in(c, 0, 5)) {
            return BAD;
        }
        if (trips.stream().anyMatch(t -> t.open && t.conductor == c)) {
            return STATE;
        }
        if (trips.size() == 16) {
            return FULL;
        }
        Trip trip = new Trip();
        trip.conductor = c;
        trip.up = up;
        trips.add(trip);
        return trips.size() - 1;
    }

    int close(int t) {
        if (!isTrip(t)) {
            return BAD;
        }
        if (!trips.get(t).open) {
            return STATE;
        }
        trips.get(t).open = false;
        return money(t);
    }

    int sell(int t, int type, int stage) {
        if (!isTrip(t) || !isType(type) || !in(stage, 0, 9)) {
            return BAD;
        }
        Trip trip = trips.get(t);
        if (!trip.open || stage == (trip.up ? 9 : 0)) {
            return STATE;
        }
        for (Sale s : sales) {
            if (s.trip == trip && (trip.up ? stage < s.stage : stage > s.stage)) {
                return STATE;
            }
        }
        if (sales.size() == 200) {
            return FULL;
        }
        Pack pack = packOf(trip.conductor, type);
        if (pack.numbers.isEmpty()) {
            return NONE;
        }
        List<Integer> sections = new ArrayList<>();
        for (int i = 0; i < types.get(type).span; i++) {
            int section = trip.up ? stage + i : stage - 1 - i;
            if (in(section, 0, 8)) {
                sections.add(section);
            }
        }
        int number = pack.numbers.pollFirst();
        pack.next = number + 1;
        sales.add(new Sale(trip, type, stage, number, sections));
        return number;
    }

    int undo() {
        if (sales.isEmpty()) {
            return NONE;
        }
        Sale latest = sales.get(sales.size() - 1);
        Pack pack = packOf(latest.trip.conductor, latest.type);
        if (!latest.trip.open || pack.next != latest.number + 1) {
            return STATE;
        }
        pack.next = latest.number;
        pack.numbers.add(latest.number);
        sales.remove(sales.size() - 1);
        return sales.size();
    }

    int sheet(int k, int lane, int n) {
        if (!in(k, 0, 3) || !in(lane, 0, 2) || n > 64) {
            return BAD;
        }
        if (n < 0) {
            return -14;
        }
        sheets[k] = lane == 0 ? new byte[n] : lane == 1 ? new short[n] : new int[n];
        return 1;
    }

    int lay(int k, int i, int v) {
        if (!in(k, 0, 3)) {
            return BAD;
        }
        try {
            if (sheets[k] instanceof short[] s) {
                s[i] = (short) v;
            } else if (sheets[k] instanceof int[] s) {
                s[i] = v;
            } else {
                ((byte[]) sheets[k])[i] = (byte) v;
            }
            return 1;
        } catch (NullPointerException e) {
            return -11;
        } catch (ArrayIndexOutOfBoundsException e) {
            return -12;
        }
    }

    private static int cell(Object row, int lane, int i) {
        return lane == 0 ? ((byte[]) row)[i] : lane == 1 ? ((short[]) row)[i] : ((int[]) row)[i];
    }

    private static int cells(Object row, int lane) {
        return lane == 0 ? ((byte[]) row).length
                : lane == 1 ? ((short[]) row).length : ((int[]) row).length;
    }

    int scan(int t, int k, int lane, int f, int n) {
        if (!isTrip(t) || !in(k, 0, 3) || !in(lane, 0, 2) || !in(n, 0, 32)) {
            return BAD;
        }
        int before = sales.size();
        int refused = 0;
        try {
            cells(sheets[k], lane);
            for (int i = 0; i < n && refused == 0; i++) {
                int type = cell(sheets[k], lane, f + 2 * i);
                int stage = cell(sheets[k], lane, f + 2 * i + 1);
                int sold = sell(t, type, stage);
                refused = sold < 0 ? -20 + sold : 0;
            }
        } catch (NullPointerException e) {
            refused = -11;
        } catch (ClassCastException e) {
            refused = -13;
        } catch (ArrayIndexOutOfBoundsException e) {
            refused = -12;
        }
        while (refused != 0 && sales.size() > before) {
            undo();
        }
        return refused != 0 ? refused : n;
    }

    int waybill(int t, int type, int what) {
        if (!isTrip(t) || !isType(type) || !in(what, 0, 2)) {
            return BAD;
        }
        List<Integer> sold = new ArrayList<>();
        for (Sale s : sales) {
            if (s.trip == trips.get(t) && s.type == type) {
                sold.add(s.number);
            }
        }
        if (what == 0) {
            return sold.size();
        }
        return sold.isEmpty() ? NONE : sold.get(what == 1 ? 0 : sold.size() - 1);
    }

    int money(int t) {
        if (!isTrip(t)) {
            return BAD;
        }
        return sales.stream().filter(s -> s.trip == trips.get(t))
                .mapToInt(s -> types.get(s.type).price).sum();
    }

    int paid(int c, int pence) {
        if (!in(c, 0, 5) || !in(pence, 0, 100000)) {
            return -1000000;
        }
        return pence - sales.stream().filter(s -> s.trip.conductor == c && !s.trip.open)
                .mapToInt(s -> types.get(s.type).price).sum();
    }

    int aboard(int t, int section, int what) {
        if (!isTrip(t) || !in(section, 0, 8) || !in(what, 0, 1)) {
            return BAD;
        }
        int sum = 0;
        for (Sale s : sales) {
            if (s.trip == trips.get(t)) {
                boolean first = s.stage == (s.trip.up ? section : section + 1);
                sum += (what == 0 ? first : s.sections.contains(section)) ? 1 : 0;
            }
        }
        return sum;
    }

    int riders(boolean up, int section, int what) {
        if (!in(section, 0, 8) || !in(what, 0, 1)) {
            return BAD;
        }
        int sum = 0;
        for (int t = 0; t < trips.size(); t++) {
            sum += trips.get(t).up == up ? aboard(t, section, what) : 0;
        }
        return sum;
    }

    private Sale saleOf(int type, int number) {
        for (Sale s : sales) {
            if (s.type == type && s.number == number) {
                return s;
            }
        }
        return null;
    }

    int shown(int t, int section, int type, int number) {
        if (!isTrip(t) || !in(section, 0, 8) || !isType(type) || number < 0) {
            return BAD;
        }
        Sale s = saleOf(type, number);
        if (s == null) {
            return 1;
        }
        if (s.trip != trips.get(t)) {
            return 2;
        }
        if (s.sections.contains(section)) {
            return 0;
        }
        return (s.trip.up ? section < s.stage : section >= s.stage) ? 3 : 4;
    }

    int heads(int t, int section, int n) {
        if (!isTrip(t) || !in(section, 0, 8) || !in(n, 0, 1000)) {
            return -1000000;
        }
        return Math.max(0, n - aboard(t, section, 1)) - Math.max(0, aboard(t, section, 0) - n);
    }

    int gap(int type) {
        if (!isType(type)) {
            return BAD;
        }
        TreeSet<Integer> held = new TreeSet<>();
        int greatest = -1;
        for (Sale s : sales) {
            if (s.type == type) {
                held.add(s.number);
                greatest = Math.max(greatest, s.number);
            }
        }
        for (int c = 0; c < 6; c++) {
            held.addAll(packOf(c, type).numbers);
        }
        for (int number = 0; number < greatest; number++) {
            if (!held.contains(number)) {
                return number;
            }
        }
        return NONE;
    }

    int feed(long v) {
        if (tape.length() + 8 > 200) {
            return FULL;
        }
        StringBuilder s = new StringBuilder(tape);
        for (byte b : java.nio.ByteBuffer.allocate(8).putLong(v).array()) {
            s.append((char) (b & 255));
        }
        tape = s.toString();
        return tape.length();
    }

    int end(int n) {
        int had = tape.length();
        if (!in(n, 0, had)) {
            return BAD;
        }
        tape = tape.substring(0, n);
        return had;
    }

    /** Told by what may follow: the shapes of the laws, their bounds, then the rest. */
    int laws() {
        String text = tape;
        tape = "";
        fault = 0;
        Map<String, int[][]> shapes = Map.of("fare", new int[][] {{1, 9}, {1, 999}},
                "work", new int[][] {{0, 23}, {1, 24}, {0, 100}}, "change", new int[][] {{0, 120}});
        Map<String, Integer> most = Map.of("fare", 9, "work", 4, "change", 1);
        Map<String, List<int[]>> draft = new HashMap<>();
        shapes.keySet().forEach(name -> draft.put(name, new ArrayList<>()));
        String name = null;
        int[] numbers = null;
        int taken = 0;
        int at = 0;
        while (true) {
            while (at < text.length() && text.charAt(at) == ' ') {
                at++;
            }
            if (at == text.length()) {
                if (name != null) {
                    return failed(2, at);
                }
                break;
            }
            String rest = text.substring(at);
            String token = rest.replaceFirst("(?s)^([a-z]+|[0-9]+|;|).*$", "$1");
            if (token.isEmpty() || token.matches("[0-9]{5,}")
                    || token.matches("[a-z]+") && !shapes.containsKey(token)) {
                return failed(1, at);
            }
            if (name == null) {
                if (!shapes.containsKey(token)) {
                    return failed(2, at);
                }
                if (draft.get(token).size() == most.get(token)) {
                    return failed(5, at);
                }
                name = token;
                numbers = new int[shapes.get(name).length];
                taken = 0;
            } else if (taken == numbers.length) {
                if (!token.equals(";")) {
                    return failed(2, at);
                }
                draft.get(name).add(numbers);
                name = null;
            } else {
                if (!Character.isDigit(token.charAt(0))) {
                    return failed(2, at);
                }
                int v = Integer.parseInt(token);
                int[] bounds = shapes.get(name)[taken];
                if (!in(v, bounds[0], bounds[1])
                        || name.equals("work") && taken == 1 && v <= numbers[0]) {
                    return failed(3, at);
                }
                List<int[]> former = draft.get(name);
                if (name.equals("fare") && !former.isEmpty()
                        && v <= former.get(former.size() - 1)[taken]) {
                    return failed(4, at);
                }
                numbers[taken++] = v;
            }
            at += token.length();
        }
        fares = draft.get("fare");
        works = draft.get("work");
        changes = draft.get("change");
        return fares.size() + works.size() + changes.size();
    }

    private int failed(int which, int at) {
        fault = which;
        return -10 - at;
    }

    int fault() {
        return fault;
    }

    int fare(int n, int minute) {
        if (!in(n, 1, 9) || !in(minute, 0, 1439)) {
            return BAD;
        }
        for (int[] law : fares) {
            if (n <= law[0]) {
                for (int[] work : works) {
                    if (minute >= work[0] * 60 && minute < work[1] * 60) {
                        return (int) Math.ceil(law[1] * work[2] / 100.0);
                    }
                }
                return law[1];
            }
        }
        return NONE;
    }

    int change(int from, int to) {
        if (!in(from, 0, 1439) || !in(to, 0, 1439) || to < from) {
            return BAD;
        }
        return changes.stream().anyMatch(law -> to - from <= law[0]) ? 1 : 0;
    }

    int duty(int from, int to) {
        if (!in(from, 0, 1440) || !in(to, 0, 1440) || from >= to) {
            return BAD;
        }
        if (duties.size() == 10) {
            return FULL;
        }
        duties.add(new Duty(duties.size(), from, to));
        return duties.size() - 1;
    }

    int rest(int minutes) {
        if (!in(minutes, 0, 600)) {
            return BAD;
        }
        int was = rest;
        rest = minutes;
        return was;
    }

    private List<List<Duty>> allCrews() {
        List<Duty> inOrder = new ArrayList<>(duties);
        inOrder.sort(Comparator.comparingInt(Duty::from).thenComparingInt(Duty::number));
        List<List<Duty>> crews = new ArrayList<>();
        for (Duty d : inOrder) {
            List<Duty> taker = null;
            for (List<Duty> crew : crews) {
                if (taker == null && d.from - crew.get(crew.size() - 1).to >= rest) {
                    taker = crew;
                }
            }
            if (taker == null) {
                taker = new ArrayList<>();
                crews.add(taker);
            }
            taker.add(d);
        }
        return crews;
    }

    int crew(int d) {
        if (!in(d, 0, duties.size() - 1)) {
            return BAD;
        }
        List<List<Duty>> crews = allCrews();
        int crew = 0;
        while (!crews.get(crew).contains(duties.get(d))) {
            crew++;
        }
        return crew;
    }

    private static int minutes(List<Duty> crew) {
        return crew.stream().mapToInt(d -> d.to - d.from).sum();
    }

    int crews(int what) {
        if (!in(what, 0, 2)) {
            return BAD;
        }
        List<List<Duty>> crews = allCrews();
        int most = crews.stream().mapToInt(PlainModel::minutes).max().orElse(0);
        if (what == 0) {
            return crews.size();
        }
        if (what == 1) {
            return most;
        }
        for (int crew = 0; crew < crews.size(); crew++) {
            if (minutes(crews.get(crew)) == most) {
                return crew;
            }
        }
        return NONE;
    }

    int ill(int crew) {
        List<List<Duty>> crews = allCrews();
        if (!in(crew, 0, crews.size() - 1)) {
            return BAD;
        }
        int lost = 0;
        for (Duty d : crews.get(crew)) {
            boolean hasTaker = false;
            for (List<Duty> other : crews) {
                hasTaker |= other != crews.get(crew) && other.stream().allMatch(
                        o -> d.from - o.to >= rest || o.from - d.to >= rest);
            }
            lost += hasTaker ? 0 : 1;
        }
        return lost;
    }

    int count(int what) {
        int[] counts = {types.size(), trips.size(), sales.size(),
            (int) trips.stream().filter(t -> t.open).count(), duties.size(),
            fares.size() + works.size() + changes.size(),
            sheets[0] == null ? NONE : java.lang.reflect.Array.getLength(sheets[0]), tape.length()};
        return in(what, 0, 7) ? counts[what] : BAD;
    }
}
