/**
 * Tram pence: conductors with packs of numbered tickets, sold by stages on trips, waybills whose
 * sums are the numbers' worth, who can have been aboard where, tickets shown to inspectors, heads
 * beyond what can be; fares told in a text, workmen's hours, changes; duties of crews by rests;
 * sheets of sales whose faults the machine finds; the latest sales undone.
 */
public final class TramPence {
    public static final int BAD = -1, STATE = -2, FULL = -3, NONE = -4;

    // Answers that may lie below 0 need a BAD that can be none of them.
    private static final int BAD_DIFFERENCE = -1000000;
    private static final int BY_FAULT = -10;
    private static final int BY_SALE = -20;

    private static final int LAST_STAGE = 9;
    private static final int LAST_SECTION = 8;
    private static final int CONDUCTORS = 6;
    private static final int SHEETS = 4;
    private static final int LANES = 3;
    private static final int LAST_MINUTE = 1439;
    private static final int LEAST = 0, MOST = 1;

    private final Types types;
    private final Packs packs;
    private final Trips trips;
    private final Sales sales;
    private final Sheet[] sheets;
    private final LawBook book;
    private final Roster roster;

    public TramPence() {
        types = new Types();
        packs = new Packs();
        trips = new Trips();
        sales = new Sales();
        sheets = new Sheet[SHEETS];
        for (int k = 0; k < SHEETS; k++) {
            sheets[k] = new Sheet();
        }
        book = new LawBook();
        roster = new Roster();
    }

    public int type(int price, int span) {
        if (isOutside(price, 1, 60) || isOutside(span, 1, 9)) {
            return BAD;
        }
        return types.add(price, span);
    }

    public int issue(int c, int type, int from, int n) {
        if (!hasPack(c, type) || isOutside(from, 0, 100000) || isOutside(n, 0, 1000)) {
            return BAD;
        }
        if (sales.anySold(type, from, from + n) || packs.anyWithOthers(c, type, from, from + n)) {
            return STATE;
        }
        int unsold = packs.size(c, type);
        packs.replace(c, type, from, from + n);
        return unsold;
    }

    public int pack(int c, int type, int what) {
        if (!hasPack(c, type) || isOutside(what, 0, 1)) {
            return BAD;
        }
        int size = packs.size(c, type);
        if (what == 1) {
            return size;
        }
        return size == 0 ? NONE : packs.next[c][type];
    }

    public int trip(int c, boolean up) {
        if (isOutside(c, 0, CONDUCTORS - 1)) {
            return BAD;
        }
        return trips.hasOpen(c) ? STATE : trips.add(c, up);
    }

    public int close(int t) {
        if (!trips.has(t)) {
            return BAD;
        }
        if (!trips.open[t]) {
            return STATE;
        }
        trips.open[t] = false;
        return takings(t);
    }

    public int sell(int t, int type, int stage) {
        if (!trips.has(t) || !types.has(type) || isOutside(stage, 0, LAST_STAGE)) {
            return BAD;
        }
        int step = trips.stepOfStage(t, stage);
        if (!trips.open[t] || step < sales.latestStep(t) || step == LAST_STAGE) {
            return STATE;
        }
        if (sales.isFull()) {
            return FULL;
        }
        int c = trips.conductor[t];
        if (packs.size(c, type) == 0) {
            return NONE;
        }
        int number = packs.takeNext(c, type);
        sales.add(t, type, step, number);
        return number;
    }

    public int undo() {
        if (sales.used == 0) {
            return NONE;
        }
        int latest = sales.used - 1;
        int t = sales.trip[latest];
        int next = packs.next[trips.conductor[t]][sales.type[latest]];
        if (!trips.open[t] || sales.number[latest] != next - 1) {
            return STATE;
        }
        takeBackLatest();
        return sales.used;
    }

    public int sheet(int k, int lane, int n) {
        if (isOutside(k, 0, SHEETS - 1) || isOutside(lane, 0, LANES - 1) || n > Sheet.CELLS) {
            return BAD;
        }
        if (n < 0) {
            return BY_FAULT - Sheet.FAULT_SIZE;
        }
        sheets[k].renew(lane, n);
        return 1;
    }

    public int lay(int k, int i, int v) {
        if (isOutside(k, 0, SHEETS - 1)) {
            return BAD;
        }
        Sheet sheet = sheets[k];
        if (sheet.isNothing()) {
            return BY_FAULT - Sheet.FAULT_NULL;
        }
        if (!sheet.hasCell(i)) {
            return BY_FAULT - Sheet.FAULT_INDEX;
        }
        sheet.write(i, v);
        return 1;
    }

    public int scan(int t, int k, int lane, int f, int n) {
        if (!trips.has(t) || isOutside(k, 0, SHEETS - 1) || isOutside(lane, 0, LANES - 1)
                || isOutside(n, 0, 32)) {
            return BAD;
        }
        Sheet sheet = sheets[k];
        if (sheet.isNothing()) {
            return BY_FAULT - Sheet.FAULT_NULL;
        }
        if (sheet.lane != lane) {
            return BY_FAULT - Sheet.FAULT_CAST;
        }
        for (int i = 0; i < n; i++) {
            int answer = sellFromSheet(t, sheet, f + 2 * i);
            if (answer < 0) {
                takeBack(i);
                return answer;
            }
        }
        return n;
    }

    public int waybill(int t, int type, int what) {
        if (!trips.has(t) || !types.has(type) || isOutside(what, 0, 2)) {
            return BAD;
        }
        if (what == 0) {
            return sales.howMany(t, type);
        }
        int at = what == 1 ? sales.firstOf(t, type) : sales.lastOf(t, type);
        return at < 0 ? NONE : sales.number[at];
    }

    public int money(int t) {
        return trips.has(t) ? takings(t) : BAD;
    }

    public int paid(int c, int pence) {
        if (isOutside(c, 0, CONDUCTORS - 1) || isOutside(pence, 0, 100000)) {
            return BAD_DIFFERENCE;
        }
        int difference = pence;
        for (int t = 0; t < trips.used; t++) {
            if (trips.conductor[t] == c && !trips.open[t]) {
                difference -= takings(t);
            }
        }
        return difference;
    }

    public int aboard(int t, int section, int what) {
        if (!trips.has(t) || isOutside(section, 0, LAST_SECTION)
                || isOutside(what, LEAST, MOST)) {
            return BAD;
        }
        return howManyAboard(t, section, what);
    }

    public int riders(boolean up, int section, int what) {
        if (isOutside(section, 0, LAST_SECTION) || isOutside(what, LEAST, MOST)) {
            return BAD;
        }
        int sum = 0;
        for (int i = 0; i < sales.used; i++) {
            if (trips.up[sales.trip[i]] == up && isAboard(i, section, what)) {
                sum++;
            }
        }
        return sum;
    }

    public int shown(int t, int section, int type, int number) {
        if (!trips.has(t) || isOutside(section, 0, LAST_SECTION) || !types.has(type)
                || number < 0) {
            return BAD;
        }
        int at = sales.find(type, number);
        if (at < 0) {
            return 1;
        }
        if (sales.trip[at] != t) {
            return 2;
        }
        int step = trips.stepOfSection(t, section);
        if (sales.step[at] > step) {
            return 3;
        }
        return isGoodAt(at, step) ? 0 : 4;
    }

    public int heads(int t, int section, int n) {
        if (!trips.has(t) || isOutside(section, 0, LAST_SECTION) || isOutside(n, 0, 1000)) {
            return BAD_DIFFERENCE;
        }
        int most = howManyAboard(t, section, MOST);
        if (n > most) {
            return n - most;
        }
        int least = howManyAboard(t, section, LEAST);
        return n < least ? n - least : 0;
    }

    public int gap(int type) {
        if (!types.has(type)) {
            return BAD;
        }
        int greatest = sales.greatestSold(type);
        int number = 0;
        // Each turn but the last one goes beyond another sale or pack.
        for (int turn = 0; turn <= Sales.LIMIT + CONDUCTORS && number < greatest; turn++) {
            int beyond = beyondHeld(type, number);
            if (beyond == number) {
                return number;
            }
            number = beyond;
        }
        return NONE;
    }

    // ---- fares

    public int feed(long v) {
        return book.tape.append(v);
    }

    public int end(int n) {
        int had = book.tape.length;
        if (isOutside(n, 0, had)) {
            return BAD;
        }
        book.tape.length = n;
        return had;
    }

    public int laws() {
        return book.readTape();
    }

    public int fault() {
        return book.fault;
    }

    public int fare(int n, int minute) {
        if (isOutside(n, 1, 9) || isOutside(minute, 0, LAST_MINUTE)) {
            return BAD;
        }
        return book.told.priceFor(n, minute / 60);
    }

    public int change(int from, int to) {
        if (isOutside(from, 0, LAST_MINUTE) || isOutside(to, from, LAST_MINUTE)) {
            return BAD;
        }
        return book.told.isChangeGood(to - from) ? 1 : 0;
    }

    // ---- duties

    public int duty(int from, int to) {
        if (isOutside(from, 0, 1440) || isOutside(to, from + 1, 1440)) {
            return BAD;
        }
        return roster.add(from, to);
    }

    public int rest(int minutes) {
        return isOutside(minutes, 0, 600) ? BAD : roster.replaceRest(minutes);
    }

    public int crew(int d) {
        return isOutside(d, 0, roster.used - 1) ? BAD : roster.crewOf[d];
    }

    public int crews(int what) {
        if (isOutside(what, 0, 2)) {
            return BAD;
        }
        if (what == 0) {
            return roster.crewsUsed;
        }
        int busiest = roster.busiest();
        if (what == 1) {
            return busiest < 0 ? 0 : roster.minutesOf(busiest);
        }
        return busiest < 0 ? NONE : busiest;
    }

    public int ill(int crew) {
        return isOutside(crew, 0, roster.crewsUsed - 1) ? BAD : roster.lostWithout(crew);
    }

    public int count(int what) {
        switch (what) {
            case 0:
                return types.used;
            case 1:
                return trips.used;
            case 2:
                return sales.used;
            case 3:
                return trips.howManyOpen();
            case 4:
                return roster.used;
            case 5:
                return book.told.howMany();
            case 6:
                return sheets[0].isNothing() ? NONE : sheets[0].size;
            case 7:
                return book.tape.length;
            default:
                return BAD;
        }
    }

    private static boolean isOutside(int value, int least, int most) {
        return value < least || value > most;
    }

    private boolean hasPack(int c, int type) {
        return !isOutside(c, 0, CONDUCTORS - 1) && types.has(type);
    }

    private int takings(int t) {
        int sum = 0;
        for (int i = 0; i < sales.used; i++) {
            if (sales.trip[i] == t) {
                sum += types.price[sales.type[i]];
            }
        }
        return sum;
    }

    private int howManyAboard(int t, int section, int what) {
        int sum = 0;
        for (int i = 0; i < sales.used; i++) {
            if (sales.trip[i] == t && isAboard(i, section, what)) {
                sum++;
            }
        }
        return sum;
    }

    /** Whether the rider of a sale surely (LEAST), or possibly (MOST), is aboard in a section. */
    private boolean isAboard(int sale, int section, int what) {
        int step = trips.stepOfSection(sales.trip[sale], section);
        return what == LEAST ? sales.step[sale] == step : isGoodAt(sale, step);
    }

    private boolean isGoodAt(int sale, int step) {
        int first = sales.step[sale];
        return step >= first && step < first + types.span[sales.type[sale]];
    }

    private int sellFromSheet(int t, Sheet sheet, int cell) {
        if (!sheet.hasCell(cell) || !sheet.hasCell(cell + 1)) {
            return BY_FAULT - Sheet.FAULT_INDEX;
        }
        int answer = sell(t, sheet.cells[cell], sheet.cells[cell + 1]);
        return answer < 0 ? BY_SALE + answer : answer;
    }

    private void takeBack(int howMany) {
        for (int i = 0; i < howMany && sales.used > 0; i++) {
            takeBackLatest();
        }
    }

    /** There must be a sale, its number the one ahead of its pack's next one. */
    private void takeBackLatest() {
        int latest = sales.used - 1;
        int c = trips.conductor[sales.trip[latest]];
        packs.next[c][sales.type[latest]] = sales.number[latest];
        sales.used = latest;
    }

    /** The number itself, if it is neither sold nor in a pack; a greater one otherwise. */
    private int beyondHeld(int type, int number) {
        return packs.beyond(type, sales.beyond(type, number));
    }

    private static final class Types {
        static final int LIMIT = 5;

        final int[] price = new int[LIMIT];
        final int[] span = new int[LIMIT];
        int used;

        boolean has(int type) {
            return type >= 0 && type < used;
        }

        int add(int newPrice, int newSpan) {
            if (used >= LIMIT) {
                return FULL;
            }
            price[used] = newPrice;
            span[used] = newSpan;
            return used++;
        }
    }

    /** Of each conductor and type: the numbers from next up to, not with, limit. */
    private static final class Packs {
        final int[][] next = new int[CONDUCTORS][Types.LIMIT];
        final int[][] limit = new int[CONDUCTORS][Types.LIMIT];

        int size(int c, int type) {
            return limit[c][type] - next[c][type];
        }

        void replace(int c, int type, int from, int to) {
            next[c][type] = from;
            limit[c][type] = to;
        }

        int takeNext(int c, int type) {
            return next[c][type]++;
        }

        /** Whether a pack of another conductor has a number from one up to, not with, another. */
        boolean anyWithOthers(int c, int type, int from, int to) {
            for (int other = 0; other < CONDUCTORS; other++) {
                int first = Math.max(from, next[other][type]);
                if (other != c && first < Math.min(to, limit[other][type])) {
                    return true;
                }
            }
            return false;
        }

        /** The number itself, or one behind it with none but numbers in packs between. */
        int beyond(int type, int number) {
            int free = number;
            for (int c = 0; c < CONDUCTORS; c++) {
                if (free >= next[c][type] && free < limit[c][type]) {
                    free = limit[c][type];
                }
            }
            return free;
        }
    }

    /**
     * Stages and sections are also told by steps, which go up on either way: a trip begins at step
     * 0, and the section at a step comes next from the stage at that step.
     */
    private static final class Trips {
        static final int LIMIT = 16;

        final int[] conductor = new int[LIMIT];
        final boolean[] up = new boolean[LIMIT];
        final boolean[] open = new boolean[LIMIT];
        int used;

        boolean has(int t) {
            return t >= 0 && t < used;
        }

        int add(int c, boolean goesUp) {
            if (used >= LIMIT) {
                return FULL;
            }
            conductor[used] = c;
            up[used] = goesUp;
            open[used] = true;
            return used++;
        }

        boolean hasOpen(int c) {
            for (int t = 0; t < used; t++) {
                if (open[t] && conductor[t] == c) {
                    return true;
                }
            }
            return false;
        }

        int howManyOpen() {
            int sum = 0;
            for (int t = 0; t < used; t++) {
                if (open[t]) {
                    sum++;
                }
            }
            return sum;
        }

        int stepOfStage(int t, int stage) {
            return up[t] ? stage : LAST_STAGE - stage;
        }

        int stepOfSection(int t, int section) {
            return up[t] ? section : LAST_SECTION - section;
        }
    }

    /** All sales in the order in which they were made, so that the latest one can be undone. */
    private static final class Sales {
        static final int LIMIT = 200;

        final int[] trip = new int[LIMIT];
        final int[] type = new int[LIMIT];
        final int[] step = new int[LIMIT];
        final int[] number = new int[LIMIT];
        int used;

        boolean isFull() {
            return used >= LIMIT;
        }

        void add(int t, int soldType, int atStep, int soldNumber) {
            if (isFull()) {
                return;
            }
            trip[used] = t;
            type[used] = soldType;
            step[used] = atStep;
            number[used] = soldNumber;
            used++;
        }

        int latestStep(int t) {
            for (int i = used - 1; i >= 0; i--) {
                if (trip[i] == t) {
                    return step[i];
                }
            }
            return 0;
        }

        /** The place of the sale of a number, or -1. */
        int find(int soldType, int soldNumber) {
            for (int i = 0; i < used; i++) {
                if (type[i] == soldType && number[i] == soldNumber) {
                    return i;
                }
            }
            return -1;
        }

        /** Whether a number from one up to, not with, another was sold. */
        boolean anySold(int soldType, int from, int to) {
            for (int i = 0; i < used; i++) {
                if (type[i] == soldType && number[i] >= from && number[i] < to) {
                    return true;
                }
            }
            return false;
        }

        /** The number itself, or one behind it with none but sold ones between. */
        int beyond(int soldType, int from) {
            int free = from;
            for (int i = 0; i < used; i++) {
                if (type[i] == soldType && number[i] == free) {
                    free++;
                }
            }
            return free;
        }

        /** -1 if none was sold. */
        int greatestSold(int soldType) {
            int greatest = -1;
            for (int i = 0; i < used; i++) {
                if (type[i] == soldType) {
                    greatest = Math.max(greatest, number[i]);
                }
            }
            return greatest;
        }

        int howMany(int t, int soldType) {
            int sum = 0;
            for (int i = 0; i < used; i++) {
                if (isOf(i, t, soldType)) {
                    sum++;
                }
            }
            return sum;
        }

        /** The place of the first sale of a type on a trip, or -1. */
        int firstOf(int t, int soldType) {
            for (int i = 0; i < used; i++) {
                if (isOf(i, t, soldType)) {
                    return i;
                }
            }
            return -1;
        }

        /** The place of the last sale of a type on a trip, or -1. */
        int lastOf(int t, int soldType) {
            for (int i = used - 1; i >= 0; i--) {
                if (isOf(i, t, soldType)) {
                    return i;
                }
            }
            return -1;
        }

        private boolean isOf(int i, int t, int soldType) {
            return trip[i] == t && type[i] == soldType;
        }
    }

    /** The cells are made once and used again by every new row, to spare room. */
    private static final class Sheet {
        static final int CELLS = 64;
        static final int BYTES = 0, SHORTS = 1;
        static final int FAULT_NULL = 1, FAULT_INDEX = 2, FAULT_CAST = 3, FAULT_SIZE = 4;
        private static final int NOTHING = -1;

        final int[] cells = new int[CELLS];
        int lane;
        int size = NOTHING;

        boolean isNothing() {
            return size == NOTHING;
        }

        boolean hasCell(int i) {
            return i >= 0 && i < size;
        }

        void renew(int newLane, int newSize) {
            lane = newLane;
            size = newSize;
            for (int i = 0; i < CELLS; i++) {
                cells[i] = 0;
            }
        }

        void write(int i, int v) {
            if (!hasCell(i)) {
                return;
            }
            switch (lane) {
                case BYTES:
                    cells[i] = (byte) v;
                    break;
                case SHORTS:
                    cells[i] = (short) v;
                    break;
                default:
                    cells[i] = v;
            }
        }
    }

    private static final class Tape {
        static final int LIMIT = 200;
        static final int NO_TOKEN = 0, AT_END = 1, NAME = 2, NUMBER = 3, SEMICOLON = 4;
        private static final int FIGURES = 4;

        private final byte[] bytes = new byte[LIMIT];
        int length;
        /** Where the latest token begins; the law that it names, or the number that it is. */
        int start;
        int value;
        private int place;

        int append(long v) {
            if (length + 8 > LIMIT) {
                return FULL;
            }
            for (int shift = 56; shift >= 0; shift -= 8) {
                bytes[length] = (byte) (v >>> shift);
                length++;
            }
            return length;
        }

        void rewind() {
            place = 0;
        }

        /** Its kind; a name that no law bears, or too long a number, is no token. */
        int readToken() {
            while (place < length && bytes[place] == ' ') {
                place++;
            }
            start = place;
            if (place >= length) {
                return AT_END;
            }
            if (isLetter(place)) {
                return readName();
            }
            if (isFigure(place)) {
                return readNumber();
            }
            return bytes[place++] == ';' ? SEMICOLON : NO_TOKEN;
        }

        private int readName() {
            while (place < length && isLetter(place)) {
                place++;
            }
            if (isSpelled("fare")) {
                value = Laws.FARE;
                return NAME;
            }
            if (isSpelled("work")) {
                value = Laws.WORK;
                return NAME;
            }
            value = Laws.CHANGE;
            return isSpelled("change") ? NAME : NO_TOKEN;
        }

        private int readNumber() {
            value = 0;
            while (place < length && isFigure(place)) {
                // Figures of too long a number are passed over: they must not overflow.
                if (place - start < FIGURES) {
                    value = value * 10 + (bytes[place] - '0');
                }
                place++;
            }
            return place - start <= FIGURES ? NUMBER : NO_TOKEN;
        }

        private boolean isLetter(int i) {
            return bytes[i] >= 'a' && bytes[i] <= 'z';
        }

        private boolean isFigure(int i) {
            return bytes[i] >= '0' && bytes[i] <= '9';
        }

        private boolean isSpelled(String name) {
            if (place - start != name.length()) {
                return false;
            }
            for (int i = 0; i < name.length(); i++) {
                if (bytes[start + i] != name.charAt(i)) {
                    return false;
                }
            }
            return true;
        }
    }

    private static final class Laws {
        static final int FARE = 0, WORK = 1, CHANGE = 2;
        /** How many numbers a law has, at most. */
        static final int NUMBERS = 3;
        private static final int FARES = 9, WORKS = 4;
        private static final int NO_CHANGE = -1;

        private final int[] sections = new int[FARES];
        private final int[] pence = new int[FARES];
        private final int[] fromHour = new int[WORKS];
        private final int[] toHour = new int[WORKS];
        private final int[] ofHundred = new int[WORKS];
        private int fares;
        private int works;
        private int changeMinutes = NO_CHANGE;

        void clear() {
            fares = 0;
            works = 0;
            changeMinutes = NO_CHANGE;
        }

        int howMany() {
            return fares + works + (changeMinutes == NO_CHANGE ? 0 : 1);
        }

        boolean hasRoomFor(int law) {
            switch (law) {
                case FARE:
                    return fares < FARES;
                case WORK:
                    return works < WORKS;
                default:
                    return changeMinutes == NO_CHANGE;
            }
        }

        void add(int law, int first, int second, int third) {
            if (!hasRoomFor(law)) {
                return;
            }
            switch (law) {
                case FARE:
                    sections[fares] = first;
                    pence[fares] = second;
                    fares++;
                    break;
                case WORK:
                    fromHour[works] = first;
                    toHour[works] = second;
                    ofHundred[works] = third;
                    works++;
                    break;
                default:
                    changeMinutes = first;
            }
        }

        /** The sections (0) or pence (1) of the latest fare; without one 0, which is below all. */
        int latestFare(int which) {
            if (fares == 0) {
                return 0;
            }
            return which == 0 ? sections[fares - 1] : pence[fares - 1];
        }

        int priceFor(int n, int hour) {
            for (int i = 0; i < fares; i++) {
                if (sections[i] >= n) {
                    return (pence[i] * shareAt(hour) + 99) / 100;
                }
            }
            return NONE;
        }

        private int shareAt(int hour) {
            for (int i = 0; i < works; i++) {
                if (hour >= fromHour[i] && hour < toHour[i]) {
                    return ofHundred[i];
                }
            }
            return 100;
        }

        boolean isChangeGood(int apart) {
            return changeMinutes != NO_CHANGE && apart <= changeMinutes;
        }
    }

    /**
     * Laws are read into a draft, so that by a fault those that were told stay. A token is judged
     * before the next one is read, so the first fault met is at the token that was read last.
     */
    private static final class LawBook {
        private static final int UNREADABLE = 1, MISPLACED = 2, OUT_OF_BOUNDS = 3;
        private static final int NOT_ABOVE = 4, TOO_MANY = 5;
        private static final int NO_LAW = -1;

        // By law: how many numbers it has; by law and number: its bounds.
        private static final int[] HAS = {2, 3, 1};
        private static final int[] LEAST_OF = {1, 1, 0, 0, 1, 0, 0, 0, 0};
        private static final int[] MOST_OF = {9, 999, 0, 23, 24, 100, 120, 0, 0};

        final Tape tape = new Tape();
        Laws told = new Laws();
        int fault;
        private Laws draft = new Laws();
        private final int[] numbers = new int[Laws.NUMBERS];
        /** The law that is being read, and how many of its numbers have been taken. */
        private int law;
        private int taken;

        int readTape() {
            draft.clear();
            tape.rewind();
            law = NO_LAW;
            fault = 0;
            boolean atEnd = false;
            // Each token but the end takes bytes of its own.
            for (int turn = 0; turn <= Tape.LIMIT && !atEnd && fault == 0; turn++) {
                int kind = tape.readToken();
                fault = take(kind);
                atEnd = kind == Tape.AT_END;
            }
            tape.length = 0;
            return fault == 0 ? tellDraft() : BY_FAULT - tape.start;
        }

        private int tellDraft() {
            Laws before = told;
            told = draft;
            draft = before;
            return told.howMany();
        }

        /** The fault of the token that was read last; 0 if it has none. */
        private int take(int kind) {
            if (kind == Tape.NO_TOKEN) {
                return UNREADABLE;
            }
            if (law == NO_LAW) {
                return beginLaw(kind);
            }
            if (taken >= HAS[law]) {
                return endLaw(kind);
            }
            return kind == Tape.NUMBER ? takeNumber(tape.value) : MISPLACED;
        }

        private int beginLaw(int kind) {
            if (kind == Tape.AT_END) {
                return 0;
            }
            if (kind != Tape.NAME) {
                return MISPLACED;
            }
            law = tape.value;
            taken = 0;
            return draft.hasRoomFor(law) ? 0 : TOO_MANY;
        }

        private int takeNumber(int number) {
            int at = law * Laws.NUMBERS + taken;
            if (isOutside(number, LEAST_OF[at], MOST_OF[at])) {
                return OUT_OF_BOUNDS;
            }
            if (law == Laws.WORK && taken == 1 && number <= numbers[0]) {
                return OUT_OF_BOUNDS;
            }
            if (law == Laws.FARE && number <= draft.latestFare(taken)) {
                return NOT_ABOVE;
            }
            numbers[taken] = number;
            taken++;
            return 0;
        }

        private int endLaw(int kind) {
            if (kind != Tape.SEMICOLON) {
                return MISPLACED;
            }
            draft.add(law, numbers[0], numbers[1], numbers[2]);
            law = NO_LAW;
            return 0;
        }
    }

    /** The crews are told anew whenever a duty or the rest changes. */
    private static final class Roster {
        static final int LIMIT = 10;
        private static final int NO_CREW = -1;

        private final int[] from = new int[LIMIT];
        private final int[] to = new int[LIMIT];
        private final int[] freeFrom = new int[LIMIT];
        final int[] crewOf = new int[LIMIT];
        int used;
        int crewsUsed;
        private int restMinutes = 30;

        int add(int newFrom, int newTo) {
            if (used >= LIMIT) {
                return FULL;
            }
            from[used] = newFrom;
            to[used] = newTo;
            int number = used++;
            tellCrews();
            return number;
        }

        int replaceRest(int minutes) {
            int before = restMinutes;
            restMinutes = minutes;
            tellCrews();
            return before;
        }

        private void tellCrews() {
            crewsUsed = 0;
            for (int d = 0; d < used; d++) {
                crewOf[d] = NO_CREW;
            }
            for (int turn = 0; turn < used; turn++) {
                int d = firstWithoutCrew();
                if (d >= 0) {
                    giveCrew(d);
                }
            }
        }

        private int firstWithoutCrew() {
            int first = -1;
            for (int d = 0; d < used; d++) {
                if (crewOf[d] == NO_CREW && (first < 0 || from[d] < from[first])) {
                    first = d;
                }
            }
            return first;
        }

        private void giveCrew(int d) {
            int crew = 0;
            while (crew < crewsUsed && freeFrom[crew] > from[d]) {
                crew++;
            }
            if (crew >= LIMIT) {
                return;
            }
            crewOf[d] = crew;
            freeFrom[crew] = to[d] + restMinutes;
            crewsUsed = Math.max(crewsUsed, crew + 1);
        }

        int minutesOf(int crew) {
            int sum = 0;
            for (int d = 0; d < used; d++) {
                if (crewOf[d] == crew) {
                    sum += to[d] - from[d];
                }
            }
            return sum;
        }

        /** The least crew of those that have the most minutes, or -1. */
        int busiest() {
            int busiest = -1;
            int most = 0;
            for (int crew = 0; crew < crewsUsed; crew++) {
                int minutes = minutesOf(crew);
                if (minutes > most) {
                    busiest = crew;
                    most = minutes;
                }
            }
            return busiest;
        }

        /** How many duties of a crew none of the others could have beside its own. */
        int lostWithout(int crew) {
            int lost = 0;
            for (int d = 0; d < used; d++) {
                if (crewOf[d] == crew && !anotherCould(d)) {
                    lost++;
                }
            }
            return lost;
        }

        private boolean anotherCould(int d) {
            for (int crew = 0; crew < crewsUsed; crew++) {
                if (crew != crewOf[d] && couldHave(crew, d)) {
                    return true;
                }
            }
            return false;
        }

        private boolean couldHave(int crew, int d) {
            for (int own = 0; own < used; own++) {
                if (crewOf[own] == crew && !haveRestBetween(own, d)) {
                    return false;
                }
            }
            return true;
        }

        private boolean haveRestBetween(int one, int other) {
            return to[one] + restMinutes <= from[other] || to[other] + restMinutes <= from[one];
        }
    }
}
