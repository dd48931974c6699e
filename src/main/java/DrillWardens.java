/**
 * Fire drill wardens by floors, deputies and leave days.
 *
 * <p>Every row that a call needs is made by the constructor and used again, so that no call makes an object.
 */
public final class DrillWardens {
    public static final int UNKNOWN = -1;
    public static final int BAD_VALUE = -2;
    public static final int FULL = -3;
    public static final int NOT_POSSIBLE = -4;
    public static final int NONE = -5;
    public static final int REFUSED = -6;

    private static final int FLOORS = 10;
    private static final int PERSONS = 16;
    private static final int ROW_ROOM = 5;
    private static final int MOST_NEEDED = 3;
    private static final int LAST_DAY = 399;
    private static final int QUARTERS = 4;
    private static final int QUARTER_DAYS = 100;
    private static final int LEAVE_ROOM = 40;
    private static final int LOG_ROOM = 6;
    private static final int MOST_MINUTES = 60;
    private static final int MOST_DAYS = 99;
    private static final int HISTORY_ROOM = 4;
    private static final int TEXT_ROOM = 80;
    private static final int FAULT_BASE = -100;

    private static final int SETTINGS = 3;
    private static final int BY_ORDER = 0;
    private static final int BY_HELP = 1;
    private static final int BY_REFUSAL = 2;
    private static final int HIGHEST_FIRST = 1;
    private static final int SHORTEST_ROW_FIRST = 2;

    private final State now;
    private final State before;
    private final History history;
    private final OrderText text;
    private final Roster roster;
    private final Roster rosterWithout;
    private int stopOrder;
    private int stopError;

    public DrillWardens() {
        now = new State();
        before = new State();
        history = new History();
        text = new OrderText();
        roster = new Roster();
        rosterWithout = new Roster();
        stopOrder = NONE;
        stopError = NONE;
    }

    // ---- floors, persons

    public int enlist(int floor, int person) {
        before.copyFrom(now);
        return recorded(enterRow(floor, person));
    }

    public int strike(int floor, int person) {
        before.copyFrom(now);
        return recorded(quitRow(floor, person));
    }

    public int setNeed(int floor, int many) {
        if (!isFloor(floor)) {
            return UNKNOWN;
        }
        if (!isWithin(many, 0, MOST_NEEDED)) {
            return BAD_VALUE;
        }
        int previous = now.needs[floor];
        if (previous == many) {
            return NONE;
        }
        history.push(now);
        now.needs[floor] = many;
        return previous;
    }

    public int train(int person, int day) {
        if (!isPerson(person)) {
            return UNKNOWN;
        }
        if (!isDay(day)) {
            return BAD_VALUE;
        }
        int previous = now.trainedUntil[person];
        if (previous == day) {
            return NONE;
        }
        history.push(now);
        now.trainedUntil[person] = day;
        return previous;
    }

    public int set(int which, int value) {
        if (!isWithin(which, 0, SETTINGS - 1)) {
            return UNKNOWN;
        }
        if (!isWithin(value, 0, which == BY_ORDER ? SHORTEST_ROW_FIRST : 1)) {
            return BAD_VALUE;
        }
        int previous = now.settings[which];
        if (previous == value) {
            return NONE;
        }
        history.push(now);
        now.settings[which] = value;
        return previous;
    }

    // ---- leave, drills, days

    public int leave(int person, int from, int to) {
        before.copyFrom(now);
        return recorded(grantLeave(person, from, to));
    }

    public int takeBack(int person, int day) {
        if (!isPerson(person)) {
            return UNKNOWN;
        }
        if (!isDay(day)) {
            return BAD_VALUE;
        }
        int which = now.leaves.find(person, day, day);
        if (which == NONE) {
            return NONE;
        }
        history.push(now);
        return now.leaves.removeAt(which);
    }

    public int drill(int floor, int minutes) {
        before.copyFrom(now);
        return recorded(holdDrill(floor, minutes));
    }

    public int pass(int days) {
        before.copyFrom(now);
        return recorded(letDaysPass(days));
    }

    // ---- texts

    public int type(char character) {
        return text.append(character);
    }

    public int clearText() {
        return text.empty();
    }

    public int perform() {
        if (!text.readOrders()) {
            return FAULT_BASE - text.fault();
        }
        before.copyFrom(now);
        int orders = text.orders();
        for (int order = 0; order < orders; order++) {
            int answer = carryOut(order);
            if (answer < 0 && answer != NONE) {
                now.copyFrom(before);
                stopOrder = order;
                stopError = answer;
                return NOT_POSSIBLE;
            }
        }
        return recorded(orders);
    }

    public int stopped(int what) {
        if (!isWithin(what, 0, 1)) {
            return BAD_VALUE;
        }
        return what == 0 ? stopOrder : stopError;
    }

    // ---- history

    public int undo() {
        return history.popInto(now);
    }

    public int keep() {
        history.keepSnapshot(now);
        return now.today;
    }

    public int restore() {
        before.copyFrom(now);
        if (!history.snapshotInto(now)) {
            return NONE;
        }
        return recorded(now.today);
    }

    // ---- what is told

    public int warden(int day, int floor, int rank) {
        if (!isFloor(floor)) {
            return UNKNOWN;
        }
        if (!isDay(day) || rank < 0) {
            return BAD_VALUE;
        }
        roster.lay(now, day, 0);
        return roster.takenAt(floor, rank);
    }

    public int staff(int day, int floor, int what) {
        if (!isFloor(floor)) {
            return UNKNOWN;
        }
        if (!isDay(day) || !isWithin(what, 0, 2)) {
            return BAD_VALUE;
        }
        roster.lay(now, day, 0);
        switch (what) {
            case 0:
                return roster.sizes[floor];
            case 1:
                return roster.lack(floor);
            default:
                return roster.helpers[floor];
        }
    }

    public int floor(int floor, int what) {
        if (!isFloor(floor)) {
            return UNKNOWN;
        }
        switch (what) {
            case 0:
                return now.needs[floor];
            case 1:
                return now.rowSizes[floor];
            case 2:
                return now.drills.held[floor];
            case 3:
                return now.drills.logged(floor, 0, 0);
            default:
                return BAD_VALUE;
        }
    }

    public int row(int floor, int place) {
        if (!isFloor(floor)) {
            return UNKNOWN;
        }
        if (place < 0) {
            return BAD_VALUE;
        }
        return now.personAt(floor, place);
    }

    public int person(int person, int what) {
        if (!isPerson(person)) {
            return UNKNOWN;
        }
        switch (what) {
            case 0:
                return now.trainedUntil[person];
            case 1:
                return now.leaves.leavesOf(person);
            case 2:
                return now.leaves.daysOf(person);
            case 3:
                return now.floorsOf(person);
            case 4:
                return now.drills.led[person];
            case 5:
                roster.lay(now, now.today, 0);
                return roster.floorOf(person);
            default:
                return BAD_VALUE;
        }
    }

    public int log(int floor, int rank, int what) {
        if (!isFloor(floor)) {
            return UNKNOWN;
        }
        if (rank < 0 || !isWithin(what, 0, 2)) {
            return BAD_VALUE;
        }
        return now.drills.logged(floor, rank, what);
    }

    public int due(int quarter) {
        if (!isWithin(quarter, 0, QUARTERS - 1)) {
            return UNKNOWN;
        }
        return now.floorsDueIn(quarter);
    }

    public int reason(int day, int floor, int person) {
        if (!isFloor(floor) || !isPerson(person)) {
            return UNKNOWN;
        }
        if (!isDay(day)) {
            return BAD_VALUE;
        }
        roster.lay(now, day, 0);
        int served = roster.floorOf(person);
        if (served == floor) {
            return 0;
        }
        if (now.leaves.find(person, day, day) != NONE) {
            return 1;
        }
        if (day > now.trainedUntil[person]) {
            return 2;
        }
        if (served != NONE) {
            return 3;
        }
        return now.placeOf(floor, person) == NONE ? 4 : 5;
    }

    public int firstShort(int floor) {
        if (!isFloor(floor)) {
            return UNKNOWN;
        }
        for (int day = now.today; day <= LAST_DAY; day++) {
            roster.lay(now, day, 0);
            if (roster.lack(floor) > 0) {
                return day;
            }
        }
        return NONE;
    }

    public int load(int person, int days) {
        if (!isPerson(person)) {
            return UNKNOWN;
        }
        if (!isWithin(days, 1, MOST_DAYS)) {
            return BAD_VALUE;
        }
        int served = 0;
        int last = Math.min(LAST_DAY, now.today + days - 1);
        for (int day = now.today; day <= last; day++) {
            roster.lay(now, day, 0);
            if (roster.floorOf(person) != NONE) {
                served++;
            }
        }
        return served;
    }

    public int ifLeft(int person, int from, int to) {
        int error = leaveError(person, from, to);
        return error < 0 ? error : shortByMore(person, from, to);
    }

    public int bestDay(int what) {
        if (!isWithin(what, 0, 1)) {
            return BAD_VALUE;
        }
        int best = NONE;
        int bestFloors = 0;
        for (int day = now.today; day <= LAST_DAY; day++) {
            int floors = floorsReadyOn(day);
            if (Integer.bitCount(floors) > Integer.bitCount(bestFloors)) {
                best = day;
                bestFloors = floors;
            }
        }
        if (best == NONE) {
            return NONE;
        }
        return what == 0 ? best : bestFloors;
    }

    public int count(int what) {
        switch (what) {
            case 0:
                return now.today;
            case 1:
                return now.today / QUARTER_DAYS;
            case 2:
                return floorsShortToday();
            case 3:
                return wardensLackingToday();
            case 4:
                roster.lay(now, now.today, 0);
                return Integer.bitCount(roster.serving);
            case 5:
                return Integer.bitCount(now.leaves.awayOn(now.today));
            case 6:
                return now.leaves.granted;
            case 7:
                return now.drills.total();
            case 8:
                return now.drills.minutes;
            case 9:
                return now.settings[BY_ORDER];
            case 10:
                return now.settings[BY_HELP];
            case 11:
                return now.settings[BY_REFUSAL];
            case 12:
                return history.size;
            case 13:
                return text.length;
            default:
                return BAD_VALUE;
        }
    }

    // The acts that a call and an order of the text share; recording is left to the caller,
    // since all orders of a text are one act.

    private int recorded(int answer) {
        if (answer >= 0) {
            history.push(before);
        }
        return answer;
    }

    private int carryOut(int order) {
        int first = text.number(order, 0);
        int second = text.number(order, 1);
        switch (text.kind(order)) {
            case OrderText.ROW:
                return enterRow(first, second);
            case OrderText.OFF:
                return quitRow(first, second);
            case OrderText.LEAVE:
                return grantLeave(first, second, text.number(order, 2));
            case OrderText.DRILL:
                return holdDrill(first, second);
            default:
                return letDaysPass(first);
        }
    }

    private int enterRow(int floor, int person) {
        if (!isFloor(floor) || !isPerson(person)) {
            return UNKNOWN;
        }
        if (now.placeOf(floor, person) != NONE) {
            return NOT_POSSIBLE;
        }
        return now.appendToRow(floor, person);
    }

    private int quitRow(int floor, int person) {
        if (!isFloor(floor) || !isPerson(person)) {
            return UNKNOWN;
        }
        int place = now.placeOf(floor, person);
        return place == NONE ? NONE : now.removeFromRow(floor, place);
    }

    private int grantLeave(int person, int from, int to) {
        int error = leaveError(person, from, to);
        if (error < 0) {
            return error;
        }
        if (now.leaves.granted >= LEAVE_ROOM) {
            return FULL;
        }
        if (now.settings[BY_REFUSAL] == 1 && shortByMore(person, from, to) > 0) {
            return REFUSED;
        }
        return now.leaves.add(person, from, to);
    }

    private int leaveError(int person, int from, int to) {
        if (!isPerson(person)) {
            return UNKNOWN;
        }
        if (!isDay(from) || !isWithin(to, from, LAST_DAY)) {
            return BAD_VALUE;
        }
        return now.leaves.find(person, from, to) == NONE ? 0 : NOT_POSSIBLE;
    }

    private int holdDrill(int floor, int minutes) {
        if (!isFloor(floor)) {
            return UNKNOWN;
        }
        if (!isWithin(minutes, 1, MOST_MINUTES)) {
            return BAD_VALUE;
        }
        roster.lay(now, now.today, 0);
        int leader = roster.takenAt(floor, 0);
        if (leader == NONE || roster.lack(floor) > 0) {
            return NOT_POSSIBLE;
        }
        now.drills.add(floor, now.today, minutes, leader);
        return leader;
    }

    private int letDaysPass(int days) {
        if (!isWithin(days, 1, MOST_DAYS)) {
            return BAD_VALUE;
        }
        if (now.today + days > LAST_DAY) {
            return FULL;
        }
        now.today += days;
        return floorsShortToday();
    }

    // What several calls ask of the rosters.

    private int shortByMore(int person, int from, int to) {
        int more = 0;
        for (int day = from; day <= to && day <= LAST_DAY; day++) {
            roster.lay(now, day, 0);
            // Floors choose just the same without a person whom none of them takes.
            if (roster.floorOf(person) != NONE) {
                rosterWithout.lay(now, day, 1 << person);
                more += rosterWithout.lackBeyond(roster);
            }
        }
        return more;
    }

    private int floorsReadyOn(int day) {
        int ready = now.floorsDueIn(day / QUARTER_DAYS);
        roster.lay(now, day, 0);
        for (int floor = 0; floor < FLOORS; floor++) {
            if (roster.lack(floor) > 0) {
                ready &= ~(1 << floor);
            }
        }
        return ready;
    }

    private int floorsShortToday() {
        roster.lay(now, now.today, 0);
        int floors = 0;
        for (int floor = 0; floor < FLOORS; floor++) {
            if (roster.lack(floor) > 0) {
                floors++;
            }
        }
        return floors;
    }

    private int wardensLackingToday() {
        roster.lay(now, now.today, 0);
        int wardens = 0;
        for (int floor = 0; floor < FLOORS; floor++) {
            wardens += roster.lack(floor);
        }
        return wardens;
    }

    private static boolean isWithin(int value, int lowest, int highest) {
        return lowest <= value && value <= highest;
    }

    private static boolean isFloor(int floor) {
        return 0 <= floor && floor < FLOORS;
    }

    private static boolean isPerson(int person) {
        return 0 <= person && person < PERSONS;
    }

    private static boolean isDay(int day) {
        return 0 <= day && day <= LAST_DAY;
    }

    private static boolean isIn(int set, int member) {
        return (set >> member & 1) != 0;
    }

    private static void copy(int[] from, int[] to) {
        if (from.length == to.length) {
            System.arraycopy(from, 0, to, 0, from.length);
        }
    }

    /** Everything that undo() and restore() bring back. */
    private static final class State {
        private int today;
        private final int[] settings;
        private final int[] needs;
        private final int[] rowSizes;
        private final int[] rows;
        private final int[] trainedUntil;
        private final Leaves leaves;
        private final Drills drills;

        State() {
            settings = new int[SETTINGS];
            needs = new int[FLOORS];
            rowSizes = new int[FLOORS];
            rows = new int[FLOORS * ROW_ROOM];
            trainedUntil = new int[PERSONS];
            leaves = new Leaves();
            drills = new Drills();
            for (int floor = 0; floor < FLOORS; floor++) {
                needs[floor] = 1;
            }
            for (int person = 0; person < PERSONS; person++) {
                trainedUntil[person] = LAST_DAY;
            }
        }

        void copyFrom(State other) {
            today = other.today;
            copy(other.settings, settings);
            copy(other.needs, needs);
            copy(other.rowSizes, rowSizes);
            copy(other.rows, rows);
            copy(other.trainedUntil, trainedUntil);
            leaves.copyFrom(other.leaves);
            drills.copyFrom(other.drills);
        }

        int personAt(int floor, int place) {
            boolean isThere = 0 <= place && place < ROW_ROOM && place < rowSizes[floor];
            return isThere ? rows[floor * ROW_ROOM + place] : NONE;
        }

        int placeOf(int floor, int person) {
            for (int place = 0; place < ROW_ROOM; place++) {
                if (personAt(floor, place) == person) {
                    return place;
                }
            }
            return NONE;
        }

        int appendToRow(int floor, int person) {
            int size = rowSizes[floor];
            if (!isWithin(size, 0, ROW_ROOM - 1)) {
                return FULL;
            }
            rows[floor * ROW_ROOM + size] = person;
            rowSizes[floor] = size + 1;
            return size + 1;
        }

        int removeFromRow(int floor, int place) {
            int start = floor * ROW_ROOM;
            for (int next = Math.max(place, 0) + 1; next < ROW_ROOM; next++) {
                rows[start + next - 1] = rows[start + next];
            }
            rowSizes[floor]--;
            return rowSizes[floor];
        }

        int floorsOf(int person) {
            int floors = 0;
            for (int floor = 0; floor < FLOORS; floor++) {
                if (placeOf(floor, person) != NONE) {
                    floors |= 1 << floor;
                }
            }
            return floors;
        }

        int ableOn(int day) {
            int able = 0;
            for (int person = 0; person < PERSONS; person++) {
                if (day <= trainedUntil[person]) {
                    able |= 1 << person;
                }
            }
            return able & ~leaves.awayOn(day);
        }

        int floorsDueIn(int quarter) {
            int floors = 0;
            for (int floor = 0; floor < FLOORS; floor++) {
                if (needs[floor] > 0 && !isIn(drills.quarters[floor], quarter)) {
                    floors |= 1 << floor;
                }
            }
            return floors;
        }
    }

    /** The leaves that are granted; those of one person have no day in common. */
    private static final class Leaves {
        private int granted;
        private final int[] persons;
        private final int[] firstDays;
        private final int[] lastDays;

        Leaves() {
            persons = new int[LEAVE_ROOM];
            firstDays = new int[LEAVE_ROOM];
            lastDays = new int[LEAVE_ROOM];
        }

        void copyFrom(Leaves other) {
            granted = other.granted;
            copy(other.persons, persons);
            copy(other.firstDays, firstDays);
            copy(other.lastDays, lastDays);
        }

        int find(int person, int from, int to) {
            for (int i = 0; i < granted && i < LEAVE_ROOM; i++) {
                if (persons[i] == person && firstDays[i] <= to && from <= lastDays[i]) {
                    return i;
                }
            }
            return NONE;
        }

        int add(int person, int from, int to) {
            if (!isWithin(granted, 0, LEAVE_ROOM - 1)) {
                return FULL;
            }
            persons[granted] = person;
            firstDays[granted] = from;
            lastDays[granted] = to;
            granted++;
            return to - from + 1;
        }

        int removeAt(int which) {
            int last = granted - 1;
            if (!isWithin(last, 0, LEAVE_ROOM - 1) || !isWithin(which, 0, last)) {
                return NONE;
            }
            int days = lastDays[which] - firstDays[which] + 1;
            // No answer depends on the order of the leaves, so the last one may fill the gap.
            persons[which] = persons[last];
            firstDays[which] = firstDays[last];
            lastDays[which] = lastDays[last];
            granted = last;
            return days;
        }

        int awayOn(int day) {
            int away = 0;
            for (int i = 0; i < granted && i < LEAVE_ROOM; i++) {
                if (firstDays[i] <= day && day <= lastDays[i]) {
                    away |= 1 << persons[i];
                }
            }
            return away;
        }

        int leavesOf(int person) {
            int many = 0;
            for (int i = 0; i < granted && i < LEAVE_ROOM; i++) {
                if (persons[i] == person) {
                    many++;
                }
            }
            return many;
        }

        int daysOf(int person) {
            int days = 0;
            for (int i = 0; i < granted && i < LEAVE_ROOM; i++) {
                if (persons[i] == person) {
                    days += lastDays[i] - firstDays[i] + 1;
                }
            }
            return days;
        }
    }

    /** The drills: accounts of all that were held, logs of the latest ones of each floor. */
    private static final class Drills {
        private int minutes;
        private final int[] held;
        /** By floor, the set of quarters with a drill: the log forgets, these do not. */
        private final int[] quarters;
        private final int[] led;
        private final int[] logDays;
        private final int[] logMinutes;
        private final int[] logLeaders;

        Drills() {
            held = new int[FLOORS];
            quarters = new int[FLOORS];
            led = new int[PERSONS];
            logDays = new int[FLOORS * LOG_ROOM];
            logMinutes = new int[FLOORS * LOG_ROOM];
            logLeaders = new int[FLOORS * LOG_ROOM];
        }

        void copyFrom(Drills other) {
            minutes = other.minutes;
            copy(other.held, held);
            copy(other.quarters, quarters);
            copy(other.led, led);
            copy(other.logDays, logDays);
            copy(other.logMinutes, logMinutes);
            copy(other.logLeaders, logLeaders);
        }

        void add(int floor, int day, int length, int leader) {
            if (!isFloor(floor) || !isPerson(leader)) {
                return;
            }
            int latest = floor * LOG_ROOM;
            for (int i = latest + LOG_ROOM - 1; i > latest; i--) {
                logDays[i] = logDays[i - 1];
                logMinutes[i] = logMinutes[i - 1];
                logLeaders[i] = logLeaders[i - 1];
            }
            logDays[latest] = day;
            logMinutes[latest] = length;
            logLeaders[latest] = leader;
            held[floor]++;
            quarters[floor] |= 1 << (day / QUARTER_DAYS);
            led[leader]++;
            minutes += length;
        }

        int logged(int floor, int rank, int what) {
            if (!isFloor(floor) || !isWithin(rank, 0, LOG_ROOM - 1) || rank >= held[floor]) {
                return NONE;
            }
            int i = floor * LOG_ROOM + rank;
            switch (what) {
                case 0:
                    return logDays[i];
                case 1:
                    return logMinutes[i];
                default:
                    return logLeaders[i];
            }
        }

        int total() {
            int all = 0;
            for (int floor = 0; floor < FLOORS; floor++) {
                all += held[floor];
            }
            return all;
        }
    }

    /** Who serves on which floor on one day, as laid last. */
    private static final class Roster {
        private final int[] order;
        private final int[] needed;
        private final int[] sizes;
        private final int[] helpers;
        private final int[] taken;
        private int serving;

        Roster() {
            order = new int[FLOORS];
            needed = new int[FLOORS];
            sizes = new int[FLOORS];
            helpers = new int[FLOORS];
            taken = new int[FLOORS * MOST_NEEDED];
        }

        /** Lays the roster of a day, as if the persons of the set were away on it too. */
        void lay(State state, int day, int awayToo) {
            clearFor(state);
            arrangeFloors(state);
            int able = state.ableOn(day) & ~awayToo;
            for (int turn = 0; turn < FLOORS; turn++) {
                takeFromRow(state, order[turn], able);
            }
            if (state.settings[BY_HELP] == 1) {
                for (int turn = 0; turn < FLOORS; turn++) {
                    takeHelpers(order[turn], able);
                }
            }
        }

        private void clearFor(State state) {
            serving = 0;
            for (int floor = 0; floor < FLOORS; floor++) {
                needed[floor] = state.needs[floor];
                sizes[floor] = 0;
                helpers[floor] = 0;
            }
        }

        private void arrangeFloors(State state) {
            int how = state.settings[BY_ORDER];
            if (how == SHORTEST_ROW_FIRST) {
                arrangeByRows(state);
                return;
            }
            for (int turn = 0; turn < FLOORS; turn++) {
                order[turn] = how == HIGHEST_FIRST ? FLOORS - 1 - turn : turn;
            }
        }

        private void arrangeByRows(State state) {
            int turn = 0;
            for (int size = 0; size <= ROW_ROOM; size++) {
                for (int floor = 0; floor < FLOORS; floor++) {
                    if (state.rowSizes[floor] == size && turn < FLOORS) {
                        order[turn] = floor;
                        turn++;
                    }
                }
            }
        }

        private void takeFromRow(State state, int floor, int able) {
            if (!isFloor(floor)) {
                return;
            }
            for (int place = 0; place < ROW_ROOM && lack(floor) > 0; place++) {
                int person = state.personAt(floor, place);
                if (person != NONE && isIn(able & ~serving, person)) {
                    take(floor, person);
                }
            }
        }

        private void takeHelpers(int floor, int able) {
            if (!isFloor(floor)) {
                return;
            }
            for (int person = 0; person < PERSONS && lack(floor) > 0; person++) {
                if (isIn(able & ~serving, person)) {
                    take(floor, person);
                    helpers[floor]++;
                }
            }
        }

        private void take(int floor, int person) {
            int rank = sizes[floor];
            if (0 <= rank && rank < MOST_NEEDED) {
                taken[floor * MOST_NEEDED + rank] = person;
                sizes[floor] = rank + 1;
                serving |= 1 << person;
            }
        }

        /** By how many the floor is short. */
        int lack(int floor) {
            return needed[floor] - sizes[floor];
        }

        /** By how many floors are short by more than in the other roster, whatever others gain. */
        int lackBeyond(Roster other) {
            int more = 0;
            for (int floor = 0; floor < FLOORS; floor++) {
                more += Math.max(0, lack(floor) - other.lack(floor));
            }
            return more;
        }

        int takenAt(int floor, int rank) {
            if (!isFloor(floor) || !isWithin(rank, 0, MOST_NEEDED - 1) || rank >= sizes[floor]) {
                return NONE;
            }
            return taken[floor * MOST_NEEDED + rank];
        }

        int floorOf(int person) {
            if (!isIn(serving, person)) {
                return NONE;
            }
            for (int floor = 0; floor < FLOORS; floor++) {
                for (int rank = 0; rank < MOST_NEEDED; rank++) {
                    if (takenAt(floor, rank) == person) {
                        return floor;
                    }
                }
            }
            return NONE;
        }
    }

    /** The latest states before acts, the oldest one first, and the snapshot. */
    private static final class History {
        private final State[] states;
        private int size;
        private final State snapshot;
        private boolean hasSnapshot;

        History() {
            states = new State[HISTORY_ROOM];
            for (int i = 0; i < HISTORY_ROOM; i++) {
                states[i] = new State();
            }
            snapshot = new State();
        }

        void push(State state) {
            if (size >= HISTORY_ROOM) {
                dropOldest();
            }
            if (isWithin(size, 0, HISTORY_ROOM - 1) && states[size] != null) {
                states[size].copyFrom(state);
                size++;
            }
        }

        private void dropOldest() {
            State oldest = states[0];
            for (int i = 1; i < HISTORY_ROOM; i++) {
                states[i - 1] = states[i];
            }
            // The dropped state is written over by the next one: no call makes an object.
            states[HISTORY_ROOM - 1] = oldest;
            size = HISTORY_ROOM - 1;
        }

        int popInto(State state) {
            int latest = size - 1;
            if (!isWithin(latest, 0, HISTORY_ROOM - 1) || states[latest] == null) {
                return NONE;
            }
            state.copyFrom(states[latest]);
            size = latest;
            return size;
        }

        void keepSnapshot(State state) {
            snapshot.copyFrom(state);
            hasSnapshot = true;
        }

        boolean snapshotInto(State state) {
            if (hasSnapshot) {
                state.copyFrom(snapshot);
            }
            return hasSnapshot;
        }
    }

    /** The text that is typed, and the orders that were read from it last. */
    private static final class OrderText {
        private static final int ROW = 0;
        private static final int OFF = 1;
        private static final int LEAVE = 2;
        private static final int DRILL = 3;
        private static final int PASS = 4;
        private static final int KINDS = 5;

        private static final int END = -1;
        private static final int MOST_NUMBERS = 3;
        /** The shortest order, with its ";", has 7 characters: 80 have room for 11. */
        private static final int MOST_ORDERS = 12;

        private final char[] characters;
        private int length;
        private int at;
        private int orders;
        private final int[] kinds;
        private final int[] numbers;

        OrderText() {
            characters = new char[TEXT_ROOM];
            kinds = new int[MOST_ORDERS];
            numbers = new int[MOST_ORDERS * MOST_NUMBERS];
        }

        int append(char character) {
            if (!isWithin(length, 0, TEXT_ROOM - 1)) {
                return FULL;
            }
            characters[length] = character;
            length++;
            return length;
        }

        int empty() {
            int had = length;
            length = 0;
            return had;
        }

        int orders() {
            return orders;
        }

        /** After readOrders() answered false: the place where the reading came to its end. */
        int fault() {
            return at;
        }

        int kind(int order) {
            return isWithin(order, 0, MOST_ORDERS - 1) ? kinds[order] : NONE;
        }

        int number(int order, int which) {
            if (!isWithin(order, 0, MOST_ORDERS - 1) || !isWithin(which, 0, MOST_NUMBERS - 1)) {
                return NONE;
            }
            return numbers[order * MOST_NUMBERS + which];
        }

        boolean readOrders() {
            at = 0;
            orders = 0;
            for (int order = 0; order < MOST_ORDERS; order++) {
                if (!readOrder(order)) {
                    return false;
                }
                orders = order + 1;
                if (next() == END) {
                    return true;
                }
                if (!readSign(';')) {
                    return false;
                }
            }
            return false;
        }

        private int next() {
            return isWithin(at, 0, TEXT_ROOM - 1) && at < length ? characters[at] : END;
        }

        private boolean readSign(char sign) {
            if (next() != sign) {
                return false;
            }
            at++;
            return true;
        }

        private boolean readOrder(int order) {
            int kind = nextKind();
            if (kind == NONE || !readWord(wordOf(kind))) {
                return false;
            }
            kinds[order] = kind;
            for (int which = 0; which < MOST_NUMBERS && highestOf(kind, which) != NONE; which++) {
                if (!readSign(' ') || !readNumber(order * MOST_NUMBERS + which, kind, which)) {
                    return false;
                }
            }
            return true;
        }

        private int nextKind() {
            // No two words begin alike, so the first character tells the order.
            for (int kind = 0; kind < KINDS; kind++) {
                String word = wordOf(kind);
                if (!word.isEmpty() && word.charAt(0) == next()) {
                    return kind;
                }
            }
            return NONE;
        }

        private boolean readWord(String word) {
            for (int i = 0; i < word.length(); i++) {
                if (!readSign(word.charAt(i))) {
                    return false;
                }
            }
            return true;
        }

        private boolean readNumber(int slot, int kind, int which) {
            int value = nextDigit();
            if (value == NONE || !isWithin(value, lowestOf(kind, which), highestOf(kind, which))) {
                return false;
            }
            at++;
            for (int i = 0; i < TEXT_ROOM && nextDigit() != NONE; i++) {
                int longer = value * 10 + nextDigit();
                if (value == 0 || longer > highestOf(kind, which)) {
                    return false;
                }
                value = longer;
                at++;
            }
            numbers[slot] = value;
            return true;
        }

        private int nextDigit() {
            int sign = next();
            return isWithin(sign, '0', '9') ? sign - '0' : NONE;
        }

        private static String wordOf(int kind) {
            switch (kind) {
                case ROW:
                    return "row";
                case OFF:
                    return "off";
                case LEAVE:
                    return "leave";
                case DRILL:
                    return "drill";
                default:
                    return "pass";
            }
        }

        private static int lowestOf(int kind, int which) {
            boolean isMinutes = kind == DRILL && which == 1;
            return isMinutes || kind == PASS ? 1 : 0;
        }

        /** The greatest value of a number of an order; NONE if the order has not so many numbers. */
        private static int highestOf(int kind, int which) {
            switch (kind) {
                case ROW:
                case OFF:
                    return pick(which, FLOORS - 1, PERSONS - 1, NONE);
                case LEAVE:
                    return pick(which, PERSONS - 1, LAST_DAY, LAST_DAY);
                case DRILL:
                    return pick(which, FLOORS - 1, MOST_MINUTES, NONE);
                default:
                    return pick(which, MOST_DAYS, NONE, NONE);
            }
        }

        private static int pick(int which, int first, int second, int third) {
            if (which == 0) {
                return first;
            }
            return which == 1 ? second : third;
        }
    }
}
