import java.util.ArrayDeque;
import java.util.ArrayList;
import java.util.Arrays;
import java.util.Deque;
import java.util.HashMap;
import java.util.List;
import java.util.Map;
import java.util.regex.Matcher;
import java.util.regex.Pattern;

/**
 * The document told a second time, with the library's collections and no care for speed or room, so that long runs of
 * calls can be compared with the class.
 */
final class Model {
    private static final String FLOOR = "[0-9]";
    private static final String PERSON = "(?:[0-9]|1[0-5])";
    private static final String DAY = "(?:[0-9]|[1-9][0-9]|[12][0-9][0-9]|3[0-9][0-9])";
    private static final String MINUTES = "(?:[1-9]|[1-5][0-9]|60)";
    private static final String DAYS = "(?:[1-9]|[1-9][0-9])";
    private static final String ORDER = "(?:row " + FLOOR + " " + PERSON + "|off " + FLOOR + " " + PERSON
            + "|leave " + PERSON + " " + DAY + " " + DAY + "|drill " + FLOOR + " " + MINUTES + "|pass " + DAYS + ")";
    private static final Pattern ORDERS = Pattern.compile(ORDER + "(?:;" + ORDER + ")*");

    static final class World {
        int today;
        int[] settings = new int[3];
        int[] needs = new int[10];
        int[] trained = new int[16];
        List<List<Integer>> rows = new ArrayList<>();
        List<int[]> leaves = new ArrayList<>();
        /** Floor, day, minutes, leader; the latest one last. */
        List<int[]> drills = new ArrayList<>();

        World() {
            Arrays.fill(needs, 1);
            Arrays.fill(trained, 399);
            for (int i = 0; i < 10; i++) {
                rows.add(new ArrayList<>());
            }
        }

        World twin() {
            World twin = new World();
            twin.today = today;
            twin.settings = settings.clone();
            twin.needs = needs.clone();
            twin.trained = trained.clone();
            for (int i = 0; i < 10; i++) {
                twin.rows.get(i).addAll(rows.get(i));
            }
            twin.leaves.addAll(leaves);
            twin.drills.addAll(drills);
            return twin;
        }

        boolean onLeave(int person, int day) {
            return leaves.stream().anyMatch(l -> l[0] == person && l[1] <= day && day <= l[2]);
        }

        List<Integer> turns() {
            List<Integer> turns = new ArrayList<>();
            for (int i = 0; i < 10; i++) {
                turns.add(i);
            }
            if (settings[0] == 1) {
                turns.sort((a, b) -> b - a);
            } else if (settings[0] == 2) {
                turns.sort((a, b) -> rows.get(a).size() - rows.get(b).size());
            }
            return turns;
        }

        /** By person, the floor; in the order of taking for each floor, those who help under 100 + floor too. */
        Map<Integer, List<Integer>> plan(int day) {
            Map<Integer, List<Integer>> plan = new HashMap<>();
            for (int i = 0; i < 10; i++) {
                plan.put(i, new ArrayList<>());
                plan.put(100 + i, new ArrayList<>());
            }
            List<Integer> everybody = new ArrayList<>();
            for (int i = 0; i < 16; i++) {
                everybody.add(i);
            }
            List<Integer> busy = new ArrayList<>();
            for (int round = 0; round <= settings[1]; round++) {
                for (int floor : turns()) {
                    for (int person : round == 0 ? rows.get(floor) : everybody) {
                        boolean wanted = plan.get(floor).size() < needs[floor];
                        if (wanted && day <= trained[person] && !onLeave(person, day) && !busy.contains(person)) {
                            busy.add(person);
                            plan.get(floor).add(person);
                            if (round == 1) {
                                plan.get(100 + floor).add(person);
                            }
                        }
                    }
                }
            }
            return plan;
        }

        int[] lacks(int day) {
            Map<Integer, List<Integer>> plan = plan(day);
            int[] lacks = new int[10];
            for (int i = 0; i < 10; i++) {
                lacks[i] = needs[i] - plan.get(i).size();
            }
            return lacks;
        }

        int serves(int person, int day) {
            Map<Integer, List<Integer>> plan = plan(day);
            for (int i = 0; i < 10; i++) {
                if (plan.get(i).contains(person)) {
                    return i;
                }
            }
            return -5;
        }

        int due(int quarter) {
            int set = 0;
            for (int i = 0; i < 10; i++) {
                int floor = i;
                if (needs[i] >= 1 && drills.stream().noneMatch(d -> d[0] == floor && d[1] / 100 == quarter)) {
                    set += 1 << i;
                }
            }
            return set;
        }

        int worse(int person, int from, int to) {
            int worse = 0;
            World then = twin();
            then.leaves.add(new int[] {person, from, to});
            for (int day = from; day <= to; day++) {
                int[] without = lacks(day);
                int[] with = then.lacks(day);
                for (int i = 0; i < 10; i++) {
                    worse += with[i] > without[i] ? with[i] - without[i] : 0;
                }
            }
            return worse;
        }

        int enlist(int floor, int person) {
            if (floor < 0 || floor > 9 || person < 0 || person > 15) {
                return -1;
            }
            List<Integer> row = rows.get(floor);
            if (row.contains(person)) {
                return -4;
            }
            if (row.size() == 5) {
                return -3;
            }
            row.add(person);
            return row.size();
        }

        int strike(int floor, int person) {
            if (floor < 0 || floor > 9 || person < 0 || person > 15) {
                return -1;
            }
            return rows.get(floor).remove((Integer) person) ? rows.get(floor).size() : -5;
        }

        int leaveError(int person, int from, int to) {
            if (person < 0 || person > 15) {
                return -1;
            }
            if (from < 0 || from > 399 || to < from || to > 399) {
                return -2;
            }
            for (int day = from; day <= to; day++) {
                if (onLeave(person, day)) {
                    return -4;
                }
            }
            return 0;
        }

        int leave(int person, int from, int to) {
            int error = leaveError(person, from, to);
            if (error != 0) {
                return error;
            }
            if (leaves.size() == 40) {
                return -3;
            }
            if (settings[2] == 1 && worse(person, from, to) > 0) {
                return -6;
            }
            leaves.add(new int[] {person, from, to});
            return to - from + 1;
        }

        int drill(int floor, int minutes) {
            if (floor < 0 || floor > 9) {
                return -1;
            }
            if (minutes < 1 || minutes > 60) {
                return -2;
            }
            if (needs[floor] == 0 || lacks(today)[floor] > 0) {
                return -4;
            }
            int leader = plan(today).get(floor).get(0);
            drills.add(new int[] {floor, today, minutes, leader});
            return leader;
        }

        int pass(int days) {
            if (days < 1 || days > 99) {
                return -2;
            }
            if (today + days > 399) {
                return -3;
            }
            today += days;
            return (int) Arrays.stream(lacks(today)).filter(l -> l > 0).count();
        }

        List<int[]> drillsOf(int floor) {
            List<int[]> found = new ArrayList<>();
            for (int[] drill : drills) {
                if (drill[0] == floor) {
                    found.add(0, drill);
                }
            }
            return found;
        }
    }

    World now = new World();
    private World snapshot;
    private final Deque<World> history = new ArrayDeque<>();
    private String text = "";
    private int stopOrder = -5;
    private int stopError = -5;

    /** Answers a call by the name of its method. */
    int call(String name, int a, int b, int c) {
        World before = now.twin();
        int answer;
        switch (name) {
            case "enlist": answer = now.enlist(a, b); break;
            case "strike": answer = now.strike(a, b); break;
            case "setNeed": answer = change(now.needs, a, b, 3); break;
            case "train": answer = change(now.trained, a, b, 399); break;
            case "set": answer = change(now.settings, a, b, a == 0 ? 2 : 1); break;
            case "leave": answer = now.leave(a, b, c); break;
            case "takeBack": answer = takeBack(a, b); break;
            case "drill": answer = now.drill(a, b); break;
            case "pass": answer = now.pass(a); break;
            case "perform": answer = perform(before); break;
            case "restore": answer = restore(); break;
            default: return told(name, a, b, c);
        }
        if (answer >= 0) {
            history.addLast(before);
            if (history.size() > 4) {
                history.removeFirst();
            }
        } else {
            now = before;
        }
        return answer;
    }

    private static int change(int[] values, int which, int value, int highest) {
        if (which < 0 || which >= values.length) {
            return -1;
        }
        if (value < 0 || value > highest) {
            return -2;
        }
        int previous = values[which];
        values[which] = value;
        return previous == value ? -5 : previous;
    }

    private int takeBack(int person, int day) {
        if (person < 0 || person > 15) {
            return -1;
        }
        if (day < 0 || day > 399) {
            return -2;
        }
        for (int[] leave : now.leaves) {
            if (leave[0] == person && leave[1] <= day && day <= leave[2]) {
                now.leaves.remove(leave);
                return leave[2] - leave[1] + 1;
            }
        }
        return -5;
    }

    private int restore() {
        if (snapshot == null) {
            return -5;
        }
        now = snapshot.twin();
        return now.today;
    }

    /** The length of the longest start of the text that can go on to be orders; -1 if the text is such. */
    private int fault() {
        for (int length = 1; length <= text.length(); length++) {
            Matcher matcher = ORDERS.matcher(text.substring(0, length));
            if (!matcher.matches() && !matcher.hitEnd()) {
                return length - 1;
            }
        }
        return ORDERS.matcher(text).matches() ? -1 : text.length();
    }

    private int perform(World before) {
        int fault = fault();
        if (fault >= 0) {
            return -100 - fault;
        }
        String[] orders = text.split(";");
        for (int i = 0; i < orders.length; i++) {
            String[] parts = orders[i].split(" ");
            int[] n = new int[3];
            for (int k = 1; k < parts.length; k++) {
                n[k - 1] = Integer.parseInt(parts[k]);
            }
            int answer = parts[0].equals("row") ? now.enlist(n[0], n[1])
                    : parts[0].equals("off") ? now.strike(n[0], n[1])
                    : parts[0].equals("leave") ? now.leave(n[0], n[1], n[2])
                    : parts[0].equals("drill") ? now.drill(n[0], n[1]) : now.pass(n[0]);
            if (answer < 0 && answer != -5) {
                stopOrder = i;
                stopError = answer;
                return -4;
            }
        }
        return orders.length;
    }

    private int told(String name, int a, int b, int c) {
        switch (name) {
            case "type":
                if (text.length() == 80) {
                    return -3;
                }
                text += (char) a;
                return text.length();
            case "clearText":
                int length = text.length();
                text = "";
                return length;
            case "stopped":
                return a == 0 ? stopOrder : a == 1 ? stopError : -2;
            case "undo":
                if (history.isEmpty()) {
                    return -5;
                }
                now = history.removeLast();
                return history.size();
            case "keep":
                snapshot = now.twin();
                return now.today;
            case "warden":
                return !floor(b) ? -1 : !day(a) || c < 0 ? -2 : at(now.plan(a).get(b), c);
            case "staff":
                return !floor(b) ? -1 : !day(a) || c < 0 || c > 2 ? -2
                        : c == 0 ? now.plan(a).get(b).size() : c == 1 ? now.lacks(a)[b] : now.plan(a).get(100 + b).size();
            case "floor":
                return !floor(a) ? -1 : floorTold(a, b);
            case "row":
                return !floor(a) ? -1 : b < 0 ? -2 : at(now.rows.get(a), b);
            case "person":
                return a < 0 || a > 15 ? -1 : personTold(a, b);
            case "log":
                return !floor(a) ? -1 : b < 0 || c < 0 || c > 2 ? -2
                        : b >= Math.min(6, now.drillsOf(a).size()) ? -5 : now.drillsOf(a).get(b)[c + 1];
            case "due":
                return a < 0 || a > 3 ? -1 : now.due(a);
            case "reason":
                return !floor(b) || c < 0 || c > 15 ? -1 : !day(a) ? -2 : reason(a, b, c);
            case "firstShort":
                return !floor(a) ? -1 : firstShort(a);
            case "load":
                return a < 0 || a > 15 ? -1 : b < 1 || b > 99 ? -2 : load(a, b);
            case "ifLeft":
                return now.leaveError(a, b, c) != 0 ? now.leaveError(a, b, c) : now.worse(a, b, c);
            case "bestDay":
                return a < 0 || a > 1 ? -2 : bestDay(a);
            case "count":
                return count(a);
            default:
                throw new IllegalArgumentException(name);
        }
    }

    private static boolean floor(int floor) {
        return floor >= 0 && floor <= 9;
    }

    private static boolean day(int day) {
        return day >= 0 && day <= 399;
    }

    private static int at(List<Integer> list, int place) {
        return place < list.size() ? list.get(place) : -5;
    }

    private int floorTold(int floor, int what) {
        List<int[]> drills = now.drillsOf(floor);
        switch (what) {
            case 0: return now.needs[floor];
            case 1: return now.rows.get(floor).size();
            case 2: return drills.size();
            case 3: return drills.isEmpty() ? -5 : drills.get(0)[1];
            default: return -2;
        }
    }

    private int personTold(int person, int what) {
        switch (what) {
            case 0: return now.trained[person];
            case 1: return (int) now.leaves.stream().filter(l -> l[0] == person).count();
            case 2: return now.leaves.stream().filter(l -> l[0] == person).mapToInt(l -> l[2] - l[1] + 1).sum();
            case 3:
                int set = 0;
                for (int i = 0; i < 10; i++) {
                    set += now.rows.get(i).contains(person) ? 1 << i : 0;
                }
                return set;
            case 4: return (int) now.drills.stream().filter(d -> d[3] == person).count();
            case 5: return now.serves(person, now.today);
            default: return -2;
        }
    }

    private int reason(int day, int floor, int person) {
        int serves = now.serves(person, day);
        return serves == floor ? 0 : now.onLeave(person, day) ? 1 : now.trained[person] < day ? 2
                : serves >= 0 ? 3 : now.rows.get(floor).contains(person) ? 5 : 4;
    }

    private int firstShort(int floor) {
        for (int day = now.today; day < 400; day++) {
            if (now.lacks(day)[floor] > 0) {
                return day;
            }
        }
        return -5;
    }

    private int load(int person, int days) {
        int load = 0;
        for (int day = now.today; day < now.today + days && day < 400; day++) {
            load += now.serves(person, day) >= 0 ? 1 : 0;
        }
        return load;
    }

    private int bestDay(int what) {
        int best = -5;
        int most = 0;
        for (int day = 399; day >= now.today; day--) {
            int set = now.due(day / 100);
            int[] lacks = now.lacks(day);
            for (int i = 0; i < 10; i++) {
                set &= lacks[i] > 0 ? ~(1 << i) : -1;
            }
            if (set != 0 && Integer.bitCount(set) >= Integer.bitCount(most)) {
                most = set;
                best = day;
            }
        }
        return best == -5 ? -5 : what == 0 ? best : most;
    }

    private int count(int what) {
        int[] lacks = now.lacks(now.today);
        switch (what) {
            case 0: return now.today;
            case 1: return now.today / 100;
            case 2: return (int) Arrays.stream(lacks).filter(l -> l > 0).count();
            case 3: return Arrays.stream(lacks).sum();
            case 4:
                int serve = 0;
                for (int i = 0; i < 16; i++) {
                    serve += now.serves(i, now.today) >= 0 ? 1 : 0;
                }
                return serve;
            case 5:
                int away = 0;
                for (int i = 0; i < 16; i++) {
                    away += now.onLeave(i, now.today) ? 1 : 0;
                }
                return away;
            case 6: return now.leaves.size();
            case 7: return now.drills.size();
            case 8: return now.drills.stream().mapToInt(d -> d[2]).sum();
            case 9: return now.settings[0];
            case 10: return now.settings[1];
            case 11: return now.settings[2];
            case 12: return history.size();
            case 13: return text.length();
            default: return -2;
        }
    }
}
