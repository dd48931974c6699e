import java.util.Random;

/** Long runs of calls, the same ones each time, compared with the model call by call. */
public final class RandomRunsTest {
    private static final Checks C = new Checks();
    private static final String[] ACTS = {
        "enlist", "enlist", "enlist", "enlist", "enlist", "strike", "setNeed", "train", "set", "leave", "leave", "leave",
        "takeBack", "drill", "drill", "pass", "undo", "keep", "restore", "text", "text"};
    private static final String[] TOLD = {
        "stopped", "warden", "warden", "staff", "floor", "row", "person", "log", "due", "reason", "reason", "firstShort",
        "load", "ifLeft", "bestDay", "count", "count"};

    private final Random random;
    private final DrillWardens x = new DrillWardens();
    private final Model model = new Model();
    private final int longest;
    private int calls;
    private boolean same = true;

    private RandomRunsTest(int seed) {
        random = new Random(seed);
        longest = seed % 4 == 0 ? 400 : 20;
    }

    public static void main(String[] args) {
        int runs = args.length > 0 ? Integer.parseInt(args[0]) : 150;
        for (int group = 0; group < 10; group++) {
            C.test("random runs, group " + group);
            for (int seed = group * runs / 10; seed < (group + 1) * runs / 10; seed++) {
                new RandomRunsTest(seed).run(seed);
            }
        }
        C.finish();
    }

    private void run(int seed) {
        boolean isBusy = seed % 3 == 0;
        while (calls < 510 && same) {
            String name = random.nextInt(isBusy ? 4 : 2) > 0 ? pick(ACTS) : pick(TOLD);
            boolean isReset = name.equals("restore") || name.equals("undo");
            if (name.equals("text")) {
                text();
            } else if (!isReset || random.nextInt(10) == 0) {
                both(seed, name);
            }
        }
    }

    private String pick(String[] names) {
        return names[random.nextInt(names.length)];
    }

    private void text() {
        StringBuilder text = new StringBuilder();
        int orders = 1 + random.nextInt(5);
        for (int i = 0; i < orders; i++) {
            text.append(i == 0 ? "" : ";").append(order());
        }
        if (random.nextInt(3) == 0) {
            spoil(text);
        }
        if (calls + text.length() + 2 > 510) {
            calls = 510;
            return;
        }
        call("clearText", 0, 0, 0);
        for (int i = 0; i < text.length(); i++) {
            call("type", text.charAt(i), 0, 0);
        }
        call("perform", 0, 0, 0);
    }

    private String order() {
        int floor = random.nextInt(random.nextBoolean() ? 3 : 10);
        int person = random.nextInt(16);
        switch (random.nextInt(5)) {
            case 0:
                return "row " + floor + " " + person;
            case 1:
                return "off " + floor + " " + person;
            case 2:
                int from = random.nextInt(400);
                return "leave " + person + " " + from + " " + Math.min(399, from - 1 + random.nextInt(longest));
            case 3:
                return "drill " + floor + " " + (1 + random.nextInt(60));
            default:
                return "pass " + (1 + random.nextInt(9));
        }
    }

    private void spoil(StringBuilder text) {
        int at = random.nextInt(text.length());
        String signs = "0123456789 ;roweafdilps";
        char sign = signs.charAt(random.nextInt(signs.length()));
        switch (random.nextInt(4)) {
            case 0:
                text.setCharAt(at, sign);
                break;
            case 1:
                text.insert(at, sign);
                break;
            case 2:
                text.deleteCharAt(at);
                break;
            default:
                text.setLength(at);
        }
    }

    /** A few floors are asked for more often, so that their rows and logs fill. */
    private int nearFloor() {
        return random.nextBoolean() ? near(2) : near(9);
    }

    private int near(int highest) {
        int dice = random.nextInt(40);
        return dice == 0 ? -1 : dice == 1 ? highest + 1 : random.nextInt(highest + 1);
    }

    private int nearDay() {
        return random.nextBoolean() ? near(399) : Math.min(400, model.now.today + random.nextInt(12));
    }

    private void both(int seed, String name) {
        switch (name) {
            case "enlist":
            case "strike":
                call(name, nearFloor(), near(15), 0);
                break;
            case "setNeed":
                call(name, nearFloor(), near(3), 0);
                break;
            case "train":
                call(name, near(15), random.nextInt(3) == 0 ? 399 : near(399), 0);
                break;
            case "set":
                call(name, near(2), near(2), 0);
                break;
            case "leave":
            case "ifLeft":
                int from = nearDay();
                call(name, near(15), from, Math.min(400, from - 1 + random.nextInt(longest)));
                break;
            case "takeBack":
                call(name, near(15), nearDay(), 0);
                break;
            case "drill":
                call(name, nearFloor(), near(60), 0);
                break;
            case "pass":
                call(name, random.nextInt(4) == 0 ? near(99) : near(9), 0, 0);
                break;
            case "warden":
                call(name, nearDay(), nearFloor(), near(3));
                break;
            case "staff":
                call(name, nearDay(), nearFloor(), near(2));
                break;
            case "floor":
                call(name, nearFloor(), near(3), 0);
                break;
            case "row":
                call(name, nearFloor(), near(5), 0);
                break;
            case "person":
                call(name, near(15), near(5), 0);
                break;
            case "log":
                call(name, nearFloor(), near(6), near(2));
                break;
            case "reason":
                call(name, nearDay(), nearFloor(), near(15));
                break;
            case "firstShort":
                call(name, nearFloor(), 0, 0);
                break;
            case "load":
                call(name, near(15), near(99), 0);
                break;
            case "count":
                call(name, near(13), 0, 0);
                break;
            default:
                call(name, near(name.equals("due") ? 3 : 1), 0, 0);
        }
        if (!same) {
            System.out.println("in the run of seed " + seed);
        }
    }

    private void call(String name, int a, int b, int c) {
        calls++;
        int got = answer(name, a, b, c);
        int want = model.call(name, a, b, c);
        if (got != want) {
            same = false;
        }
        C.due("call " + calls + ", " + name + "(" + a + ", " + b + ", " + c + ")", got, want);
    }

    private int answer(String name, int a, int b, int c) {
        switch (name) {
            case "enlist": return x.enlist(a, b);
            case "strike": return x.strike(a, b);
            case "setNeed": return x.setNeed(a, b);
            case "train": return x.train(a, b);
            case "set": return x.set(a, b);
            case "leave": return x.leave(a, b, c);
            case "takeBack": return x.takeBack(a, b);
            case "drill": return x.drill(a, b);
            case "pass": return x.pass(a);
            case "type": return x.type((char) a);
            case "clearText": return x.clearText();
            case "perform": return x.perform();
            case "stopped": return x.stopped(a);
            case "undo": return x.undo();
            case "keep": return x.keep();
            case "restore": return x.restore();
            case "warden": return x.warden(a, b, c);
            case "staff": return x.staff(a, b, c);
            case "floor": return x.floor(a, b);
            case "row": return x.row(a, b);
            case "person": return x.person(a, b);
            case "log": return x.log(a, b, c);
            case "due": return x.due(a);
            case "reason": return x.reason(a, b, c);
            case "firstShort": return x.firstShort(a);
            case "load": return x.load(a, b);
            case "ifLeft": return x.ifLeft(a, b, c);
            case "bestDay": return x.bestDay(a);
            default: return x.count(a);
        }
    }
}
