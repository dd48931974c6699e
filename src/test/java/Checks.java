import java.util.function.Consumer;
import java.util.function.IntUnaryOperator;
import java.util.function.ToIntFunction;

/** Counts tests: a test passes if every one of its checks holds. */
final class Checks {
    /** Some of these times 3, 5 or 6 wrap around to a small number. */
    private static final int[] FAR = {
        1 << 30, 858_993_460, 1_431_655_766, 715_827_883, Integer.MAX_VALUE - 1, Integer.MAX_VALUE};
    private static final int[] STEPS = {1, 2, 16, 32, 256, 65_536};
    private static final int WAYS = 7;

    private int passed;
    private int failed;
    private String test = "";
    private boolean holds = true;

    /** Begins a test; the one before it ends. */
    void test(String name) {
        end();
        test = name;
        holds = true;
    }

    /**
     * Begins a test of a sentence of the document, told word for word; SentencesTest looks whether it stands there.
     * The promise 0 is what the document says ahead of the promise 1.
     */
    void sentence(int promise, String words) {
        test((promise == 0 ? "terms" : "promise " + promise) + ": \"" + words + "\"");
    }

    void due(String call, long got, long want) {
        if (got != want) {
            holds = false;
            System.out.println(test + ": " + call + " answered " + got + ", due is " + want);
        }
    }

    void holds(String what, boolean isSo) {
        if (!isSo) {
            holds = false;
            System.out.println(test + ": this does not hold: " + what);
        }
    }

    /** Every value of a range, its edges too, is answered as is wanted. */
    void inside(String call, int lowest, int highest, IntUnaryOperator answer, IntUnaryOperator want) {
        for (int value = lowest; value <= highest; value++) {
            due(call + " with " + value, answer.applyAsInt(value), want.applyAsInt(value));
        }
    }

    /** No value is taken for one of the range: neither those next to it nor those far away. */
    void outside(String call, int lowest, int highest, IntUnaryOperator answer, int want) {
        for (int step : STEPS) {
            due(call + " with " + (highest + step), answer.applyAsInt(highest + step), want);
        }
        for (int far : FAR) {
            due(call + " with " + far, answer.applyAsInt(far), want);
        }
        tooSmall(call, lowest, answer, want);
    }

    /** As outside(), for a range that has no end. */
    void tooSmall(String call, int lowest, IntUnaryOperator answer, int want) {
        for (int step : STEPS) {
            due(call + " with " + (lowest - step), answer.applyAsInt(lowest - step), want);
        }
        for (int far : FAR) {
            due(call + " with " + -far, answer.applyAsInt(-far), want);
        }
        due(call + " with MIN_VALUE", answer.applyAsInt(Integer.MIN_VALUE), want);
    }

    /** As outside(), for places behind the last one. */
    void tooMany(String call, int first, IntUnaryOperator answer) {
        for (int place = first; place < first + 20; place++) {
            due(call + " with " + place, answer.applyAsInt(place), -5);
        }
        for (int far : FAR) {
            due(call + " with " + far, answer.applyAsInt(far), -5);
        }
    }

    /**
     * A call that is refused changes nothing: an object on which it was made and one on which it was not tell the
     * same, and so they do after undo(), restore() and perform().
     */
    void refused(String call, Consumer<DrillWardens> scene, ToIntFunction<DrillWardens> answer, int want) {
        for (int way = 0; way < WAYS; way++) {
            DrillWardens without = new DrillWardens();
            scene.accept(without);
            DrillWardens with = new DrillWardens();
            scene.accept(with);
            due(call, answer.applyAsInt(with), want);
            if (!call.startsWith("perform")) {
                due("stopped(0) after " + call, with.stopped(0), without.stopped(0));
                due("stopped(1) after " + call, with.stopped(1), without.stopped(1));
            }
            bringOut(without, way);
            bringOut(with, way);
            holds(call + " changes nothing, by the way " + way, picture(without).equals(picture(with)));
        }
    }

    private static void bringOut(DrillWardens x, int way) {
        for (int i = 0; i < way && way < 5; i++) {
            x.undo();
        }
        if (way == 5) {
            x.restore();
        } else if (way == 6) {
            x.perform();
        }
    }

    private void end() {
        if (!test.isEmpty()) {
            if (holds) {
                passed++;
            } else {
                failed++;
            }
        }
        test = "";
    }

    /** Ends the program; .ci/run adds up these last lines. */
    void finish() {
        end();
        System.out.println(passed + " passed, " + failed + " failed");
        System.exit(failed == 0 ? 0 : 1);
    }

    /** Puts a text in place of the one that was. */
    static void write(DrillWardens x, String text) {
        x.clearText();
        for (int i = 0; i < text.length(); i++) {
            x.type(text.charAt(i));
        }
    }

    static int perform(DrillWardens x, String text) {
        write(x, text);
        return x.perform();
    }

    /** Puts persons at the end of the row of a floor. */
    static void enlist(DrillWardens x, int floor, int... persons) {
        for (int person : persons) {
            x.enlist(floor, person);
        }
    }

    /** Only the floors of the set need a warden then, one each. */
    static void needOnly(DrillWardens x, int floors) {
        for (int floor = 0; floor < 10; floor++) {
            x.setNeed(floor, floors >> floor & 1);
        }
    }

    /** Today is the day then; it is not before the one that is today. */
    static void passTo(DrillWardens x, int day) {
        int left = day - x.count(0);
        while (left > 0) {
            x.pass(Math.min(left, 99));
            left -= Math.min(left, 99);
        }
    }

    /**
     * Some of everything: a stop, the full row 5, 6, 7, 8, 9 of the floor 2, the row 5, 10 of the floor 3, leaves,
     * a drill, a snapshot of the day 0, four states, today being the day 2, the setting 2, and a text.
     */
    static void busy(DrillWardens x) {
        perform(x, "drill 9 1");
        enlist(x, 2, 5, 6, 7, 8, 9);
        enlist(x, 3, 5, 10);
        x.leave(6, 0, 3);
        x.leave(5, 30, 39);
        x.drill(2, 9);
        x.keep();
        x.setNeed(2, 2);
        x.train(9, 50);
        x.set(2, 1);
        x.pass(2);
        write(x, "pass 2");
    }

    /** 40 leaves of one day each, by all persons in turn, on the even days up to 78. */
    static void fullOfLeaves(DrillWardens x) {
        for (int i = 0; i < 40; i++) {
            x.leave(i % 16, 2 * i, 2 * i);
        }
    }

    /** What is told, so that "changes nothing" can be looked at. */
    static String picture(DrillWardens x) {
        return stateOf(x) + " " + x.count(12) + " " + x.count(13);
    }

    /** What is told of the state, by less than 250 calls: an object is good for 512. */
    static String stateOf(DrillWardens x) {
        StringBuilder told = new StringBuilder();
        for (int floor = 0; floor < 10; floor++) {
            for (int what = 0; what < 4; what++) {
                told.append(x.floor(floor, what)).append(' ');
            }
            for (int place = 0; place < x.floor(floor, 1); place++) {
                told.append(x.row(floor, place)).append(' ');
            }
            for (int rank = 0; x.log(floor, rank, 0) != -5; rank++) {
                told.append(x.log(floor, rank, 0)).append(' ');
                told.append(x.log(floor, rank, 1)).append(' ');
                told.append(x.log(floor, rank, 2)).append(' ');
            }
        }
        for (int person = 0; person < 16; person++) {
            for (int what = 0; what < 6; what++) {
                told.append(x.person(person, what)).append(' ');
            }
        }
        for (int what = 0; what < 12; what++) {
            told.append(x.count(what)).append(' ');
        }
        for (int quarter = 0; quarter < 4; quarter++) {
            told.append(x.due(quarter)).append(' ');
        }
        return told.append(x.bestDay(0)).append(' ').append(x.bestDay(1)).toString();
    }
}
