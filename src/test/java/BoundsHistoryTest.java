import java.util.function.ToIntFunction;

/** The boundary cases of the history and of errors: the terms of them and the promises 15 to 17, a test for each sentence. */
public final class BoundsHistoryTest {
    private static final Checks C = new Checks();

    public static void main(String[] args) {
        fourStates();
        actsRecord();
        othersDoNotRecord();
        oneSnapshot();
        stateIsAllBut();
        leavesAndLogsAreState();
        constants();
        orderOfErrors();
        noneIsLast();
        changesNothing();
        undo();
        keep();
        restore();
        C.finish();
    }

    private static void fourStates() {
        C.sentence(0, "A history of at most 4 states is kept; when one more is recorded, the oldest one is dropped; undo() removes and restores the latest one.");
        for (int acts = 0; acts <= 12; acts++) {
            DrillWardens x = new DrillWardens();
            for (int i = 0; i < acts; i++) {
                C.due("count(12) behind " + i, x.count(12), Math.min(i, 4));
                x.pass(1);
            }
            int kept = Math.min(acts, 4);
            C.due("count(12) behind " + acts, x.count(12), kept);
            for (int left = kept - 1; left >= 0; left--) {
                C.due("undo() behind " + acts, x.undo(), left);
                C.due("count(12) behind " + acts, x.count(12), left);
                C.due("count(0) behind " + acts, x.count(0), acts - kept + left);
            }
            C.due("undo() of none, behind " + acts, x.undo(), -5);
            C.due("count(0) behind " + acts, x.count(0), acts - kept);
        }
    }

    /** All acts, on an object that is busy; none of them answers with an error or NONE. */
    private static int act(DrillWardens x, int which) {
        switch (which) {
            case 0: return x.enlist(0, 0);
            case 1: return x.strike(2, 9);
            case 2: return x.setNeed(0, 0);
            case 3: return x.train(15, 0);
            case 4: return x.set(1, 1);
            case 5: return x.leave(15, 399, 399);
            case 6: return x.takeBack(5, 39);
            case 7: return x.drill(3, 60);
            case 8: return x.pass(99);
            case 9: return x.perform();
            default: return x.restore();
        }
    }

    private static void actsRecord() {
        C.sentence(0, "Each call of a method that is described as an act, and returns no error and not NONE, records the state that was before it.");
        for (int which = 0; which <= 10; which++) {
            DrillWardens x = new DrillWardens();
            Checks.busy(x);
            String before = Checks.stateOf(x);
            C.holds("the act " + which + " is carried out", act(x, which) >= 0);
            C.due("count(12) behind the act " + which, x.count(12), 4);
            C.due("undo() of the act " + which, x.undo(), 3);
            C.holds("the state ahead of the act " + which + " is back", before.equals(Checks.stateOf(x)));
        }
        DrillWardens y = new DrillWardens();
        C.due("an answer of 0 is no error: set(0, 1)", y.set(0, 1), 0);
        C.due("count(12)", y.count(12), 1);
        y.keep();
        C.due("restore(), to what is so already", y.restore(), 0);
        C.due("count(12)", y.count(12), 2);
    }

    private static void othersDoNotRecord() {
        C.sentence(0, "Each call of a method that is described as an act");
        DrillWardens x = new DrillWardens();
        x.pass(5);
        C.due("type('p')", x.type('p'), 1);
        C.due("clearText()", x.clearText(), 1);
        C.due("keep()", x.keep(), 5);
        C.due("stopped(0)", x.stopped(0), -5);
        C.due("warden(0, 0, 0)", x.warden(0, 0, 0), -5);
        C.due("ifLeft(0, 0, 0)", x.ifLeft(0, 0, 0), 0);
        C.due("bestDay(0)", x.bestDay(0), -5);
        C.due("firstShort(0)", x.firstShort(0), 5);
        C.due("load(0, 9)", x.load(0, 9), 0);
        C.due("count(12)", x.count(12), 1);
        C.due("undo() is not undone by undo()", x.undo(), 0);
        C.due("undo()", x.undo(), -5);
        C.due("count(0)", x.count(0), 0);
    }

    private static void oneSnapshot() {
        C.sentence(0, "There is one snapshot, empty at first.");
        DrillWardens x = new DrillWardens();
        C.due("restore()", x.restore(), -5);
        x.pass(3);
        C.due("restore()", x.restore(), -5);
        x.keep();
        x.pass(4);
        x.keep();
        C.due("restore(), the one behind", x.restore(), 7);
        x.undo();
        x.undo();
        C.due("restore(), undo() does not bring back the one ahead", x.restore(), 7);
    }

    private static void stateIsAllBut() {
        C.sentence(0, "A state is everything but the text, the history, the snapshot and the latest stop.");
        DrillWardens x = new DrillWardens();
        x.enlist(0, 3);
        Checks.write(x, "row 0 4");
        x.keep();
        x.pass(1);
        x.keep();
        x.pass(1);
        Checks.perform(x, "row 0 4;row 0 4");
        x.pass(1);
        C.due("undo()", x.undo(), 3);
        C.due("the text: count(13)", x.count(13), 15);
        C.due("the latest stop: stopped(0)", x.stopped(0), 1);
        C.due("undo()", x.undo(), 2);
        C.due("undo()", x.undo(), 1);
        C.due("the snapshot: restore()", x.restore(), 1);
        C.due("the history: count(12)", x.count(12), 2);
        C.due("the text: count(13)", x.count(13), 15);
        C.due("the latest stop: stopped(1)", x.stopped(1), -4);

        C.sentence(0, "A state is everything");
        DrillWardens y = new DrillWardens();
        Checks.busy(y);
        y.keep();
        String before = Checks.picture(y);
        y.enlist(0, 0);
        y.strike(2, 5);
        y.setNeed(9, 3);
        y.train(0, 1);
        y.set(0, 2);
        y.set(1, 1);
        y.set(2, 0);
        y.leave(1, 0, 399);
        y.takeBack(6, 1);
        y.drill(3, 33);
        y.pass(9);
        C.due("restore()", y.restore(), 2);
        C.holds("all is as it was", before.equals(Checks.picture(y)));
    }

    private static void leavesAndLogsAreState() {
        C.sentence(0, "A state is everything but the text");
        DrillWardens x = new DrillWardens();
        Checks.enlist(x, 0, 3, 4);
        x.leave(5, 10, 19);
        x.drill(0, 11);
        x.keep();
        x.takeBack(5, 10);
        x.leave(6, 30, 49);
        x.leave(3, 0, 0);
        x.drill(0, 22);
        x.pass(1);
        x.drill(0, 33);
        x.restore();
        C.inside("reason(.., 0, 5)", 0, 60, day -> x.reason(day, 0, 5), day -> day >= 10 && day <= 19 ? 1 : 4);
        C.inside("reason(.., 0, 6)", 0, 60, day -> x.reason(day, 0, 6), day -> 4);
        int[] first = {0, 11, 3};
        C.inside("log(0, 0, ..)", 0, 2, what -> x.log(0, 0, what), what -> first[what]);
        C.due("log(0, 1, 0)", x.log(0, 1, 0), -5);
        C.due("undo()", x.undo(), 3);
        C.inside("reason(.., 0, 5)", 0, 60, day -> x.reason(day, 0, 5), day -> 4);
        C.inside("reason(.., 0, 6)", 0, 60, day -> x.reason(day, 0, 6), day -> day >= 30 && day <= 49 ? 1 : 4);
        int[] third = {1, 33, 3};
        C.inside("log(0, 0, ..)", 0, 2, what -> x.log(0, 0, what), what -> third[what]);
        C.due("undo()", x.undo(), 2);
        C.due("undo()", x.undo(), 1);
        int[] second = {0, 22, 4};
        C.inside("log(0, 0, ..)", 0, 2, what -> x.log(0, 0, what), what -> second[what]);
        C.inside("log(0, 1, ..)", 0, 2, what -> x.log(0, 1, what), what -> first[what]);
    }

    private static void constants() {
        C.sentence(0, "Errors are reported by the constants below.");
        DrillWardens full = new DrillWardens();
        Checks.fullOfLeaves(full);
        int[] answers = {full.enlist(-1, 0), full.train(0, -1), full.leave(1, 0, 0), full.leave(0, 0, 0)};
        C.inside("an error", 0, 3, i -> answers[i], i -> -1 - i);
        C.due("a fault of the text is one too", full.perform(), -100);

        C.sentence(0, "`UNKNOWN = -1`: There is no such floor, person, quarter or setting.");
        DrillWardens x = new DrillWardens();
        C.due("UNKNOWN", DrillWardens.UNKNOWN, -1);
        C.due("a floor", x.floor(10, 0), DrillWardens.UNKNOWN);
        C.due("a person", x.person(16, 0), DrillWardens.UNKNOWN);
        C.due("a quarter", x.due(4), DrillWardens.UNKNOWN);
        C.due("a setting", x.set(3, 0), DrillWardens.UNKNOWN);

        C.sentence(0, "`BAD_VALUE = -2`: Another argument is out of range.");
        C.due("BAD_VALUE", DrillWardens.BAD_VALUE, -2);
        C.due("a number", x.setNeed(0, 4), DrillWardens.BAD_VALUE);
        C.due("a day", x.train(0, 400), DrillWardens.BAD_VALUE);
        C.due("what", x.count(14), DrillWardens.BAD_VALUE);

        C.sentence(0, "`FULL = -3`: There is no more room.");
        C.due("FULL", DrillWardens.FULL, -3);
        Checks.enlist(x, 0, 1, 2, 3, 4, 5);
        C.due("a row", x.enlist(0, 6), DrillWardens.FULL);

        C.sentence(0, "`NOT_POSSIBLE = -4`: This is not possible.");
        C.due("NOT_POSSIBLE", DrillWardens.NOT_POSSIBLE, -4);
        C.due("a drill", x.drill(1, 1), DrillWardens.NOT_POSSIBLE);

        C.sentence(0, "`NONE = -5`: There is no such thing; not an error.");
        C.due("NONE", DrillWardens.NONE, -5);
        C.due("a place in a row", x.row(1, 0), DrillWardens.NONE);

        C.sentence(0, "`REFUSED = -6`: A leave is refused.");
        C.due("REFUSED", DrillWardens.REFUSED, -6);
        Checks.enlist(x, 1, 15);
        x.set(2, 1);
        C.due("a leave", x.leave(15, 0, 0), DrillWardens.REFUSED);
    }

    private static void orderOfErrors() {
        C.sentence(0, "Where several errors can apply, the order of the @return line is the order of the checks.");
        DrillWardens x = new DrillWardens();
        Checks.busy(x);
        C.due("enlist(10, 5)", x.enlist(10, 5), -1);
        C.due("enlist(2, 16)", x.enlist(2, 16), -1);
        C.due("enlist(2, 5)", x.enlist(2, 5), -4);
        C.due("setNeed(10, 4)", x.setNeed(10, 4), -1);
        C.due("train(16, 400)", x.train(16, 400), -1);
        C.due("set(3, 3)", x.set(3, 3), -1);
        C.due("leave(16, 5, 4)", x.leave(16, 5, 4), -1);
        C.due("leave(6, 3, 2)", x.leave(6, 3, 2), -2);
        C.due("takeBack(16, 400)", x.takeBack(16, 400), -1);
        C.due("drill(10, 0)", x.drill(10, 0), -1);
        C.due("drill(0, 0)", x.drill(0, 0), -2);
        C.due("warden(400, 10, -1)", x.warden(400, 10, -1), -1);
        C.due("staff(400, 10, 3)", x.staff(400, 10, 3), -1);
        C.due("floor(10, 4)", x.floor(10, 4), -1);
        C.due("row(10, -1)", x.row(10, -1), -1);
        C.due("person(16, 6)", x.person(16, 6), -1);
        C.due("log(10, -1, 3)", x.log(10, -1, 3), -1);
        C.due("reason(400, 10, 0)", x.reason(400, 10, 0), -1);
        C.due("reason(400, 0, 16)", x.reason(400, 0, 16), -1);
        C.due("load(16, 0)", x.load(16, 0), -1);
        C.due("ifLeft(16, 5, 4)", x.ifLeft(16, 5, 4), -1);
        C.due("ifLeft(6, 3, 2)", x.ifLeft(6, 3, 2), -2);
        Checks.passTo(x, 399);
        C.due("pass(100)", x.pass(100), -2);
        DrillWardens y = new DrillWardens();
        Checks.fullOfLeaves(y);
        y.enlist(0, 0);
        y.set(2, 1);
        C.due("leave(0, 5, 4), full", y.leave(0, 5, 4), -2);
        C.due("leave(0, 0, 5), full", y.leave(0, 0, 5), -4);
        C.due("leave(0, 5, 5), full, to be refused", y.leave(0, 5, 5), -3);
    }

    private static void noneIsLast() {
        C.sentence(0, "NONE is no error; it is returned only if no error applies.");
        DrillWardens x = new DrillWardens();
        C.due("strike(0, 16)", x.strike(0, 16), -1);
        C.due("strike(0, 15)", x.strike(0, 15), -5);
        C.due("takeBack(0, 400)", x.takeBack(0, 400), -2);
        C.due("takeBack(0, 399)", x.takeBack(0, 399), -5);
        C.due("stopped(2)", x.stopped(2), -2);
        C.due("stopped(1)", x.stopped(1), -5);
        C.due("warden(400, 0, 9)", x.warden(400, 0, 9), -2);
        C.due("warden(399, 0, 9)", x.warden(399, 0, 9), -5);
        C.due("row(0, -1)", x.row(0, -1), -2);
        C.due("row(0, 0)", x.row(0, 0), -5);
        C.due("log(0, 0, 3)", x.log(0, 0, 3), -2);
        C.due("log(0, 0, 2)", x.log(0, 0, 2), -5);
        C.due("floor(0, 4)", x.floor(0, 4), -2);
        C.due("floor(0, 3)", x.floor(0, 3), -5);
        C.due("person(0, 6)", x.person(0, 6), -2);
        C.due("person(0, 5)", x.person(0, 5), -5);
        C.due("bestDay(2)", x.bestDay(2), -2);
        C.due("bestDay(1)", x.bestDay(1), -5);
        C.due("orders that answer NONE: perform()", Checks.perform(x, "off 0 0"), 1);
    }

    private static void same(String call, ToIntFunction<DrillWardens> answer, int want) {
        C.refused(call, Checks::busy, answer, want);
    }

    private static void changesNothing() {
        C.sentence(0, "A call that returns an error or NONE changes nothing (but for the latest stop of perform()).");
        same("enlist(10, 0)", x -> x.enlist(10, 0), -1);
        same("enlist(2, 5)", x -> x.enlist(2, 5), -4);
        same("enlist(2, 0)", x -> x.enlist(2, 0), -3);
        same("strike(2, 16)", x -> x.strike(2, 16), -1);
        same("strike(2, 0)", x -> x.strike(2, 0), -5);
        same("setNeed(0, 4)", x -> x.setNeed(0, 4), -2);
        same("setNeed(2, 2)", x -> x.setNeed(2, 2), -5);
        same("train(9, 400)", x -> x.train(9, 400), -2);
        same("train(9, 50)", x -> x.train(9, 50), -5);
        same("set(0, 3)", x -> x.set(0, 3), -2);
        same("set(2, 1)", x -> x.set(2, 1), -5);
        same("leave(0, 5, 4)", x -> x.leave(0, 5, 4), -2);
        same("leave(5, 0, 30)", x -> x.leave(5, 0, 30), -4);
        same("leave(10, 0, 399)", x -> x.leave(10, 0, 399), -6);
        same("takeBack(6, 400)", x -> x.takeBack(6, 400), -2);
        same("takeBack(6, 4)", x -> x.takeBack(6, 4), -5);
        same("drill(2, 61)", x -> x.drill(2, 61), -2);
        same("drill(0, 60)", x -> x.drill(0, 60), -4);
        same("pass(100)", x -> x.pass(100), -2);
        same("stopped(2)", x -> x.stopped(2), -2);
        same("warden(0, 0, 0)", x -> x.warden(0, 0, 0), -5);
        same("staff(400, 0, 0)", x -> x.staff(400, 0, 0), -2);
        same("row(0, 0)", x -> x.row(0, 0), -5);
        same("person(0, 5)", x -> x.person(0, 5), -5);
        same("log(0, 0, 0)", x -> x.log(0, 0, 0), -5);
        same("load(0, 100)", x -> x.load(0, 100), -2);
        same("ifLeft(5, 0, 30)", x -> x.ifLeft(5, 0, 30), -4);
        same("bestDay(2)", x -> x.bestDay(2), -2);
        same("count(14)", x -> x.count(14), -2);

        C.sentence(0, "(but for the latest stop of perform())");
        C.refused("perform(), stopped", x -> {
            Checks.busy(x);
            Checks.write(x, "pass 2;drill 9 2");
        }, DrillWardens::perform, -4);
        DrillWardens x = new DrillWardens();
        Checks.busy(x);
        C.due("stopped(0)", x.stopped(0), 0);
        C.due("perform()", Checks.perform(x, "pass 2;drill 9 2"), -4);
        C.due("stopped(0)", x.stopped(0), 1);
    }

    private static void undo() {
        C.sentence(15, "Removes and restores the latest state of the history.");
        DrillWardens x = new DrillWardens();
        x.enlist(0, 3);
        x.drill(0, 5);
        x.leave(3, 0, 0);
        C.due("undo()", x.undo(), 2);
        C.due("drill(0, 6), the leave being undone", x.drill(0, 6), 3);
        C.due("undo()", x.undo(), 2);
        C.due("undo()", x.undo(), 1);
        C.due("log(0, 0, 1)", x.log(0, 0, 1), -5);
        C.due("undo()", x.undo(), 0);
        C.due("floor(0, 1)", x.floor(0, 1), 0);

        C.sentence(15, "the number of states that are left");
        DrillWardens y = new DrillWardens();
        for (int i = 0; i < 6; i++) {
            y.pass(1);
        }
        C.inside("undo()", 0, 3, i -> y.undo(), i -> 3 - i);
        y.pass(1);
        C.due("undo() of the only one", y.undo(), 0);
        C.due("count(0)", y.count(0), 2);

        C.sentence(15, "NONE if the history is empty");
        C.inside("undo()", 0, 9, i -> y.undo(), i -> -5);
        C.due("count(0)", y.count(0), 2);
        C.refused("undo() of a new object", a -> Checks.write(a, "pass 1"), DrillWardens::undo, -5);
        C.refused("undo() of all and one more", a -> {
            Checks.busy(a);
            for (int i = 0; i < 4; i++) {
                a.undo();
            }
        }, DrillWardens::undo, -5);
    }

    private static void keep() {
        C.sentence(16, "Takes a snapshot of the state, in place of the one that was.");
        DrillWardens x = new DrillWardens();
        x.keep();
        x.enlist(0, 3);
        x.keep();
        x.strike(0, 3);
        x.restore();
        C.due("floor(0, 1)", x.floor(0, 1), 1);
        C.due("it is no act: count(12)", x.count(12), 3);
        x.enlist(0, 4);
        x.restore();
        C.due("acts behind it leave it: floor(0, 1)", x.floor(0, 1), 1);

        C.sentence(16, "the day that is today");
        DrillWardens y = new DrillWardens();
        C.due("keep()", y.keep(), 0);
        Checks.passTo(y, 399);
        C.due("keep()", y.keep(), 399);
        y.undo();
        C.due("keep()", y.keep(), 396);
    }

    private static void restore() {
        C.sentence(17, "Restores the state of the snapshot, which stays.");
        DrillWardens x = new DrillWardens();
        Checks.busy(x);
        x.keep();
        String before = Checks.picture(x);
        x.pass(50);
        x.drill(3, 3);
        C.due("restore()", x.restore(), 2);
        C.holds("all is as it was", before.equals(Checks.picture(x)));
        x.pass(9);
        C.due("restore() a second time", x.restore(), 2);
        C.due("restore() at once", x.restore(), 2);
        C.due("floor(3, 2)", x.floor(3, 2), 0);

        C.sentence(17, "This is an act.");
        DrillWardens y = new DrillWardens();
        y.keep();
        y.pass(9);
        C.due("restore()", y.restore(), 0);
        C.due("count(12)", y.count(12), 2);
        C.due("undo()", y.undo(), 1);
        C.due("count(0)", y.count(0), 9);
        for (int i = 0; i < 5; i++) {
            y.restore();
        }
        C.due("count(12)", y.count(12), 4);

        C.sentence(17, "the day that is today then");
        DrillWardens z = new DrillWardens();
        Checks.passTo(z, 399);
        z.keep();
        z.undo();
        C.due("restore()", z.restore(), 399);
        C.due("count(0)", z.count(0), 399);

        C.sentence(17, "NONE if there is no snapshot");
        C.refused("restore() of a new object", a -> Checks.write(a, "pass 1"), DrillWardens::restore, -5);
        C.refused("restore() behind acts", a -> {
            a.enlist(0, 0);
            a.pass(1);
        }, DrillWardens::restore, -5);
    }
}
