/** Promises 1 to 6: a new object, enlist, strike, setNeed, train, set. */
public final class FloorsTest {
    private static final Checks C = new Checks();

    public static void main(String[] args) {
        newObject();
        constants();
        enlist();
        strike();
        setNeed();
        train();
        settings();
        C.finish();
    }

    private static void newObject() {
        C.test("promise 1: a new object");
        DrillWardens x = new DrillWardens();
        for (int floor = 0; floor < 10; floor++) {
            C.due("floor(.., 0)", x.floor(floor, 0), 1);
            C.due("floor(.., 1)", x.floor(floor, 1), 0);
            C.due("floor(.., 2)", x.floor(floor, 2), 0);
            C.due("floor(.., 3)", x.floor(floor, 3), -5);
            C.due("row(.., 0)", x.row(floor, 0), -5);
        }
        for (int person = 0; person < 16; person++) {
            C.due("person(.., 0)", x.person(person, 0), 399);
            for (int what = 1; what < 5; what++) {
                C.due("person(.., " + what + ")", x.person(person, what), 0);
            }
            C.due("person(.., 5)", x.person(person, 5), -5);
        }
        int[] counts = {0, 0, 10, 10, 0, 0, 0, 0, 0, 0, 0, 0, 0, 0};
        for (int what = 0; what < counts.length; what++) {
            C.due("count(" + what + ")", x.count(what), counts[what]);
        }
        C.due("undo()", x.undo(), -5);
        C.due("restore()", x.restore(), -5);
        C.due("stopped(0)", x.stopped(0), -5);
        DrillWardens other = new DrillWardens();
        x.enlist(0, 0);
        C.due("another object's row", other.floor(0, 1), 0);
    }

    private static void constants() {
        C.test("the constants");
        C.due("UNKNOWN", DrillWardens.UNKNOWN, -1);
        C.due("BAD_VALUE", DrillWardens.BAD_VALUE, -2);
        C.due("FULL", DrillWardens.FULL, -3);
        C.due("NOT_POSSIBLE", DrillWardens.NOT_POSSIBLE, -4);
        C.due("NONE", DrillWardens.NONE, -5);
        C.due("REFUSED", DrillWardens.REFUSED, -6);
    }

    private static void enlist() {
        C.test("promise 2: enlist");
        DrillWardens x = new DrillWardens();
        C.due("enlist(9, 15)", x.enlist(9, 15), 1);
        C.due("enlist(9, 0)", x.enlist(9, 0), 2);
        C.due("enlist(0, 15)", x.enlist(0, 15), 1);
        C.due("row(9, 0)", x.row(9, 0), 15);
        C.due("row(9, 1)", x.row(9, 1), 0);
        C.due("history", x.count(12), 3);

        C.test("promise 2: enlist, errors");
        x = new DrillWardens();
        C.due("enlist(-1, 0)", x.enlist(-1, 0), -1);
        C.due("enlist(10, 0)", x.enlist(10, 0), -1);
        C.due("enlist(0, -1)", x.enlist(0, -1), -1);
        C.due("enlist(0, 16)", x.enlist(0, 16), -1);
        Checks.enlist(x, 4, 1, 2, 3, 4, 5);
        C.due("history", x.count(12), 4);
        String picture = Checks.picture(x);
        C.due("enlist(4, 5), in it ahead of full", x.enlist(4, 5), -4);
        C.due("enlist(4, 6)", x.enlist(4, 6), -3);
        C.holds("errors change nothing", picture.equals(Checks.picture(x)));
    }

    private static void strike() {
        C.test("promise 3: strike");
        DrillWardens x = new DrillWardens();
        Checks.enlist(x, 4, 1, 2, 3, 4, 5);
        Checks.enlist(x, 5, 1, 6);
        C.due("strike(4, 1)", x.strike(4, 1), 4);
        C.due("row(4, 0)", x.row(4, 0), 2);
        C.due("row(4, 3)", x.row(4, 3), 5);
        C.due("row(4, 4)", x.row(4, 4), -5);
        C.due("strike(4, 5)", x.strike(4, 5), 3);
        C.due("strike(4, 3)", x.strike(4, 3), 2);
        C.due("row(4, 1)", x.row(4, 1), 4);
        C.due("row(5, 0)", x.row(5, 0), 1);
        C.due("enlist(4, 3)", x.enlist(4, 3), 3);
        C.due("row(4, 2)", x.row(4, 2), 3);
        C.due("strike(5, 1)", x.strike(5, 1), 1);
        C.due("strike(5, 6)", x.strike(5, 6), 0);
        C.due("undo()", x.undo(), 3);
        C.due("row(5, 0)", x.row(5, 0), 6);

        C.test("promise 3: strike, errors");
        x = new DrillWardens();
        x.enlist(3, 3);
        String picture = Checks.picture(x);
        C.due("strike(-1, 3)", x.strike(-1, 3), -1);
        C.due("strike(10, 3)", x.strike(10, 3), -1);
        C.due("strike(3, -1)", x.strike(3, -1), -1);
        C.due("strike(3, 16)", x.strike(3, 16), -1);
        C.due("strike(3, 4)", x.strike(3, 4), -5);
        C.due("strike(4, 3)", x.strike(4, 3), -5);
        C.due("strike(4, 0), of an empty row", x.strike(4, 0), -5);
        C.holds("errors change nothing", picture.equals(Checks.picture(x)));
    }

    private static void setNeed() {
        C.test("promise 4: setNeed");
        DrillWardens x = new DrillWardens();
        C.due("setNeed(0, 3)", x.setNeed(0, 3), 1);
        C.due("setNeed(0, 0)", x.setNeed(0, 0), 3);
        C.due("setNeed(9, 2)", x.setNeed(9, 2), 1);
        C.due("floor(0, 0)", x.floor(0, 0), 0);
        C.due("floor(9, 0)", x.floor(9, 0), 2);
        C.due("floor(8, 0)", x.floor(8, 0), 1);
        C.due("short", x.count(3), 10);
        C.due("history", x.count(12), 3);
        C.due("undo()", x.undo(), 2);
        C.due("floor(9, 0)", x.floor(9, 0), 1);

        C.test("promise 4: setNeed, errors");
        C.due("setNeed(10, 9)", x.setNeed(10, 9), -1);
        C.due("setNeed(-1, 1)", x.setNeed(-1, 1), -1);
        C.due("setNeed(1, 4)", x.setNeed(1, 4), -2);
        C.due("setNeed(1, -1)", x.setNeed(1, -1), -2);
        C.due("setNeed(1, 1)", x.setNeed(1, 1), -5);
        C.due("history", x.count(12), 2);
    }

    private static void train() {
        C.test("promise 5: train");
        DrillWardens x = new DrillWardens();
        x.enlist(0, 15);
        C.due("train(15, 7)", x.train(15, 7), 399);
        C.due("train(15, 0)", x.train(15, 0), 7);
        C.due("train(0, 398)", x.train(0, 398), 399);
        C.due("person(15, 0)", x.person(15, 0), 0);
        C.due("that day is counted", x.warden(0, 0, 0), 15);
        C.due("the day behind it is not", x.warden(1, 0, 0), -5);
        C.due("history", x.count(12), 4);
        C.due("undo()", x.undo(), 3);
        C.due("person(0, 0)", x.person(0, 0), 399);
        C.due("train(0, 0) is not lower than today", x.train(0, 0), 399);

        C.test("promise 5: train, errors");
        x = new DrillWardens();
        C.due("train(16, -1)", x.train(16, -1), -1);
        C.due("train(-1, 3)", x.train(-1, 3), -1);
        C.due("train(3, -1)", x.train(3, -1), -2);
        C.due("train(3, 400)", x.train(3, 400), -2);
        C.due("train(3, 399)", x.train(3, 399), -5);
        C.due("history", x.count(12), 0);
    }

    private static void settings() {
        C.test("promise 6: set");
        DrillWardens x = new DrillWardens();
        C.due("set(0, 2)", x.set(0, 2), 0);
        C.due("set(0, 1)", x.set(0, 1), 2);
        C.due("set(1, 1)", x.set(1, 1), 0);
        C.due("set(2, 1)", x.set(2, 1), 0);
        C.due("count(9)", x.count(9), 1);
        C.due("count(10)", x.count(10), 1);
        C.due("count(11)", x.count(11), 1);
        C.due("set(2, 0)", x.set(2, 0), 1);
        C.due("undo()", x.undo(), 3);
        C.due("count(11)", x.count(11), 1);

        C.test("promise 6: set, errors");
        x = new DrillWardens();
        C.due("set(3, 9)", x.set(3, 9), -1);
        C.due("set(-1, 0)", x.set(-1, 0), -1);
        C.due("set(0, 3)", x.set(0, 3), -2);
        C.due("set(0, -1)", x.set(0, -1), -2);
        C.due("set(1, 2)", x.set(1, 2), -2);
        C.due("set(2, 2)", x.set(2, 2), -2);
        C.due("set(2, -1)", x.set(2, -1), -2);
        C.due("set(0, 0)", x.set(0, 0), -5);
        C.due("history", x.count(12), 0);
    }
}
