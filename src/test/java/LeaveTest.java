/** Promises 7 to 10: leave, takeBack, drill, pass. */
public final class LeaveTest {
    private static final Checks C = new Checks();

    public static void main(String[] args) {
        leave();
        leaveFull();
        leaveRefused();
        takeBack();
        drill();
        pass();
        C.finish();
    }

    private static void leave() {
        C.test("promise 7: leave");
        DrillWardens x = new DrillWardens();
        C.due("leave(0, 0, 399)", x.leave(0, 0, 399), 400);
        C.due("leave(15, 7, 7)", x.leave(15, 7, 7), 1);
        C.due("leave(15, 8, 10), next to it", x.leave(15, 8, 10), 3);
        C.due("leave(15, 3, 6), next to it", x.leave(15, 3, 6), 4);
        C.due("person(15, 1)", x.person(15, 1), 3);
        C.due("person(15, 2)", x.person(15, 2), 8);
        C.due("history", x.count(12), 4);
        x.pass(50);
        C.due("leave(14, 3, 6), in the past", x.leave(14, 3, 6), 4);

        C.test("promise 7: leave, errors");
        x = new DrillWardens();
        x.leave(3, 10, 20);
        String picture = Checks.picture(x);
        C.due("leave(16, 9, 8)", x.leave(16, 9, 8), -1);
        C.due("leave(-1, 0, 0)", x.leave(-1, 0, 0), -1);
        C.due("leave(3, 15, 14)", x.leave(3, 15, 14), -2);
        C.due("leave(3, -1, 14)", x.leave(3, -1, 14), -2);
        C.due("leave(3, 15, 400)", x.leave(3, 15, 400), -2);
        C.due("leave(3, 400, 400)", x.leave(3, 400, 400), -2);
        C.due("leave(3, 0, 10)", x.leave(3, 0, 10), -4);
        C.due("leave(3, 20, 30)", x.leave(3, 20, 30), -4);
        C.due("leave(3, 12, 13)", x.leave(3, 12, 13), -4);
        C.due("leave(3, 0, 399)", x.leave(3, 0, 399), -4);
        C.holds("errors change nothing", picture.equals(Checks.picture(x)));
        C.due("leave(3, 0, 9)", x.leave(3, 0, 9), 10);
    }

    private static void leaveFull() {
        C.test("promise 7: leave, 40 of them");
        DrillWardens x = new DrillWardens();
        for (int i = 0; i < 40; i++) {
            C.due("leave", x.leave(i % 16, 2 * i, 2 * i), 1);
        }
        C.due("count(6)", x.count(6), 40);
        C.due("not possible is ahead of full", x.leave(0, 0, 399), -4);
        C.due("leave(0, 399, 399)", x.leave(0, 399, 399), -3);
        x.set(2, 1);
        x.enlist(0, 0);
        C.due("full is ahead of refused", x.leave(0, 399, 399), -3);
        C.due("takeBack(1, 2)", x.takeBack(1, 2), 1);
        C.due("leave(1, 399, 399)", x.leave(1, 399, 399), 1);
        C.due("leave(1, 398, 398)", x.leave(1, 398, 398), -3);
    }

    private static void leaveRefused() {
        C.test("promise 7: leave, refused");
        DrillWardens x = new DrillWardens();
        Checks.enlist(x, 2, 4, 5);
        x.set(2, 1);
        C.due("leave(4, 0, 9), a deputy is there", x.leave(4, 0, 9), 10);
        C.due("leave(5, 9, 12), on one day there is none", x.leave(5, 9, 12), -6);
        C.due("leave(5, 10, 12)", x.leave(5, 10, 12), 3);
        C.due("leave(6, 0, 399), not in a row", x.leave(6, 0, 399), 400);
        C.due("leave(4, 30, 31)", x.leave(4, 30, 31), 2);
        C.due("leave(5, 25, 35)", x.leave(5, 25, 35), -6);
        x.set(1, 1);
        C.due("help from any floor", x.leave(5, 25, 35), 11);

        C.test("promise 7: leave, refused though another floor gains");
        x = new DrillWardens();
        Checks.needOnly(x, 3);
        Checks.enlist(x, 0, 1, 2);
        Checks.enlist(x, 1, 2);
        x.set(2, 1);
        C.due("leave(1, 5, 5) takes 2 from floor 1", x.leave(1, 5, 5), -6);
        C.due("history", x.count(12), 4);
        x.setNeed(1, 0);
        C.due("leave(1, 5, 5)", x.leave(1, 5, 5), 1);

        C.test("promise 7: leave, of one who is not trained any more");
        x = new DrillWardens();
        x.enlist(0, 1);
        x.train(1, 49);
        x.set(2, 1);
        C.due("leave(1, 50, 399)", x.leave(1, 50, 399), 350);
        C.due("leave(1, 49, 49)", x.leave(1, 49, 49), -6);
    }

    private static void takeBack() {
        C.test("promise 8: takeBack");
        DrillWardens x = new DrillWardens();
        x.leave(3, 10, 20);
        x.leave(4, 10, 15);
        x.leave(3, 21, 21);
        C.due("takeBack(3, 20)", x.takeBack(3, 20), 11);
        C.due("person(3, 2)", x.person(3, 2), 1);
        C.due("person(4, 2)", x.person(4, 2), 6);
        C.due("takeBack(3, 10)", x.takeBack(3, 10), -5);
        C.due("takeBack(4, 10)", x.takeBack(4, 10), 6);
        C.due("takeBack(3, 21)", x.takeBack(3, 21), 1);
        C.due("count(6)", x.count(6), 0);
        C.due("undo()", x.undo(), 3);
        C.due("undo()", x.undo(), 2);
        C.due("person(4, 2)", x.person(4, 2), 6);

        C.test("promise 8: takeBack, errors");
        C.due("takeBack(16, -1)", x.takeBack(16, -1), -1);
        C.due("takeBack(-1, 0)", x.takeBack(-1, 0), -1);
        C.due("takeBack(4, -1)", x.takeBack(4, -1), -2);
        C.due("takeBack(4, 400)", x.takeBack(4, 400), -2);
        C.due("takeBack(4, 9)", x.takeBack(4, 9), -5);
        C.due("takeBack(4, 16)", x.takeBack(4, 16), -5);
        C.due("count(6)", x.count(6), 2);
        C.due("history", x.count(12), 2);
    }

    private static void drill() {
        C.test("promise 9: drill");
        DrillWardens x = new DrillWardens();
        Checks.enlist(x, 1, 8, 9);
        C.due("drill(1, 60)", x.drill(1, 60), 8);
        x.leave(8, 0, 0);
        C.due("drill(1, 1), by the deputy", x.drill(1, 1), 9);
        C.due("person(8, 4)", x.person(8, 4), 1);
        C.due("person(9, 4)", x.person(9, 4), 1);
        C.due("count(7)", x.count(7), 2);
        C.due("count(8)", x.count(8), 61);
        C.due("history", x.count(12), 4);
        C.due("undo()", x.undo(), 3);
        C.due("person(9, 4)", x.person(9, 4), 0);
        C.due("count(8)", x.count(8), 60);
        x.set(1, 1);
        C.due("drill(5, 7), by one who helps", x.drill(5, 7), 4);

        C.test("promise 9: drill, errors");
        x = new DrillWardens();
        Checks.enlist(x, 1, 8, 9);
        C.due("drill(10, 0)", x.drill(10, 0), -1);
        C.due("drill(-1, 5)", x.drill(-1, 5), -1);
        C.due("drill(0, 0), bad value ahead of not possible", x.drill(0, 0), -2);
        C.due("drill(1, 61)", x.drill(1, 61), -2);
        C.due("drill(1, -1)", x.drill(1, -1), -2);
        C.due("drill(0, 5), short", x.drill(0, 5), -4);
        x.setNeed(1, 3);
        C.due("drill(1, 5), short by one", x.drill(1, 5), -4);
        x.setNeed(1, 0);
        C.due("drill(1, 5), no need", x.drill(1, 5), -4);
        C.due("count(7)", x.count(7), 0);
        C.due("history", x.count(12), 4);
    }

    private static void pass() {
        C.test("promise 10: pass");
        DrillWardens x = new DrillWardens();
        Checks.enlist(x, 0, 3);
        x.train(3, 98);
        C.due("pass(98)", x.pass(98), 9);
        C.due("pass(1)", x.pass(1), 10);
        C.due("count(0)", x.count(0), 99);
        C.due("count(1)", x.count(1), 0);
        C.due("history", x.count(12), 4);
        C.due("pass(1)", x.pass(1), 10);
        C.due("count(1)", x.count(1), 1);
        C.due("undo()", x.undo(), 3);
        C.due("count(0)", x.count(0), 99);

        C.test("promise 10: pass, errors");
        x = new DrillWardens();
        C.due("pass(0)", x.pass(0), -2);
        C.due("pass(100)", x.pass(100), -2);
        C.due("pass(-1)", x.pass(-1), -2);
        for (int i = 0; i < 4; i++) {
            C.due("pass(99)", x.pass(99), 10);
        }
        C.due("pass(4)", x.pass(4), -3);
        C.due("pass(100) at the end", x.pass(100), -2);
        C.due("pass(3)", x.pass(3), 10);
        C.due("count(0)", x.count(0), 399);
        C.due("pass(1)", x.pass(1), -3);
        C.due("undo()", x.undo(), 3);
        C.due("count(0)", x.count(0), 396);
    }
}
