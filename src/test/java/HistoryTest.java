/** Promises 15 to 17: undo, keep, restore. */
public final class HistoryTest {
    private static final Checks C = new Checks();

    public static void main(String[] args) {
        undo();
        undoOfEveryAct();
        keep();
        restore();
        C.finish();
    }

    private static void undo() {
        C.test("promise 15: undo");
        DrillWardens x = new DrillWardens();
        C.due("undo()", x.undo(), -5);
        for (int person = 0; person < 5; person++) {
            x.enlist(0, person);
        }
        C.due("count(12)", x.count(12), 4);
        for (int left = 3; left >= 0; left--) {
            C.due("undo()", x.undo(), left);
            C.due("floor(0, 1)", x.floor(0, 1), left + 1);
        }
        C.due("the oldest one was dropped", x.undo(), -5);
        C.due("floor(0, 1)", x.floor(0, 1), 1);
        x.enlist(0, 9);
        C.due("undo()", x.undo(), 0);
        C.due("row(0, 1)", x.row(0, 1), -5);

        C.test("promise 15: undo of leaves and logs");
        x = new DrillWardens();
        x.leave(3, 1, 5);
        x.leave(4, 10, 12);
        x.takeBack(3, 3);
        x.undo();
        C.due("takeBack(3, 2)", x.takeBack(3, 2), 5);
        C.due("takeBack(4, 11)", x.takeBack(4, 11), 3);
        x.undo();
        x.undo();
        C.due("person(3, 2)", x.person(3, 2), 5);
        C.due("person(4, 2)", x.person(4, 2), 3);
        x.enlist(0, 7);
        x.drill(0, 11);
        x.pass(1);
        x.leave(7, 1, 1);
        x.set(1, 1);
        x.drill(0, 22);
        x.undo();
        C.due("log(0, 0, 0)", x.log(0, 0, 0), 0);
        C.due("log(0, 0, 1)", x.log(0, 0, 1), 11);
        C.due("log(0, 0, 2)", x.log(0, 0, 2), 7);

        C.test("promise 15: undo, states dropped and used again");
        x = new DrillWardens();
        for (int day = 1; day <= 9; day++) {
            x.pass(1);
        }
        C.due("undo()", x.undo(), 3);
        C.due("undo()", x.undo(), 2);
        x.pass(20);
        x.pass(20);
        x.pass(20);
        int[] days = {47, 27, 7, 6};
        for (int i = 0; i < 4; i++) {
            C.due("undo()", x.undo(), 3 - i);
            C.due("count(0)", x.count(0), days[i]);
        }
        C.due("undo()", x.undo(), -5);
    }

    private static void undoOfEveryAct() {
        C.test("promise 15: undo of every act");
        for (int act = 0; act < 10; act++) {
            DrillWardens x = new DrillWardens();
            Checks.enlist(x, 2, 5, 6, 7);
            x.leave(5, 0, 3);
            x.keep();
            x.drill(2, 9);
            x.undo();
            Checks.write(x, "row 3 3;drill 2 5;leave 9 9 9;pass 2");
            String picture = Checks.picture(x);
            C.holds("act " + act + " is carried out", act(x, act) >= 0);
            C.due("undo()", x.undo(), 3);
            C.holds("act " + act + " is undone", picture.equals(Checks.picture(x)));
        }
    }

    private static int act(DrillWardens x, int which) {
        switch (which) {
            case 0:
                return x.enlist(2, 1);
            case 1:
                return x.strike(2, 6);
            case 2:
                return x.setNeed(2, 3);
            case 3:
                return x.train(6, 0);
            case 4:
                return x.set(0, 2);
            case 5:
                return x.leave(6, 0, 0);
            case 6:
                return x.takeBack(5, 0);
            case 7:
                return x.drill(2, 30);
            case 8:
                return x.pass(5);
            default:
                return x.perform();
        }
    }

    private static void keep() {
        C.test("promise 16: keep");
        DrillWardens x = new DrillWardens();
        C.due("keep()", x.keep(), 0);
        C.due("it is not an act", x.count(12), 0);
        x.pass(7);
        C.due("keep()", x.keep(), 7);
        x.pass(7);
        C.due("restore()", x.restore(), 7);
        C.due("count(0)", x.count(0), 7);
        x.enlist(0, 0);
        C.due("restore()", x.restore(), 7);
        C.due("what came later is not in it", x.floor(0, 1), 0);
    }

    private static void restore() {
        C.test("promise 17: restore");
        DrillWardens x = new DrillWardens();
        C.due("restore()", x.restore(), -5);
        C.due("history", x.count(12), 0);
        Checks.enlist(x, 4, 4, 5);
        x.leave(4, 2, 3);
        x.drill(4, 44);
        Checks.write(x, "pass 1");
        x.keep();
        String picture = Checks.picture(x);
        x.pass(3);
        x.strike(4, 4);
        x.takeBack(4, 2);
        x.set(0, 1);
        x.train(5, 5);
        x.setNeed(4, 2);
        x.drill(4, 4);
        C.due("restore()", x.restore(), 0);
        C.holds("all is as it was", picture.equals(Checks.picture(x)));
        C.due("it is an act: undo()", x.undo(), 3);
        C.due("count(0)", x.count(0), 3);
        C.due("floor(4, 0)", x.floor(4, 0), 2);
        C.due("the snapshot stays: restore()", x.restore(), 0);
        C.due("restore()", x.restore(), 0);
        C.due("undo()", x.undo(), 3);
        x.type('9');
        x.restore();
        C.due("the text is not of the state", x.count(13), 7);
    }
}
