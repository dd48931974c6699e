/** Promises 18 to 30: what is told. */
public final class ToldTest {
    private static final Checks C = new Checks();

    public static void main(String[] args) {
        warden();
        staff();
        floorAndRow();
        person();
        log();
        due();
        reason();
        firstShort();
        load();
        ifLeft();
        bestDay();
        count();
        zero();
        C.finish();
    }

    /** Two floors want the person 1. */
    private static DrillWardens wanted() {
        DrillWardens x = new DrillWardens();
        Checks.enlist(x, 3, 1, 2, 4);
        Checks.enlist(x, 6, 1, 5);
        return x;
    }

    private static void warden() {
        C.test("promise 18: warden, the order of floors");
        DrillWardens x = wanted();
        C.due("warden(0, 3, 0)", x.warden(0, 3, 0), 1);
        C.due("warden(0, 6, 0)", x.warden(0, 6, 0), 5);
        x.set(0, 1);
        C.due("9 first: warden(0, 3, 0)", x.warden(0, 3, 0), 2);
        C.due("9 first: warden(0, 6, 0)", x.warden(0, 6, 0), 1);
        x.set(0, 2);
        C.due("shortest row first: warden(0, 6, 0)", x.warden(0, 6, 0), 1);
        x.enlist(6, 7);
        C.due("of several the lowest: warden(0, 3, 0)", x.warden(0, 3, 0), 1);
        x.enlist(3, 8);
        C.due("shortest row first: warden(0, 3, 0)", x.warden(0, 3, 0), 2);
        x.leave(1, 0, 0);
        C.due("on leave: warden(0, 6, 0)", x.warden(0, 6, 0), 5);
        C.due("on leave: warden(1, 6, 0)", x.warden(1, 6, 0), 1);

        C.test("promise 18: warden, ranks");
        x = wanted();
        x.setNeed(3, 3);
        C.due("warden(399, 3, 0)", x.warden(399, 3, 0), 1);
        C.due("warden(399, 3, 1)", x.warden(399, 3, 1), 2);
        C.due("warden(399, 3, 2)", x.warden(399, 3, 2), 4);
        C.due("warden(399, 3, 3)", x.warden(399, 3, 3), -5);
        C.due("warden(0, 6, 1)", x.warden(0, 6, 1), -5);
        C.due("warden(0, 3, MAX)", x.warden(0, 3, Integer.MAX_VALUE), -5);

        C.test("promise 18: warden, help");
        x.set(1, 1);
        int[] helped = {0, 3, 6, 0, 7, 8, 0, 9, 10, 11};
        for (int floor = 0; floor < 10; floor++) {
            if (floor != 3 && floor != 6) {
                C.due("warden(0, " + floor + ", 0)", x.warden(0, floor, 0), helped[floor]);
            }
        }
        x.set(0, 1);
        C.due("9 first: warden(0, 9, 0)", x.warden(0, 9, 0), 0);
        C.due("9 first: warden(0, 3, 0)", x.warden(0, 3, 0), 2);
        C.due("9 first: warden(0, 3, 1)", x.warden(0, 3, 1), 4);
        C.due("9 first: warden(0, 3, 2)", x.warden(0, 3, 2), 8);

        C.test("promise 18: warden, errors");
        C.due("warden(-1, 10, 0)", x.warden(-1, 10, 0), -1);
        C.due("warden(0, -1, 0)", x.warden(0, -1, 0), -1);
        C.due("warden(-1, 0, 0)", x.warden(-1, 0, 0), -2);
        C.due("warden(400, 0, 0)", x.warden(400, 0, 0), -2);
        C.due("warden(0, 0, -1)", x.warden(0, 0, -1), -2);
    }

    private static void staff() {
        C.test("promise 19: staff");
        DrillWardens x = wanted();
        x.setNeed(6, 3);
        C.due("staff(0, 6, 0)", x.staff(0, 6, 0), 1);
        C.due("staff(0, 6, 1)", x.staff(0, 6, 1), 2);
        C.due("staff(0, 6, 2)", x.staff(0, 6, 2), 0);
        C.due("staff(0, 3, 1)", x.staff(0, 3, 1), 0);
        x.set(1, 1);
        C.due("staff(0, 6, 0)", x.staff(0, 6, 0), 3);
        C.due("staff(0, 6, 1)", x.staff(0, 6, 1), 0);
        C.due("staff(0, 6, 2)", x.staff(0, 6, 2), 2);
        C.due("staff(0, 3, 2)", x.staff(0, 3, 2), 0);
        for (int p = 0; p < 16; p++) {
            x.train(p, 50);
        }
        C.due("staff(50, 6, 0)", x.staff(50, 6, 0), 3);
        C.due("staff(51, 6, 1)", x.staff(51, 6, 1), 3);
        x.setNeed(6, 0);
        C.due("staff(51, 6, 1)", x.staff(51, 6, 1), 0);

        C.test("promise 19: staff, errors");
        C.due("staff(-1, 10, 0)", x.staff(-1, 10, 0), -1);
        C.due("staff(0, -1, 3)", x.staff(0, -1, 3), -1);
        C.due("staff(-1, 0, 0)", x.staff(-1, 0, 0), -2);
        C.due("staff(400, 0, 0)", x.staff(400, 0, 0), -2);
        C.due("staff(0, 0, 3)", x.staff(0, 0, 3), -2);
        C.due("staff(0, 0, -1)", x.staff(0, 0, -1), -2);
    }

    private static void floorAndRow() {
        C.test("promise 20: floor");
        DrillWardens x = wanted();
        x.setNeed(3, 2);
        x.pass(5);
        for (int i = 0; i < 8; i++) {
            x.drill(3, 5);
        }
        x.pass(4);
        x.drill(3, 6);
        x.pass(4);
        C.due("floor(3, 0)", x.floor(3, 0), 2);
        C.due("floor(3, 1)", x.floor(3, 1), 3);
        C.due("floor(3, 2)", x.floor(3, 2), 9);
        C.due("floor(3, 3)", x.floor(3, 3), 9);
        C.due("floor(6, 2)", x.floor(6, 2), 0);
        C.due("floor(6, 3)", x.floor(6, 3), -5);
        C.due("floor(10, 9)", x.floor(10, 9), -1);
        C.due("floor(-1, 0)", x.floor(-1, 0), -1);
        C.due("floor(0, 4)", x.floor(0, 4), -2);
        C.due("floor(0, -1)", x.floor(0, -1), -2);

        C.test("promise 21: row");
        C.due("row(3, 0)", x.row(3, 0), 1);
        C.due("row(3, 2)", x.row(3, 2), 4);
        C.due("row(3, 3)", x.row(3, 3), -5);
        C.due("row(3, MAX)", x.row(3, Integer.MAX_VALUE), -5);
        C.due("row(9, 5)", x.row(9, 5), -5);
        C.due("row(0, -1)", x.row(0, -1), -2);
        C.due("row(10, -1)", x.row(10, -1), -1);
        C.due("row(-1, 0)", x.row(-1, 0), -1);
    }

    private static void person() {
        C.test("promise 22: person");
        DrillWardens x = wanted();
        x.enlist(9, 1);
        x.train(1, 200);
        x.leave(1, 1, 3);
        x.leave(1, 4, 4);
        x.leave(2, 4, 4);
        x.drill(3, 3);
        x.drill(3, 4);
        C.due("person(1, 0)", x.person(1, 0), 200);
        C.due("person(1, 1)", x.person(1, 1), 2);
        C.due("person(1, 2)", x.person(1, 2), 4);
        C.due("person(1, 3)", x.person(1, 3), 8 + 64 + 512);
        C.due("person(1, 4)", x.person(1, 4), 2);
        C.due("person(1, 5)", x.person(1, 5), 3);
        C.due("person(2, 5)", x.person(2, 5), -5);
        C.due("person(5, 5)", x.person(5, 5), 6);
        x.pass(1);
        C.due("person(1, 5), on leave", x.person(1, 5), -5);
        C.due("person(2, 5), the deputy", x.person(2, 5), 3);
        x.set(1, 1);
        C.due("person(0, 5), who helps", x.person(0, 5), 0);
        C.due("person(16, 9)", x.person(16, 9), -1);
        C.due("person(-1, 0)", x.person(-1, 0), -1);
        C.due("person(0, 6)", x.person(0, 6), -2);
        C.due("person(0, -1)", x.person(0, -1), -2);
    }

    private static void log() {
        C.test("promise 23: log");
        DrillWardens x = wanted();
        C.due("log(3, 0, 0)", x.log(3, 0, 0), -5);
        for (int i = 1; i <= 7; i++) {
            x.drill(3, i);
            x.drill(6, 10 + i);
            x.pass(10);
        }
        x.leave(1, 70, 70);
        x.drill(3, 60);
        C.due("log(3, 0, 0)", x.log(3, 0, 0), 70);
        C.due("log(3, 0, 1)", x.log(3, 0, 1), 60);
        C.due("log(3, 0, 2)", x.log(3, 0, 2), 2);
        C.due("log(3, 1, 2)", x.log(3, 1, 2), 1);
        C.due("log(3, 5, 0)", x.log(3, 5, 0), 20);
        C.due("log(3, 5, 1)", x.log(3, 5, 1), 3);
        C.due("log(3, 6, 0)", x.log(3, 6, 0), -5);
        C.due("log(6, 0, 1)", x.log(6, 0, 1), 17);
        C.due("log(6, 5, 0)", x.log(6, 5, 0), 10);
        C.due("log(6, 5, 2)", x.log(6, 5, 2), 5);
        C.due("log(3, MAX, 0)", x.log(3, Integer.MAX_VALUE, 0), -5);
        C.due("log(10, -1, 0)", x.log(10, -1, 0), -1);
        C.due("log(-1, 0, 0)", x.log(-1, 0, 0), -1);
        C.due("log(3, -1, 0)", x.log(3, -1, 0), -2);
        C.due("log(3, 9, 3), bad value ahead of none", x.log(3, 9, 3), -2);
        C.due("log(3, 0, -1)", x.log(3, 0, -1), -2);
    }

    private static void due() {
        C.test("promise 24: due");
        DrillWardens x = wanted();
        Checks.needOnly(x, 8 + 64 + 512);
        C.due("due(0)", x.due(0), 8 + 64 + 512);
        C.due("due(3)", x.due(3), 8 + 64 + 512);
        x.drill(3, 1);
        C.due("due(0)", x.due(0), 64 + 512);
        C.due("due(1)", x.due(1), 8 + 64 + 512);
        x.pass(99);
        x.drill(6, 1);
        x.pass(1);
        for (int i = 0; i < 7; i++) {
            x.drill(3, 1);
        }
        C.due("due(0), though the log forgot", x.due(0), 512);
        C.due("due(1)", x.due(1), 64 + 512);
        x.setNeed(9, 0);
        x.setNeed(3, 2);
        C.due("due(1)", x.due(1), 64);
        C.due("due(2)", x.due(2), 8 + 64);
        x.setNeed(3, 0);
        C.due("due(2)", x.due(2), 64);
        C.due("due(-1)", x.due(-1), -1);
        C.due("due(4)", x.due(4), -1);
    }

    private static void reason() {
        C.test("promise 25: reason");
        DrillWardens x = wanted();
        C.due("serves", x.reason(0, 3, 1), 0);
        C.due("serves on another floor", x.reason(0, 6, 1), 3);
        C.due("that ahead of not in its row", x.reason(0, 9, 1), 3);
        C.due("not in its row", x.reason(0, 3, 9), 4);
        C.due("enough others", x.reason(0, 3, 4), 5);
        x.train(1, 10);
        x.leave(1, 10, 12);
        x.leave(9, 0, 0);
        C.due("on leave", x.reason(10, 3, 1), 1);
        C.due("on leave ahead of not trained", x.reason(11, 3, 1), 1);
        C.due("not trained", x.reason(13, 3, 1), 2);
        C.due("on leave ahead of not in its row", x.reason(0, 3, 9), 1);
        C.due("the deputy serves", x.reason(13, 3, 2), 0);
        x.train(4, 60);
        C.due("the last day of training", x.reason(60, 3, 4), 5);
        C.due("the day behind it", x.reason(61, 3, 4), 2);
        x.train(9, 50);
        C.due("not trained ahead of not in its row", x.reason(399, 3, 9), 2);
        x.setNeed(3, 0);
        C.due("enough others, of none", x.reason(0, 3, 4), 5);
        x.set(1, 1);
        C.due("who helps serves", x.reason(0, 0, 0), 0);
        C.due("who helps elsewhere", x.reason(0, 1, 0), 3);
        C.due("not in its row, with help", x.reason(0, 0, 15), 4);
        C.due("reason(-1, 10, 0)", x.reason(-1, 10, 0), -1);
        C.due("reason(0, -1, 0)", x.reason(0, -1, 0), -1);
        C.due("reason(-1, 0, 16)", x.reason(-1, 0, 16), -1);
        C.due("reason(0, 0, -1)", x.reason(0, 0, -1), -1);
        C.due("reason(-1, 0, 0)", x.reason(-1, 0, 0), -2);
        C.due("reason(400, 0, 0)", x.reason(400, 0, 0), -2);
    }

    private static void firstShort() {
        C.test("promise 26: firstShort");
        DrillWardens x = wanted();
        C.due("firstShort(0)", x.firstShort(0), 0);
        C.due("firstShort(6)", x.firstShort(6), -5);
        x.leave(5, 30, 40);
        C.due("firstShort(6)", x.firstShort(6), 30);
        x.pass(35);
        C.due("from today on", x.firstShort(6), 35);
        x.pass(6);
        C.due("behind the leave", x.firstShort(6), -5);
        x.leave(5, 399, 399);
        C.due("firstShort(6)", x.firstShort(6), 399);
        x.setNeed(0, 0);
        C.due("no need", x.firstShort(0), -5);
        x.setNeed(3, 2);
        x.train(1, 100);
        C.due("firstShort(3)", x.firstShort(3), -5);
        C.due("firstShort(6)", x.firstShort(6), 399);
        x.train(4, 200);
        C.due("firstShort(3)", x.firstShort(3), 201);
        C.due("firstShort(10)", x.firstShort(10), -1);
        C.due("firstShort(-1)", x.firstShort(-1), -1);
    }

    private static void load() {
        C.test("promise 27: load");
        DrillWardens x = wanted();
        C.due("load(1, 99)", x.load(1, 99), 99);
        C.due("load(2, 99)", x.load(2, 99), 0);
        C.due("load(1, 1)", x.load(1, 1), 1);
        x.leave(1, 10, 12);
        C.due("load(1, 10)", x.load(1, 10), 10);
        C.due("load(1, 12)", x.load(1, 12), 10);
        C.due("load(1, 99)", x.load(1, 99), 96);
        C.due("load(2, 99)", x.load(2, 99), 3);
        x.pass(11);
        C.due("load(2, 1)", x.load(2, 1), 1);
        C.due("load(2, 99)", x.load(2, 99), 2);
        x.pass(99);
        x.pass(99);
        x.pass(99);
        x.pass(90);
        C.due("up to 399", x.load(1, 99), 2);
        C.due("load(1, 1)", x.load(1, 1), 1);
        C.due("load(16, 0)", x.load(16, 0), -1);
        C.due("load(-1, 1)", x.load(-1, 1), -1);
        C.due("load(1, 0)", x.load(1, 0), -2);
        C.due("load(1, 100)", x.load(1, 100), -2);
    }

    private static void ifLeft() {
        C.test("promise 28: ifLeft");
        DrillWardens x = wanted();
        C.due("ifLeft(1, 0, 399), deputies", x.ifLeft(1, 0, 399), 0);
        C.due("ifLeft(5, 0, 399), no deputy", x.ifLeft(5, 0, 399), 400);
        C.due("ifLeft(5, 3, 3)", x.ifLeft(5, 3, 3), 1);
        x.leave(2, 8, 12);
        x.leave(4, 10, 20);
        C.due("ifLeft(1, 0, 399)", x.ifLeft(1, 0, 399), 3);
        C.due("ifLeft(1, 11, 30)", x.ifLeft(1, 11, 30), 2);
        C.due("ifLeft(2, 0, 7)", x.ifLeft(2, 0, 7), 0);
        x.pass(50);
        C.due("days that were", x.ifLeft(1, 0, 399), 3);
        x.set(2, 1);
        C.due("whatever the setting 2 is", x.ifLeft(5, 0, 399), 400);
        C.due("it is not an act", x.person(5, 1), 0);

        C.test("promise 28: ifLeft, another floor gains");
        x = new DrillWardens();
        Checks.needOnly(x, 2);
        Checks.enlist(x, 0, 1, 2);
        Checks.enlist(x, 1, 2);
        x.setNeed(0, 1);
        C.due("ifLeft(1, 5, 6)", x.ifLeft(1, 5, 6), 2);
        x = new DrillWardens();
        Checks.needOnly(x, 15);
        Checks.enlist(x, 0, 1, 2);
        Checks.enlist(x, 1, 2, 3, 4);
        Checks.enlist(x, 2, 3, 5);
        Checks.enlist(x, 3, 5);
        x.setNeed(1, 2);
        C.due("1 is short on a day", x.staff(0, 1, 1), 0);
        C.due("3 takes 5", x.staff(0, 3, 1), 1);
        C.due("ifLeft(1, 0, 0): 0 takes 2, 1 takes 3 and 4", x.ifLeft(1, 0, 0), 0);
        C.due("ifLeft(2, 0, 0)", x.ifLeft(2, 0, 0), 0);
        C.due("ifLeft(5, 0, 0)", x.ifLeft(5, 0, 0), 1);
        C.due("ifLeft(4, 0, 0)", x.ifLeft(4, 0, 0), 0);

        C.test("promise 28: ifLeft, what is gained does not lessen it");
        x = new DrillWardens();
        Checks.needOnly(x, 7);
        Checks.enlist(x, 0, 1, 2);
        Checks.enlist(x, 1, 2, 3);
        Checks.enlist(x, 2, 3);
        x.setNeed(0, 2);
        x.setNeed(1, 2);
        C.due("short", x.count(3), 2);
        C.due("ifLeft(1, 0, 0)", x.ifLeft(1, 0, 0), 1);
        C.due("ifLeft(3, 0, 0)", x.ifLeft(3, 0, 0), 1);
        x.strike(0, 2);
        x.setNeed(0, 1);
        x.setNeed(1, 1);
        x.enlist(0, 2);
        C.due("ifLeft(1, 0, 9): 2 goes to 0, 3 to 1, none to 2", x.ifLeft(1, 0, 9), 10);

        C.test("promise 28: ifLeft, errors");
        x.leave(1, 10, 20);
        C.due("ifLeft(16, 9, 8)", x.ifLeft(16, 9, 8), -1);
        C.due("ifLeft(-1, 0, 0)", x.ifLeft(-1, 0, 0), -1);
        C.due("ifLeft(1, 15, 14)", x.ifLeft(1, 15, 14), -2);
        C.due("ifLeft(1, -1, 3)", x.ifLeft(1, -1, 3), -2);
        C.due("ifLeft(1, 15, 400)", x.ifLeft(1, 15, 400), -2);
        C.due("ifLeft(1, 400, 400)", x.ifLeft(1, 400, 400), -2);
        C.due("ifLeft(1, 20, 30)", x.ifLeft(1, 20, 30), -4);
        C.due("ifLeft(1, 0, 10)", x.ifLeft(1, 0, 10), -4);
        for (int i = 0; i < 39; i++) {
            x.leave(15, 3 * i, 3 * i);
        }
        C.due("40 leaves", x.count(6), 40);
        C.due("full is no matter", x.ifLeft(1, 21, 21), 1);
    }

    private static void bestDay() {
        C.test("promise 29: bestDay");
        DrillWardens x = new DrillWardens();
        C.due("bestDay(0)", x.bestDay(0), -5);
        C.due("bestDay(1)", x.bestDay(1), -5);
        C.due("bestDay(2)", x.bestDay(2), -2);
        C.due("bestDay(-1)", x.bestDay(-1), -2);
        Checks.enlist(x, 3, 1);
        Checks.enlist(x, 6, 5);
        x.leave(5, 0, 29);
        x.leave(1, 20, 39);
        C.due("bestDay(0)", x.bestDay(0), 40);
        C.due("bestDay(1)", x.bestDay(1), 8 + 64);
        x.drill(3, 3);
        C.due("3 is not due in this quarter", x.bestDay(0), 100);
        x.train(1, 90);
        C.due("of several the first one", x.bestDay(0), 30);
        C.due("bestDay(1)", x.bestDay(1), 64);
        x.pass(60);
        C.due("from today on", x.bestDay(0), 60);
        x.setNeed(6, 0);
        C.due("no need", x.bestDay(0), -5);
        x.undo();
        x.leave(5, 30, 398);
        C.due("the last day", x.bestDay(0), 399);
        C.due("bestDay(1)", x.bestDay(1), 64);
        x.train(5, 398);
        C.due("none", x.bestDay(1), -5);
    }

    /** The floor 0 and the person 0 are like the others. */
    private static void zero() {
        C.test("promises 18 to 30: the floor 0 and the person 0");
        DrillWardens x = new DrillWardens();
        C.due("enlist(0, 0)", x.enlist(0, 0), 1);
        C.due("warden(0, 0, 0)", x.warden(0, 0, 0), 0);
        C.due("staff(0, 0, 0)", x.staff(0, 0, 0), 1);
        C.due("reason(0, 0, 0)", x.reason(0, 0, 0), 0);
        C.due("firstShort(0)", x.firstShort(0), -5);
        C.due("load(0, 5)", x.load(0, 5), 5);
        C.due("ifLeft(0, 1, 3)", x.ifLeft(0, 1, 3), 3);
        C.due("bestDay(0)", x.bestDay(0), 0);
        C.due("bestDay(1)", x.bestDay(1), 1);
        C.due("person(0, 3)", x.person(0, 3), 1);
        C.due("person(0, 5)", x.person(0, 5), 0);
        C.due("count(2)", x.count(2), 9);
        C.due("count(3)", x.count(3), 9);
        C.due("count(4)", x.count(4), 1);
        x.set(0, 2);
        C.due("warden(0, 0, 0)", x.warden(0, 0, 0), 0);
        C.due("drill(0, 1)", x.drill(0, 1), 0);
        C.due("count(7)", x.count(7), 1);
        C.due("due(0)", x.due(0), 1022);
        x.train(0, 20);
        C.due("warden(21, 0, 0)", x.warden(21, 0, 0), -5);
    }

    private static void count() {
        C.test("promise 30: count");
        DrillWardens x = wanted();
        x.setNeed(0, 3);
        x.set(0, 2);
        x.set(2, 1);
        x.leave(9, 300, 303);
        x.leave(10, 300, 303);
        x.leave(11, 304, 304);
        x.drill(3, 33);
        x.drill(6, 44);
        x.pass(99);
        x.pass(99);
        x.pass(99);
        x.pass(3);
        Checks.write(x, "12345");
        int[] counts = {300, 3, 8, 10, 2, 2, 3, 2, 77, 2, 0, 1, 4, 5};
        for (int what = 0; what < counts.length; what++) {
            C.due("count(" + what + ")", x.count(what), counts[what]);
        }
        x.set(1, 1);
        C.due("count(10)", x.count(10), 1);
        C.due("count(2)", x.count(2), 0);
        C.due("count(4)", x.count(4), 12);
        x.undo();
        C.due("count(12)", x.count(12), 3);
        C.due("count(14)", x.count(14), -2);
        C.due("count(-1)", x.count(-1), -2);
    }
}
