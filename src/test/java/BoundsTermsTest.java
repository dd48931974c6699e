/** The boundary cases of the terms but for texts and history, a test for each sentence. */
public final class BoundsTermsTest {
    private static final Checks C = new Checks();

    public static void main(String[] args) {
        floorsAndPersons();
        daysAndQuarters();
        trainedAndOnLeave();
        lowestAndHighestFirst();
        shortestRowFirst();
        takes();
        helps();
        helpEnds();
        isShort();
        leaves();
        refusal();
        drills();
        dueFloors();
        settings();
        calls();
        C.finish();
    }

    private static void floorsAndPersons() {
        C.sentence(0, "There are 10 floors, 0 to 9, and 16 persons, 0 to 15.");
        DrillWardens x = new DrillWardens();
        C.inside("enlist(.., the same)", 0, 9, floor -> x.enlist(floor, floor), floor -> 1);
        C.inside("enlist(0, ..)", 13, 15, person -> x.enlist(0, person), person -> person - 11);
        C.due("enlist(10, 0)", x.enlist(10, 0), -1);
        C.due("enlist(-1, 0)", x.enlist(-1, 0), -1);
        C.due("enlist(0, 16)", x.enlist(0, 16), -1);
        C.due("enlist(0, -1)", x.enlist(0, -1), -1);

        C.sentence(0, "A floor needs 0 to 3 wardens on each day (1 at first), and has a row of at most 5 persons (none at first).");
        DrillWardens y = new DrillWardens();
        C.inside("floor(.., 0)", 0, 9, floor -> y.floor(floor, 0), floor -> 1);
        C.inside("floor(.., 1)", 0, 9, floor -> y.floor(floor, 1), floor -> 0);
        C.due("setNeed(3, 4)", y.setNeed(3, 4), -2);
        C.due("setNeed(3, -1)", y.setNeed(3, -1), -2);
        C.inside("enlist(3, ..)", 0, 4, person -> y.enlist(3, person), person -> person + 1);
        C.due("enlist(3, 5)", y.enlist(3, 5), -3);
        C.due("setNeed(3, 3)", y.setNeed(3, 3), 1);
        C.inside("staff(.., 3, 0)", 0, 399, day -> y.staff(day, 3, 0), day -> 3);
        C.due("setNeed(3, 0)", y.setNeed(3, 0), 3);
        C.due("staff(399, 3, 0)", y.staff(399, 3, 0), 0);

        C.sentence(0, "The same person can be in the rows of several floors.");
        DrillWardens z = new DrillWardens();
        C.inside("enlist(.., 15)", 0, 9, floor -> z.enlist(floor, 15), floor -> 1);
        C.due("person(15, 3)", z.person(15, 3), 1023);
        C.due("persons who serve", z.count(4), 1);
    }

    private static void daysAndQuarters() {
        C.sentence(0, "Days are 0 to 399; today is 0 at first.");
        DrillWardens x = new DrillWardens();
        C.due("count(0)", x.count(0), 0);
        C.due("staff(-1, 0, 0)", x.staff(-1, 0, 0), -2);
        C.due("staff(400, 0, 0)", x.staff(400, 0, 0), -2);
        C.due("staff(0, 0, 1)", x.staff(0, 0, 1), 1);
        C.due("staff(399, 0, 1)", x.staff(399, 0, 1), 1);
        Checks.passTo(x, 399);
        C.due("count(0)", x.count(0), 399);
        C.due("pass(1)", x.pass(1), -3);

        C.sentence(0, "A quarter is 100 days, the quarter 0 from the day 0 on.");
        DrillWardens y = new DrillWardens();
        y.set(1, 1);
        int[] edges = {0, 99, 100, 199, 200, 299, 300, 399};
        for (int day : edges) {
            Checks.passTo(y, day);
            C.due("count(1) on the day " + day, y.count(1), day / 100);
            int floor = day % 100 == 0 ? 1 : 2;
            y.drill(floor, 1);
            C.due("due(..) on the day " + day, y.due(day / 100), floor == 1 ? 1023 - 2 : 1023 - 6);
        }
        C.inside("due(..)", 0, 3, quarter -> y.due(quarter), quarter -> 1023 - 6);
    }

    private static void trainedAndOnLeave() {
        C.sentence(0, "Each person is trained until some day, that day counted (399 at first).");
        DrillWardens x = new DrillWardens();
        C.inside("person(.., 0)", 0, 15, person -> x.person(person, 0), person -> 399);
        x.enlist(0, 3);
        C.due("warden(399, 0, 0)", x.warden(399, 0, 0), 3);
        x.train(3, 20);
        C.due("warden(20, 0, 0)", x.warden(20, 0, 0), 3);
        C.due("warden(21, 0, 0)", x.warden(21, 0, 0), -5);
        x.train(3, 0);
        C.due("warden(0, 0, 0)", x.warden(0, 0, 0), 3);
        C.due("warden(1, 0, 0)", x.warden(1, 0, 0), -5);

        C.sentence(0, "A person is on leave on the days of the leaves that were granted; at most 40 leaves are granted at a time.");
        DrillWardens y = new DrillWardens();
        y.leave(3, 10, 12);
        y.leave(3, 14, 14);
        C.inside("reason(.., 0, 3)", 0, 20, day -> y.reason(day, 0, 3), day -> day >= 10 && day <= 14 && day != 13 ? 1 : 4);
        C.due("another person, reason(11, 0, 4)", y.reason(11, 0, 4), 4);
        C.inside("leave(.., 0)", 0, 37, day -> y.leave(15, day * 3, day * 3), day -> 1);
        C.due("count(6)", y.count(6), 40);
        C.due("leave(4, 0, 0)", y.leave(4, 0, 0), -3);
        C.due("takeBack(3, 11)", y.takeBack(3, 11), 3);
        C.inside("reason(.., 0, 3)", 9, 15, day -> y.reason(day, 0, 3), day -> day == 14 ? 1 : 4);
        C.due("leave(4, 0, 0)", y.leave(4, 0, 0), 1);
        C.due("count(6)", y.count(6), 40);
    }

    /** All floors have the same row: five of them find a warden, by the order in which they choose. */
    private static void lowestAndHighestFirst() {
        C.sentence(0, "On a day, floors choose one after the other, by the setting 0: 0 the floor 0 first, and so on; 1 the floor 9 first, and so on down; 2 the floor with the shortest row first, of several the lowest.");
        DrillWardens x = new DrillWardens();
        for (int floor = 0; floor < 10; floor++) {
            Checks.enlist(x, floor, 4, 3, 2, 1, 0);
        }
        C.inside("setting 0: warden(7, .., 0)", 0, 9, floor -> x.warden(7, floor, 0), floor -> floor < 5 ? 4 - floor : -5);
        x.set(0, 1);
        C.inside("setting 1: warden(7, .., 0)", 0, 9, floor -> x.warden(7, floor, 0), floor -> floor < 5 ? -5 : floor - 5);
        x.set(0, 2);
        C.inside("setting 2: warden(7, .., 0)", 0, 9, floor -> x.warden(7, floor, 0), floor -> floor < 5 ? 4 - floor : -5);
        x.strike(0, 0);
        x.strike(9, 0);
        x.enlist(0, 14);
        x.enlist(9, 15);
        x.set(0, 1);
        C.due("the floor 0 chooses last: warden(7, 0, 0)", x.warden(7, 0, 0), 14);
        x.set(0, 0);
        C.due("the floor 9 chooses last: warden(7, 9, 0)", x.warden(7, 9, 0), 15);
    }

    private static void shortestRowFirst() {
        C.sentence(0, "2 the floor with the shortest row first, of several the lowest");
        DrillWardens x = new DrillWardens();
        Checks.enlist(x, 0, 0, 1, 2, 3, 4);
        Checks.enlist(x, 1, 0, 1, 2, 3);
        Checks.enlist(x, 2, 0, 1, 2);
        Checks.enlist(x, 4, 0, 1);
        Checks.enlist(x, 5, 0, 1, 2, 3);
        Checks.enlist(x, 8, 0);
        x.set(0, 2);
        int[] wardens = {4, 3, 2, -5, 1, -5, -5, -5, 0, -5};
        C.inside("warden(0, .., 0)", 0, 9, floor -> x.warden(0, floor, 0), floor -> wardens[floor]);
        C.inside("warden(399, .., 0)", 0, 9, floor -> x.warden(399, floor, 0), floor -> wardens[floor]);
        x.set(1, 1);
        // Of those that are short the floors with empty rows choose first, the full floor 5 last.
        int[] helped = {4, 3, 2, 5, 1, 10, 6, 7, 0, 8};
        x.setNeed(9, 2);
        C.due("warden(0, 9, 1)", x.warden(0, 9, 1), 9);
        C.inside("with help: warden(0, .., 0)", 0, 9, floor -> x.warden(0, floor, 0), floor -> helped[floor]);
        x.strike(5, 3);
        x.strike(5, 2);
        C.due("a shorter row chooses earlier: warden(0, 4, 0)", x.warden(0, 4, 0), 1);
        x.strike(5, 0);
        C.due("a shorter row chooses earlier: warden(0, 5, 0)", x.warden(0, 5, 0), 1);
    }

    private static void takes() {
        C.sentence(0, "Each floor takes the persons of its row, from the first one on, who are trained and not on leave on this day, and do not serve on another floor on it yet, until it has as many as it needs.");
        DrillWardens x = new DrillWardens();
        Checks.enlist(x, 6, 15, 14, 13, 12, 11);
        C.due("needs 1: warden(5, 6, 0)", x.warden(5, 6, 0), 15);
        C.due("needs 1: warden(5, 6, 1)", x.warden(5, 6, 1), -5);
        x.setNeed(6, 3);
        C.inside("needs 3: warden(5, 6, ..)", 0, 2, rank -> x.warden(5, 6, rank), rank -> 15 - rank);
        C.due("needs 3: warden(5, 6, 3)", x.warden(5, 6, 3), -5);
        x.leave(15, 5, 5);
        x.train(14, 4);
        C.inside("the first two away: warden(5, 6, ..)", 0, 2, rank -> x.warden(5, 6, rank), rank -> 13 - rank);
        C.due("warden(4, 6, 1), trained still", x.warden(4, 6, 1), 14);
        C.due("warden(6, 6, 0), not on leave any more", x.warden(6, 6, 0), 15);
        Checks.enlist(x, 2, 13, 11);
        C.due("13 serves on 2: warden(5, 6, 0)", x.warden(5, 6, 0), 12);
        C.due("warden(5, 6, 1)", x.warden(5, 6, 1), 11);
        C.due("none is left: warden(5, 6, 2)", x.warden(5, 6, 2), -5);
        x.setNeed(6, 0);
        C.due("needs 0: warden(5, 6, 0)", x.warden(5, 6, 0), -5);
    }

    private static void helps() {
        C.sentence(0, "Then, if the setting 1 is 1, floors that are short choose once more, in the same order: each takes any persons, by their numbers, who are trained and not on leave on this day, and do not serve yet, until it has as many as it needs.");
        DrillWardens x = new DrillWardens();
        Checks.needOnly(x, 7);
        x.setNeed(1, 2);
        Checks.enlist(x, 0, 9, 0);
        Checks.enlist(x, 1, 15);
        C.due("no help: staff(3, 1, 0)", x.staff(3, 1, 0), 1);
        x.set(1, 1);
        C.due("not short: warden(3, 0, 1)", x.warden(3, 0, 1), -5);
        C.due("warden(3, 1, 0)", x.warden(3, 1, 0), 15);
        C.due("a deputy of 0 helps on 1: warden(3, 1, 1)", x.warden(3, 1, 1), 0);
        C.due("warden(3, 1, 2)", x.warden(3, 1, 2), -5);
        C.due("warden(3, 2, 0)", x.warden(3, 2, 0), 1);
        x.set(0, 1);
        C.due("the floor 2 first: warden(3, 2, 0)", x.warden(3, 2, 0), 0);
        C.due("warden(3, 1, 1)", x.warden(3, 1, 1), 1);
        x.train(0, 2);
        x.leave(1, 3, 3);
        C.due("0 is not trained, 1 on leave: warden(3, 2, 0)", x.warden(3, 2, 0), 2);
        C.due("warden(3, 1, 1)", x.warden(3, 1, 1), 3);
        C.due("warden(4, 2, 0)", x.warden(4, 2, 0), 1);
        C.due("warden(2, 2, 0)", x.warden(2, 2, 0), 0);

        C.sentence(0, "(These help.)");
        C.due("staff(3, 0, 2)", x.staff(3, 0, 2), 0);
        C.due("staff(3, 1, 2)", x.staff(3, 1, 2), 1);
        C.due("staff(3, 2, 2)", x.staff(3, 2, 2), 1);
        x.set(1, 0);
        C.due("staff(3, 2, 2)", x.staff(3, 2, 2), 0);
    }

    private static void helpEnds() {
        C.sentence(0, "each takes any persons, by their numbers");
        DrillWardens x = new DrillWardens();
        for (int floor = 0; floor < 10; floor++) {
            x.setNeed(floor, 3);
        }
        x.set(1, 1);
        C.inside("16 persons: staff(0, .., 0)", 0, 9, floor -> x.staff(0, floor, 0), floor -> floor < 5 ? 3 : floor == 5 ? 1 : 0);
        C.inside("staff(0, .., 2)", 0, 9, floor -> x.staff(0, floor, 2), floor -> floor < 5 ? 3 : floor == 5 ? 1 : 0);
        C.inside("warden(0, 4, ..)", 0, 2, rank -> x.warden(0, 4, rank), rank -> 12 + rank);
        C.due("warden(0, 5, 0)", x.warden(0, 5, 0), 15);
        C.due("count(2)", x.count(2), 5);
        C.due("count(3)", x.count(3), 14);
        C.due("count(4)", x.count(4), 16);
        x.set(0, 1);
        C.inside("9 first: staff(0, .., 0)", 0, 9, floor -> x.staff(0, floor, 0), floor -> floor > 4 ? 3 : floor == 4 ? 1 : 0);
        for (int person = 0; person < 16; person++) {
            x.leave(person, 0, 0);
        }
        C.due("all on leave: count(4)", x.count(4), 0);
        C.due("all on leave: count(3)", x.count(3), 30);
    }

    private static void isShort() {
        C.sentence(0, "A floor is short on a day by as many wardens as it has less than it needs.");
        DrillWardens x = new DrillWardens();
        x.setNeed(5, 3);
        for (int persons = 0; persons < 5; persons++) {
            C.due("staff(9, 5, 1) of " + persons, x.staff(9, 5, 1), Math.max(0, 3 - persons));
            x.enlist(5, persons);
        }
        x.leave(0, 9, 9);
        x.leave(1, 9, 9);
        C.due("two deputies step in", x.staff(9, 5, 1), 0);
        x.leave(2, 9, 9);
        C.due("staff(9, 5, 1)", x.staff(9, 5, 1), 1);
        x.setNeed(5, 2);
        C.due("staff(9, 5, 1)", x.staff(9, 5, 1), 0);
        x.setNeed(6, 0);
        C.due("no need: staff(9, 6, 1)", x.staff(9, 6, 1), 0);
    }

    private static void leaves() {
        C.sentence(0, "A leave is of a person, from a day to a day.");
        DrillWardens x = new DrillWardens();
        x.enlist(0, 3);
        C.due("leave(3, 399, 399), one day", x.leave(3, 399, 399), 1);
        C.due("warden(398, 0, 0)", x.warden(398, 0, 0), 3);
        C.due("warden(399, 0, 0)", x.warden(399, 0, 0), -5);
        C.due("leave(3, 0, 398)", x.leave(3, 0, 398), 399);
        C.inside("warden(.., 0, 0)", 0, 399, day -> x.warden(day, 0, 0), day -> -5);
        C.due("person(3, 1)", x.person(3, 1), 2);
        C.due("person(4, 1)", x.person(4, 1), 0);
    }

    /** The person 2 steps in for the person 1, but for the day 10. */
    private static DrillWardens deputyAway(int need) {
        DrillWardens x = new DrillWardens();
        Checks.enlist(x, 0, 1, 2);
        x.setNeed(0, need);
        x.leave(2, 10, 10);
        x.set(2, 1);
        return x;
    }

    private static void refusal() {
        C.sentence(0, "If the setting 2 is 1, a leave is refused by which any floor would be short by more on one of its days than without it.");
        C.due("on its first day", deputyAway(1).leave(1, 10, 12), -6);
        C.due("on its last day", deputyAway(1).leave(1, 8, 10), -6);
        C.due("on a day between", deputyAway(1).leave(1, 0, 399), -6);
        C.due("on its only day", deputyAway(1).leave(1, 10, 10), -6);
        C.due("the days ahead", deputyAway(1).leave(1, 0, 9), 10);
        C.due("the days behind", deputyAway(1).leave(1, 11, 399), 389);
        C.due("short already, by more then", deputyAway(2).leave(1, 10, 10), -6);
        C.due("not short, short then", deputyAway(2).leave(1, 9, 9), -6);
        C.due("short, and not by more", deputyAway(3).leave(5, 0, 399), 400);
        C.due("no need", deputyAway(0).leave(1, 0, 399), 400);
        DrillWardens x = deputyAway(1);
        x.set(2, 0);
        C.due("the setting 2 is 0", x.leave(1, 0, 399), 400);
        x = deputyAway(1);
        x.set(1, 1);
        C.due("another one helps", x.leave(1, 0, 399), 400);
        x = deputyAway(1);
        x.enlist(9, 2);
        C.due("the floor 9 loses its warden to the floor 0", x.leave(1, 20, 20), -6);
        C.due("the floor 9 loses the only one of its row", x.leave(2, 9, 9), -6);
        x = deputyAway(1);
        x.train(1, 9);
        C.due("not trained on these days", x.leave(1, 10, 399), 390);
        C.due("trained on the first of them", deputyTrainedUntil(10).leave(1, 10, 399), -6);
        x = deputyAway(1);
        Checks.passTo(x, 50);
        C.due("days that were count too", x.leave(1, 10, 10), -6);
    }

    private static DrillWardens deputyTrainedUntil(int day) {
        DrillWardens x = deputyAway(1);
        x.train(1, day);
        return x;
    }

    private static void drills() {
        C.sentence(0, "A drill is held on a floor today; it is led by the first person whom the floor took.");
        DrillWardens x = new DrillWardens();
        Checks.enlist(x, 2, 8, 0, 7);
        x.setNeed(2, 2);
        C.due("drill(2, 5)", x.drill(2, 5), 8);
        x.leave(8, 0, 0);
        C.due("drill(2, 5), the first on leave", x.drill(2, 5), 0);
        x.leave(7, 0, 0);
        x.set(1, 1);
        C.due("drill(2, 5), helped by 1", x.drill(2, 5), 0);
        x.leave(0, 0, 0);
        C.due("drill(2, 5), by help alone", x.drill(2, 5), 3);
        C.due("log(2, 0, 0)", x.log(2, 0, 0), 0);
        x.pass(9);
        C.due("drill(2, 5)", x.drill(2, 5), 8);
        C.due("log(2, 0, 0)", x.log(2, 0, 0), 9);

        C.sentence(0, "The latest 6 drills of each floor are in its log.");
        DrillWardens y = new DrillWardens();
        y.set(1, 1);
        for (int minutes = 1; minutes <= 14; minutes++) {
            int held = minutes;
            C.due("log(9, its number, 1) of " + (held - 1), y.log(9, held - 1, 1), -5);
            y.drill(9, minutes);
            C.inside("log(9, .., 1) of " + held, 0, 6, rank -> y.log(9, rank, 1),
                    rank -> rank < 6 && rank < held ? held - rank : -5);
        }
        y.drill(8, 60);
        C.due("log(9, 0, 1)", y.log(9, 0, 1), 14);
        C.due("log(8, 0, 1)", y.log(8, 0, 1), 60);
        C.due("log(8, 1, 1)", y.log(8, 1, 1), -5);
    }

    private static void dueFloors() {
        C.sentence(0, "A floor is due in a quarter, if it needs a warden at least, and no drill was held on it in that quarter (whether that is in its log still or not).");
        DrillWardens x = new DrillWardens();
        Checks.enlist(x, 9, 1);
        Checks.needOnly(x, 512);
        C.inside("due(..)", 0, 3, quarter -> x.due(quarter), quarter -> 512);
        Checks.passTo(x, 99);
        x.drill(9, 1);
        C.inside("drill of the day 99, due(..)", 0, 3, quarter -> x.due(quarter), quarter -> quarter == 0 ? 0 : 512);
        x.pass(1);
        for (int i = 0; i < 6; i++) {
            x.drill(9, 1);
        }
        C.inside("out of the log, due(..)", 0, 3, quarter -> x.due(quarter), quarter -> quarter < 2 ? 0 : 512);
        x.setNeed(9, 3);
        C.inside("needs 3, due(..)", 0, 3, quarter -> x.due(quarter), quarter -> quarter < 2 ? 0 : 512);
        x.setNeed(9, 0);
        C.inside("needs 0, due(..)", 0, 3, quarter -> x.due(quarter), quarter -> 0);
        x.setNeed(0, 1);
        C.inside("needs 1, due(..)", 0, 3, quarter -> x.due(quarter), quarter -> 1);
        x.setNeed(9, 1);
        Checks.passTo(x, 399);
        x.drill(9, 1);
        C.inside("drill of the day 399, due(..)", 0, 3, quarter -> x.due(quarter), quarter -> quarter == 2 ? 513 : 1);
    }

    private static void settings() {
        C.sentence(0, "The settings 1 and 2 are 0 or 1, all three are 0 at first.");
        DrillWardens x = new DrillWardens();
        C.inside("count(..)", 9, 11, what -> x.count(what), what -> 0);
        C.due("set(1, 2)", x.set(1, 2), -2);
        C.due("set(2, 2)", x.set(2, 2), -2);
        C.due("set(1, -1)", x.set(1, -1), -2);
        C.due("set(2, -1)", x.set(2, -1), -2);
        C.due("set(1, 1)", x.set(1, 1), 0);
        C.due("set(2, 1)", x.set(2, 1), 0);
        C.due("count(9)", x.count(9), 0);
        C.due("count(10)", x.count(10), 1);
        C.due("count(11)", x.count(11), 1);
    }

    private static void calls() {
        C.sentence(0, "An object is used for at most 512 calls after it has been made; what later calls answer is free.");
        DrillWardens x = new DrillWardens();
        x.enlist(0, 15);
        String text = "drill 0 60;drill 0 60;drill 0 60;drill 0 60;drill 0 60;drill 0 60;drill 0 60";
        Checks.write(x, text);
        int left = 512 - 2 - text.length() - 6;
        for (int i = 0; i < left; i++) {
            C.due("perform()", x.perform(), 7);
        }
        C.due("floor(0, 2)", x.floor(0, 2), 7 * left);
        C.due("person(15, 4)", x.person(15, 4), 7 * left);
        C.due("count(7)", x.count(7), 7 * left);
        C.due("count(8)", x.count(8), 420 * left);
        C.due("undo()", x.undo(), 3);
        C.due("count(8), the 512th call", x.count(8), 420 * (left - 1));
    }
}
