/** The boundary cases of the promises 1 to 10, a test for each sentence: rows, needs, training, settings, leave, drills, days. */
public final class BoundsActsTest {
    private static final Checks C = new Checks();

    public static void main(String[] args) {
        newObject();
        enlist();
        enlistErrors();
        strike();
        setNeed();
        train();
        set();
        leave();
        leaveDays();
        leaveErrors();
        leaveNotPossible();
        leaveFull();
        leaveRefused();
        takeBack();
        drill();
        drillNotPossible();
        pass();
        C.finish();
    }

    private static void newObject() {
        C.sentence(1, "Creates floors with empty rows, today being the day 0.");
        DrillWardens x = new DrillWardens();
        C.inside("floor(.., 1)", 0, 9, floor -> x.floor(floor, 1), floor -> 0);
        C.inside("row(.., 0)", 0, 9, floor -> x.row(floor, 0), floor -> -5);
        C.inside("person(.., 3)", 0, 15, person -> x.person(person, 3), person -> 0);
        C.due("count(0)", x.count(0), 0);
        x.enlist(0, 0);
        x.pass(1);
        DrillWardens other = new DrillWardens();
        C.due("floor(0, 1) of another object", other.floor(0, 1), 0);
        C.due("count(0) of another object", other.count(0), 0);
    }

    private static void enlist() {
        C.sentence(2, "`floor`: 0 to 9");
        DrillWardens x = new DrillWardens();
        C.inside("enlist(.., 3)", 0, 9, floor -> x.enlist(floor, 3), floor -> 1);
        C.outside("enlist(.., 4)", 0, 9, floor -> x.enlist(floor, 4), -1);
        C.due("persons in all rows", x.person(4, 3), 0);

        C.sentence(2, "`person`: 0 to 15");
        C.inside("enlist(4, ..)", 0, 15, person -> new DrillWardens().enlist(4, person), person -> 1);
        DrillWardens y = new DrillWardens();
        C.outside("enlist(4, ..)", 0, 15, person -> y.enlist(4, person), -1);
        C.due("floor(4, 1)", y.floor(4, 1), 0);

        C.sentence(2, "Puts a person at the end of the row of a floor.");
        DrillWardens z = new DrillWardens();
        Checks.enlist(z, 0, 15, 0, 7, 8, 1);
        int[] row = {15, 0, 7, 8, 1};
        C.inside("row(0, ..)", 0, 4, place -> z.row(0, place), place -> row[place]);
        C.due("the row next to it, row(1, 0)", z.row(1, 0), -5);

        C.sentence(2, "how many are in the row then");
        DrillWardens a = new DrillWardens();
        C.inside("enlist(9, ..)", 0, 4, person -> a.enlist(9, person), person -> person + 1);
    }

    private static void enlistErrors() {
        C.sentence(2, "UNKNOWN (floor or person)");
        C.refused("enlist(10, 5)", Checks::busy, x -> x.enlist(10, 5), -1);
        C.refused("enlist(-1, 16)", Checks::busy, x -> x.enlist(-1, 16), -1);
        C.refused("enlist(2, 16), ahead of full", Checks::busy, x -> x.enlist(2, 16), -1);
        C.refused("enlist(2, -1), ahead of full", Checks::busy, x -> x.enlist(2, -1), -1);

        C.sentence(2, "NOT_POSSIBLE if the person is in it");
        C.refused("enlist(2, 5), the first of a full row", Checks::busy, x -> x.enlist(2, 5), -4);
        C.refused("enlist(2, 9), the last of a full row", Checks::busy, x -> x.enlist(2, 9), -4);
        C.refused("enlist(3, 10), the last of two", Checks::busy, x -> x.enlist(3, 10), -4);
        DrillWardens x = new DrillWardens();
        x.enlist(0, 0);
        C.due("enlist(0, 0), the only one", x.enlist(0, 0), -4);
        C.due("enlist(1, 0), in the row of another floor", x.enlist(1, 0), 1);
        x.strike(0, 0);
        C.due("enlist(0, 0), who was in it", x.enlist(0, 0), 1);

        C.sentence(2, "FULL if it has 5");
        C.refused("enlist(2, 10)", Checks::busy, y -> y.enlist(2, 10), -3);
        DrillWardens z = new DrillWardens();
        Checks.enlist(z, 9, 1, 2, 3, 4);
        C.due("enlist(9, 5), the fifth", z.enlist(9, 5), 5);
        C.due("enlist(9, 6), the sixth", z.enlist(9, 6), -3);
        C.due("row(9, 5)", z.row(9, 5), -5);
        z.strike(9, 1);
        C.due("enlist(9, 6), one having left", z.enlist(9, 6), 5);
        C.due("enlist(9, 1)", z.enlist(9, 1), -3);
    }

    private static void strike() {
        C.sentence(3, "`floor`: 0 to 9");
        DrillWardens x = new DrillWardens();
        C.inside("enlist(.., 3)", 0, 9, floor -> x.enlist(floor, 3), floor -> 1);
        C.outside("strike(.., 3)", 0, 9, floor -> x.strike(floor, 3), -1);
        C.inside("strike(.., 3)", 0, 9, floor -> x.strike(floor, 3), floor -> 0);

        C.sentence(3, "`person`: 0 to 15");
        DrillWardens y = new DrillWardens();
        y.enlist(0, 0);
        y.enlist(0, 15);
        C.outside("strike(0, ..)", 0, 15, person -> y.strike(0, person), -1);
        C.due("strike(0, 15)", y.strike(0, 15), 1);
        C.due("strike(0, 0)", y.strike(0, 0), 0);

        C.sentence(3, "how many are in the row then");
        DrillWardens z = new DrillWardens();
        Checks.enlist(z, 7, 1, 2, 3, 4, 5);
        C.due("strike(7, 5), the last", z.strike(7, 5), 4);
        C.due("strike(7, 1), the first", z.strike(7, 1), 3);
        C.due("strike(7, 3), between two", z.strike(7, 3), 2);
        C.due("row(7, 0)", z.row(7, 0), 2);
        C.due("row(7, 1)", z.row(7, 1), 4);
        C.due("row(7, 2)", z.row(7, 2), -5);
        C.due("strike(7, 2)", z.strike(7, 2), 1);
        C.due("strike(7, 4), the only one", z.strike(7, 4), 0);

        C.sentence(3, "UNKNOWN (floor or person)");
        C.refused("strike(10, 5)", Checks::busy, a -> a.strike(10, 5), -1);
        C.refused("strike(2, 16)", Checks::busy, a -> a.strike(2, 16), -1);
        C.refused("strike(-1, -1)", Checks::busy, a -> a.strike(-1, -1), -1);

        C.sentence(3, "NONE if the person is not in it");
        C.refused("strike(0, 0), an empty row", Checks::busy, a -> a.strike(0, 0), -5);
        C.refused("strike(3, 6), in the row of another floor", Checks::busy, a -> a.strike(3, 6), -5);
        C.refused("strike(2, 0), a full row", Checks::busy, a -> a.strike(2, 0), -5);
        DrillWardens b = new DrillWardens();
        Checks.enlist(b, 3, 8, 9);
        b.strike(3, 9);
        C.due("strike(3, 9) a second time", b.strike(3, 9), -5);
    }

    private static void setNeed() {
        C.sentence(4, "`floor`: 0 to 9");
        DrillWardens x = new DrillWardens();
        C.inside("setNeed(.., 2)", 0, 9, floor -> x.setNeed(floor, 2), floor -> 1);
        C.outside("setNeed(.., 3)", 0, 9, floor -> x.setNeed(floor, 3), -1);
        C.inside("floor(.., 0)", 0, 9, floor -> x.floor(floor, 0), floor -> 2);

        C.sentence(4, "`many`: 0 to 3");
        C.due("setNeed(0, 0)", new DrillWardens().setNeed(0, 0), 1);
        C.due("setNeed(0, 3)", new DrillWardens().setNeed(0, 3), 1);
        DrillWardens y = new DrillWardens();
        C.outside("setNeed(0, ..)", 0, 3, many -> y.setNeed(0, many), -2);
        C.due("floor(0, 0)", y.floor(0, 0), 1);

        C.sentence(4, "the previous number");
        DrillWardens z = new DrillWardens();
        C.due("setNeed(5, 3)", z.setNeed(5, 3), 1);
        C.due("setNeed(5, 0)", z.setNeed(5, 0), 3);
        C.due("setNeed(5, 2)", z.setNeed(5, 2), 0);
        C.due("setNeed(6, 0), of another floor", z.setNeed(6, 0), 1);

        C.sentence(4, "UNKNOWN");
        C.refused("setNeed(10, 2)", Checks::busy, a -> a.setNeed(10, 2), -1);
        C.refused("setNeed(-1, 4), ahead of a bad value", Checks::busy, a -> a.setNeed(-1, 4), -1);

        C.sentence(4, "BAD_VALUE");
        C.refused("setNeed(2, 4)", Checks::busy, a -> a.setNeed(2, 4), -2);
        C.refused("setNeed(2, -1)", Checks::busy, a -> a.setNeed(2, -1), -2);

        C.sentence(4, "NONE if it is so already");
        C.refused("setNeed(2, 2)", Checks::busy, a -> a.setNeed(2, 2), -5);
        C.refused("setNeed(0, 1), as at first", Checks::busy, a -> a.setNeed(0, 1), -5);
        DrillWardens b = new DrillWardens();
        b.setNeed(0, 0);
        C.due("setNeed(0, 0) a second time", b.setNeed(0, 0), -5);
    }

    private static void train() {
        C.sentence(5, "`person`: 0 to 15");
        DrillWardens x = new DrillWardens();
        C.inside("train(.., 7)", 0, 15, person -> x.train(person, 7), person -> 399);
        C.outside("train(.., 8)", 0, 15, person -> x.train(person, 8), -1);
        C.inside("person(.., 0)", 0, 15, person -> x.person(person, 0), person -> 7);

        C.sentence(5, "`day`: 0 to 399");
        DrillWardens y = new DrillWardens();
        C.inside("train(3, ..)", 0, 398, day -> y.train(3, day), day -> day == 0 ? 399 : day - 1);
        C.due("train(3, 399)", y.train(3, 399), 398);
        C.outside("train(3, ..)", 0, 399, day -> y.train(3, day), -2);

        C.sentence(5, "the previous day");
        DrillWardens z = new DrillWardens();
        C.due("train(15, 0)", z.train(15, 0), 399);
        C.due("train(15, 399)", z.train(15, 399), 0);
        C.due("train(14, 0), another person", z.train(14, 0), 399);

        C.sentence(5, "UNKNOWN");
        C.refused("train(16, 5)", Checks::busy, a -> a.train(16, 5), -1);
        C.refused("train(-1, 400), ahead of a bad value", Checks::busy, a -> a.train(-1, 400), -1);

        C.sentence(5, "BAD_VALUE");
        C.refused("train(9, -1)", Checks::busy, a -> a.train(9, -1), -2);
        C.refused("train(9, 400)", Checks::busy, a -> a.train(9, 400), -2);

        C.sentence(5, "NONE if it is so already");
        C.refused("train(9, 50)", Checks::busy, a -> a.train(9, 50), -5);
        C.refused("train(0, 399), as at first", Checks::busy, a -> a.train(0, 399), -5);
        DrillWardens b = new DrillWardens();
        b.train(0, 0);
        C.due("train(0, 0) a second time", b.train(0, 0), -5);
    }

    private static void set() {
        C.sentence(6, "`which`: 0 to 2");
        C.inside("set(.., 1)", 0, 2, which -> new DrillWardens().set(which, 1), which -> 0);
        DrillWardens x = new DrillWardens();
        C.outside("set(.., 1)", 0, 2, which -> x.set(which, 1), -1);

        C.sentence(6, "`value`: in its range (0 to 2 for the setting 0)");
        C.due("set(0, 2)", new DrillWardens().set(0, 2), 0);
        C.outside("set(0, ..)", 0, 2, value -> x.set(0, value), -2);
        C.outside("set(1, ..)", 0, 1, value -> x.set(1, value), -2);
        C.outside("set(2, ..)", 0, 1, value -> x.set(2, value), -2);
        C.inside("count(..)", 9, 11, what -> x.count(what), what -> 0);

        C.sentence(6, "the previous one");
        DrillWardens y = new DrillWardens();
        C.due("set(0, 2)", y.set(0, 2), 0);
        C.due("set(0, 0)", y.set(0, 0), 2);
        C.due("set(1, 1)", y.set(1, 1), 0);
        C.due("set(1, 0)", y.set(1, 0), 1);
        C.due("set(2, 1), another setting", y.set(2, 1), 0);

        C.sentence(6, "UNKNOWN");
        C.refused("set(3, 1)", Checks::busy, a -> a.set(3, 1), -1);
        C.refused("set(-1, 3), ahead of a bad value", Checks::busy, a -> a.set(-1, 3), -1);

        C.sentence(6, "BAD_VALUE");
        C.refused("set(0, 3)", Checks::busy, a -> a.set(0, 3), -2);
        C.refused("set(1, 2)", Checks::busy, a -> a.set(1, 2), -2);
        C.refused("set(2, -1)", Checks::busy, a -> a.set(2, -1), -2);

        C.sentence(6, "NONE if it is so already");
        C.refused("set(0, 0), as at first", Checks::busy, a -> a.set(0, 0), -5);
        C.refused("set(2, 1)", Checks::busy, a -> a.set(2, 1), -5);
    }

    private static void leave() {
        C.sentence(7, "`person`: 0 to 15");
        DrillWardens x = new DrillWardens();
        C.inside("leave(.., 5, 6)", 0, 15, person -> x.leave(person, 5, 6), person -> 2);
        C.outside("leave(.., 8, 9)", 0, 15, person -> x.leave(person, 8, 9), -1);
        C.due("count(6)", x.count(6), 16);

        C.sentence(7, "`from`: 0 to 399");
        C.inside("leave(3, .., 399)", 0, 399, from -> new DrillWardens().leave(3, from, 399), from -> 400 - from);
        DrillWardens y = new DrillWardens();
        C.outside("leave(3, .., 399)", 0, 399, from -> y.leave(3, from, 399), -2);
        C.outside("leave(3, .., the same)", 0, 399, from -> y.leave(3, from, from), -2);
        C.due("count(6)", y.count(6), 0);

        C.sentence(7, "`to`: from to 399");
        C.inside("leave(3, 200, ..)", 200, 399, to -> new DrillWardens().leave(3, 200, to), to -> to - 199);
        C.outside("leave(3, 200, ..)", 200, 399, to -> y.leave(3, 200, to), -2);
        C.due("leave(3, 0, -1)", y.leave(3, 0, -1), -2);
        C.due("leave(3, 399, 398)", y.leave(3, 399, 398), -2);
        C.due("count(6)", y.count(6), 0);
    }

    private static void leaveDays() {
        C.sentence(7, "how many days it has");
        DrillWardens x = new DrillWardens();
        C.due("leave(0, 0, 0)", x.leave(0, 0, 0), 1);
        C.due("leave(0, 399, 399)", x.leave(0, 399, 399), 1);
        C.due("leave(0, 1, 398)", x.leave(0, 1, 398), 398);
        C.due("leave(15, 0, 399)", x.leave(15, 0, 399), 400);
        C.due("person(0, 2)", x.person(0, 2), 400);

        C.sentence(7, "Grants a leave.");
        DrillWardens y = new DrillWardens();
        Checks.passTo(y, 399);
        C.due("leave(0, 0, 398), of days that were", y.leave(0, 0, 398), 399);
    }

    private static void leaveErrors() {
        C.sentence(7, "UNKNOWN");
        C.refused("leave(16, 5, 6)", Checks::busy, x -> x.leave(16, 5, 6), -1);
        C.refused("leave(-1, 6, 5), ahead of a bad value", Checks::busy, x -> x.leave(-1, 6, 5), -1);

        C.sentence(7, "BAD_VALUE");
        C.refused("leave(7, 6, 5)", Checks::busy, x -> x.leave(7, 6, 5), -2);
        C.refused("leave(7, -1, 5)", Checks::busy, x -> x.leave(7, -1, 5), -2);
        C.refused("leave(7, 5, 400)", Checks::busy, x -> x.leave(7, 5, 400), -2);
        C.refused("leave(6, 3, 2), ahead of not possible", Checks::busy, x -> x.leave(6, 3, 2), -2);
        C.refused("leave(6, -1, 3), ahead of not possible", Checks::busy, x -> x.leave(6, -1, 3), -2);
        C.refused("leave(6, 0, 400), ahead of not possible", Checks::busy, x -> x.leave(6, 0, 400), -2);
        C.refused("leave(0, 1, 0), ahead of full", Checks::fullOfLeaves, x -> x.leave(0, 1, 0), -2);
    }

    private static void leaveNotPossible() {
        C.sentence(7, "NOT_POSSIBLE if the person is on leave on one of these days");
        C.refused("leave(6, 0, 3), the same days", Checks::busy, x -> x.leave(6, 0, 3), -4);
        C.refused("leave(6, 3, 9), its last day", Checks::busy, x -> x.leave(6, 3, 9), -4);
        C.refused("leave(5, 25, 30), its first day", Checks::busy, x -> x.leave(5, 25, 30), -4);
        C.refused("leave(5, 39, 39), one day", Checks::busy, x -> x.leave(5, 39, 39), -4);
        C.refused("leave(5, 34, 35), days within", Checks::busy, x -> x.leave(5, 34, 35), -4);
        C.refused("leave(5, 0, 399), days around", Checks::busy, x -> x.leave(5, 0, 399), -4);
        C.refused("leave(0, 0, 399), ahead of full", Checks::fullOfLeaves, x -> x.leave(0, 0, 399), -4);
        DrillWardens x = new DrillWardens();
        x.enlist(0, 4);
        x.leave(4, 10, 12);
        x.leave(4, 20, 22);
        C.due("leave(4, 13, 19), the days between two", x.leave(4, 13, 19), 7);
        C.due("leave(4, 9, 9), the day ahead", x.leave(4, 9, 9), 1);
        C.due("leave(4, 23, 23), the day behind", x.leave(4, 23, 23), 1);
        C.due("leave(5, 10, 12), another person", x.leave(5, 10, 12), 3);
        x.set(2, 1);
        C.due("leave(4, 8, 9), ahead of refused", x.leave(4, 8, 9), -4);
        x.takeBack(4, 9);
        x.set(2, 0);
        C.due("leave(4, 9, 9), taken back before", x.leave(4, 9, 9), 1);
    }

    private static void leaveFull() {
        C.sentence(7, "FULL if 40 leaves are granted");
        C.refused("leave(0, 399, 399)", Checks::fullOfLeaves, x -> x.leave(0, 399, 399), -3);
        DrillWardens x = new DrillWardens();
        x.enlist(0, 3);
        C.inside("leave(4, .., ..)", 0, 39, day -> x.leave(4, 2 * day, 2 * day), day -> 1);
        C.due("the 41st", x.leave(3, 0, 0), -3);
        x.set(2, 1);
        C.due("ahead of refused", x.leave(3, 0, 0), -3);
        x.takeBack(4, 78);
        C.due("one being taken back, refused", x.leave(3, 0, 0), -6);
        C.due("the 40th", x.leave(4, 78, 79), 2);
        C.due("the 41st", x.leave(5, 0, 0), -3);
    }

    private static void leaveRefused() {
        C.sentence(7, "REFUSED by the setting 2");
        // On the days from 30 to 39 the person 5 is on leave: the person 10 alone is left to the floor 3.
        C.refused("leave(10, 39, 50)", Checks::busy, x -> x.leave(10, 39, 50), -6);
        C.refused("leave(10, 0, 30)", Checks::busy, x -> x.leave(10, 0, 30), -6);
        DrillWardens x = new DrillWardens();
        x.enlist(0, 3);
        C.due("set(2, 1)", x.set(2, 1), 0);
        C.due("leave(3, 399, 399)", x.leave(3, 399, 399), -6);
        x.set(2, 0);
        C.due("leave(3, 399, 399), the setting being 0", x.leave(3, 399, 399), 1);
    }

    private static void takeBack() {
        C.sentence(8, "`person`: 0 to 15");
        DrillWardens x = new DrillWardens();
        C.inside("leave(.., 5, 6)", 0, 15, person -> x.leave(person, 5, 6), person -> 2);
        C.outside("takeBack(.., 5)", 0, 15, person -> x.takeBack(person, 5), -1);
        C.inside("takeBack(.., 5)", 0, 15, person -> x.takeBack(person, 5), person -> 2);

        C.sentence(8, "`day`: 0 to 399");
        C.inside("takeBack(3, ..)", 0, 399, BoundsActsTest::takenBack, day -> 400);
        DrillWardens y = new DrillWardens();
        y.leave(3, 0, 399);
        C.outside("takeBack(3, ..)", 0, 399, day -> y.takeBack(3, day), -2);
        C.due("count(6)", y.count(6), 1);

        C.sentence(8, "how many days it had");
        DrillWardens z = new DrillWardens();
        z.leave(0, 0, 0);
        z.leave(0, 1, 1);
        z.leave(0, 2, 399);
        C.due("takeBack(0, 1)", z.takeBack(0, 1), 1);
        C.due("takeBack(0, 399)", z.takeBack(0, 399), 398);
        C.due("takeBack(0, 0)", z.takeBack(0, 0), 1);
        C.due("person(0, 1)", z.person(0, 1), 0);

        C.sentence(8, "UNKNOWN");
        C.refused("takeBack(16, 0)", Checks::busy, a -> a.takeBack(16, 0), -1);
        C.refused("takeBack(-1, 400), ahead of a bad value", Checks::busy, a -> a.takeBack(-1, 400), -1);

        C.sentence(8, "BAD_VALUE");
        C.refused("takeBack(6, -1)", Checks::busy, a -> a.takeBack(6, -1), -2);
        C.refused("takeBack(6, 400)", Checks::busy, a -> a.takeBack(6, 400), -2);

        C.sentence(8, "NONE if the person is not on leave on this day");
        C.refused("takeBack(6, 4), the day behind", Checks::busy, a -> a.takeBack(6, 4), -5);
        C.refused("takeBack(5, 29), the day ahead", Checks::busy, a -> a.takeBack(5, 29), -5);
        C.refused("takeBack(5, 0), of another person", Checks::busy, a -> a.takeBack(5, 0), -5);
        DrillWardens b = new DrillWardens();
        C.due("takeBack(0, 0), no leave at all", b.takeBack(0, 0), -5);
        b.leave(0, 0, 0);
        b.takeBack(0, 0);
        C.due("takeBack(0, 0) a second time", b.takeBack(0, 0), -5);
    }

    private static int takenBack(int day) {
        DrillWardens x = new DrillWardens();
        x.leave(3, 0, 399);
        return x.takeBack(3, day);
    }

    private static void drill() {
        C.sentence(9, "`floor`: 0 to 9");
        DrillWardens x = new DrillWardens();
        C.inside("enlist(.., the same)", 0, 9, floor -> x.enlist(floor, floor), floor -> 1);
        C.inside("drill(.., 5)", 0, 9, floor -> x.drill(floor, 5), floor -> floor);
        C.outside("drill(.., 5)", 0, 9, floor -> x.drill(floor, 5), -1);
        C.due("count(7)", x.count(7), 10);

        C.sentence(9, "`minutes`: 1 to 60");
        C.inside("drill(0, ..)", 1, 60, minutes -> x.drill(0, minutes), minutes -> 0);
        C.outside("drill(0, ..)", 1, 60, minutes -> x.drill(0, minutes), -2);
        C.due("count(8)", x.count(8), 10 * 5 + 1830);

        C.sentence(9, "the person who leads it");
        DrillWardens y = new DrillWardens();
        Checks.enlist(y, 0, 0, 15);
        C.due("drill(0, 1), led by 0", y.drill(0, 1), 0);
        y.train(0, 0);
        C.due("drill(0, 1), the last day of training", y.drill(0, 1), 0);
        y.pass(1);
        C.due("drill(0, 1), by the deputy", y.drill(0, 1), 15);
        y.set(1, 1);
        C.due("drill(9, 1), by one who helps", y.drill(9, 1), 9);

        C.sentence(9, "UNKNOWN");
        C.refused("drill(10, 5)", Checks::busy, a -> a.drill(10, 5), -1);
        C.refused("drill(-1, 0), ahead of a bad value", Checks::busy, a -> a.drill(-1, 0), -1);

        C.sentence(9, "BAD_VALUE");
        C.refused("drill(2, 0)", Checks::busy, a -> a.drill(2, 0), -2);
        C.refused("drill(2, 61)", Checks::busy, a -> a.drill(2, 61), -2);
        C.refused("drill(0, 61), ahead of not possible", Checks::busy, a -> a.drill(0, 61), -2);
    }

    private static void drillNotPossible() {
        C.sentence(9, "NOT_POSSIBLE if the floor needs no warden, or is short today");
        C.refused("drill(0, 5), of an empty row", Checks::busy, x -> x.drill(0, 5), -4);
        DrillWardens x = new DrillWardens();
        Checks.enlist(x, 4, 1, 2, 3);
        x.setNeed(4, 0);
        C.due("drill(4, 5), no need", x.drill(4, 5), -4);
        x.setNeed(4, 3);
        C.due("drill(4, 5), all three are there", x.drill(4, 5), 1);
        x.leave(3, 0, 0);
        C.due("drill(4, 5), short by one", x.drill(4, 5), -4);
        x.set(1, 1);
        C.due("drill(4, 5), not short by help", x.drill(4, 5), 1);
        x.set(1, 0);
        x.pass(1);
        C.due("drill(4, 5), not short today", x.drill(4, 5), 1);
        x.setNeed(9, 0);
        x.set(1, 1);
        C.due("drill(9, 5), no need, whatever help there is", x.drill(9, 5), -4);
        x.leave(2, 2, 9);
        x.set(1, 0);
        C.due("drill(4, 5), short tomorrow", x.drill(4, 5), 1);
    }

    private static void pass() {
        C.sentence(10, "`days`: 1 to 99");
        C.inside("pass(..)", 1, 99, days -> new DrillWardens().pass(days), days -> 10);
        DrillWardens x = new DrillWardens();
        C.outside("pass(..)", 1, 99, days -> x.pass(days), -2);
        C.due("count(0)", x.count(0), 0);
        x.pass(99);
        C.due("count(0)", x.count(0), 99);

        C.sentence(10, "how many floors are short on the day that is today then");
        DrillWardens y = new DrillWardens();
        C.inside("enlist(.., the same)", 0, 9, floor -> y.enlist(floor, floor), floor -> 1);
        y.leave(0, 5, 5);
        y.train(9, 5);
        C.due("pass(4)", y.pass(4), 0);
        C.due("pass(1)", y.pass(1), 1);
        C.due("pass(1)", y.pass(1), 1);
        y.setNeed(0, 3);
        C.due("pass(1), a floor counts once", y.pass(1), 2);

        C.sentence(10, "BAD_VALUE");
        C.refused("pass(0)", Checks::busy, a -> a.pass(0), -2);
        C.refused("pass(100)", Checks::busy, a -> a.pass(100), -2);
        DrillWardens z = new DrillWardens();
        Checks.passTo(z, 399);
        C.outside("pass(..), ahead of full", 1, 99, days -> z.pass(days), -2);

        C.sentence(10, "FULL if today would be beyond 399");
        C.inside("pass(..) on the day 399", 1, 99, days -> z.pass(days), days -> -3);
        C.due("count(0)", z.count(0), 399);
        C.refused("pass(99) on the day 301", a -> Checks.passTo(a, 301), a -> a.pass(99), -3);
        DrillWardens b = new DrillWardens();
        Checks.passTo(b, 301);
        C.due("pass(98) on the day 301", b.pass(98), 10);
        C.due("count(0)", b.count(0), 399);
    }
}
