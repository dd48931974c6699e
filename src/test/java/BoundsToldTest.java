/** The boundary cases of the promises 18 to 30, what is told, a test for each sentence. */
public final class BoundsToldTest {
    private static final Checks C = new Checks();

    public static void main(String[] args) {
        warden();
        wardenErrors();
        staff();
        floor();
        row();
        person();
        personErrors();
        log();
        due();
        reason();
        reasonErrors();
        firstShort();
        load();
        ifLeft();
        ifLeftErrors();
        bestDay();
        count();
        countErrors();
        todayOnly();
        C.finish();
    }

    /** The floor 3 needs three and has the row 1, 2, 4, 0, 15, the floor 6 the row 1, 5; the others have none. */
    private static DrillWardens rows() {
        DrillWardens x = new DrillWardens();
        Checks.enlist(x, 3, 1, 2, 4, 0, 15);
        Checks.enlist(x, 6, 1, 5);
        x.setNeed(3, 3);
        return x;
    }

    private static void warden() {
        DrillWardens x = rows();
        C.sentence(18, "`day`: 0 to 399");
        C.inside("warden(.., 6, 0)", 0, 399, day -> x.warden(day, 6, 0), day -> 5);
        C.outside("warden(.., 6, 0)", 0, 399, day -> x.warden(day, 6, 0), -2);

        DrillWardens y = rows();
        C.sentence(18, "`floor`: 0 to 9");
        C.inside("warden(0, .., 0)", 0, 9, floor -> y.warden(0, floor, 0), floor -> floor == 3 ? 1 : floor == 6 ? 5 : -5);
        C.outside("warden(0, .., 0)", 0, 9, floor -> y.warden(0, floor, 0), -1);
        y.enlist(0, 13);
        y.enlist(9, 14);
        C.due("warden(0, 0, 0)", y.warden(0, 0, 0), 13);
        C.due("warden(0, 9, 0)", y.warden(0, 9, 0), 14);

        C.sentence(18, "`rank`: from 0, in the order in which the floor took them");
        int[] taken = {1, 2, 4};
        C.inside("warden(0, 3, ..)", 0, 2, rank -> y.warden(0, 3, rank), rank -> taken[rank]);
        y.train(2, 9);
        int[] later = {1, 4, 0};
        C.inside("warden(10, 3, ..)", 0, 2, rank -> y.warden(10, 3, rank), rank -> later[rank]);
        y.setNeed(6, 3);
        y.set(1, 1);
        // 1, 2, 4, 5, 13 and 14 serve by their rows; 0, 3, 6 and 7 help on the floors 1, 2, 4 and 5.
        int[] helped = {5, 8, 9};
        C.inside("who help are behind: warden(0, 6, ..)", 0, 2, rank -> y.warden(0, 6, rank), rank -> helped[rank]);

        C.sentence(18, "the person");
        DrillWardens z = new DrillWardens();
        z.enlist(0, 0);
        z.enlist(9, 15);
        C.due("warden(0, 0, 0)", z.warden(0, 0, 0), 0);
        C.due("warden(399, 9, 0)", z.warden(399, 9, 0), 15);
    }

    private static void wardenErrors() {
        DrillWardens x = rows();
        C.sentence(18, "UNKNOWN (floor)");
        C.due("warden(0, 10, 0)", x.warden(0, 10, 0), -1);
        C.due("warden(0, -1, 0)", x.warden(0, -1, 0), -1);
        C.due("warden(400, 10, -1), ahead of bad values", x.warden(400, 10, -1), -1);

        C.sentence(18, "BAD_VALUE (day, or rank is negative)");
        C.due("warden(-1, 3, 0)", x.warden(-1, 3, 0), -2);
        C.due("warden(400, 3, 0)", x.warden(400, 3, 0), -2);
        C.tooSmall("warden(0, 3, ..)", 0, rank -> x.warden(0, 3, rank), -2);
        C.due("warden(400, 3, 9), ahead of none", x.warden(400, 3, 9), -2);

        C.sentence(18, "NONE if there are not so many");
        C.tooMany("warden(0, 3, ..), three", 3, rank -> x.warden(0, 3, rank));
        C.tooMany("warden(0, 6, ..), one", 1, rank -> x.warden(0, 6, rank));
        C.tooMany("warden(0, 9, ..), of an empty row", 0, rank -> x.warden(0, 9, rank));
        x.setNeed(3, 0);
        C.tooMany("warden(0, 3, ..), no need", 0, rank -> x.warden(0, 3, rank));
    }

    private static void staff() {
        DrillWardens x = rows();
        C.sentence(19, "`day`: 0 to 399");
        C.inside("staff(.., 3, 0)", 0, 399, day -> x.staff(day, 3, 0), day -> 3);
        C.outside("staff(.., 3, 0)", 0, 399, day -> x.staff(day, 3, 0), -2);

        DrillWardens y = rows();
        C.sentence(19, "`floor`: 0 to 9");
        C.inside("staff(0, .., 0)", 0, 9, floor -> y.staff(0, floor, 0), floor -> floor == 3 ? 3 : floor == 6 ? 1 : 0);
        C.outside("staff(0, .., 0)", 0, 9, floor -> y.staff(0, floor, 0), -1);

        C.sentence(19, "`what`: 0 for the wardens that it has, 1 for by how many it is short, 2 for those who help");
        int[] now = {3, 0, 0};
        C.inside("staff(0, 3, ..)", 0, 2, what -> y.staff(0, 3, what), what -> now[what]);
        C.outside("staff(0, 3, ..)", 0, 2, what -> y.staff(0, 3, what), -2);

        C.sentence(19, "the number");
        C.due("of an empty row: staff(0, 9, 0)", y.staff(0, 9, 0), 0);
        C.due("of an empty row: staff(0, 9, 1)", y.staff(0, 9, 1), 1);
        y.setNeed(9, 3);
        C.due("needs 3: staff(0, 9, 1)", y.staff(0, 9, 1), 3);
        C.due("needs 3: staff(0, 9, 2)", y.staff(0, 9, 2), 0);
        y.set(1, 1);
        C.due("help: staff(0, 9, 0)", y.staff(0, 9, 0), 3);
        C.due("help: staff(0, 9, 1)", y.staff(0, 9, 1), 0);
        C.due("help: staff(0, 9, 2)", y.staff(0, 9, 2), 3);
        y.enlist(9, 14);
        C.due("one of its row: staff(0, 9, 2)", y.staff(0, 9, 2), 2);
        y.setNeed(9, 0);
        C.inside("no need: staff(0, 9, ..)", 0, 2, what -> y.staff(0, 9, what), what -> 0);

        C.sentence(19, "UNKNOWN (floor)");
        C.due("staff(0, 10, 0)", y.staff(0, 10, 0), -1);
        C.due("staff(-1, -1, 3), ahead of bad values", y.staff(-1, -1, 3), -1);

        C.sentence(19, "BAD_VALUE");
        C.due("staff(-1, 0, 0)", y.staff(-1, 0, 0), -2);
        C.due("staff(400, 0, 0)", y.staff(400, 0, 0), -2);
        C.due("staff(0, 0, 3)", y.staff(0, 0, 3), -2);
        C.due("staff(0, 0, -1)", y.staff(0, 0, -1), -2);
    }

    private static void floor() {
        DrillWardens x = rows();
        C.sentence(20, "`floor`: 0 to 9");
        C.inside("floor(.., 1)", 0, 9, floor -> x.floor(floor, 1), floor -> floor == 3 ? 5 : floor == 6 ? 2 : 0);
        C.outside("floor(.., 1)", 0, 9, floor -> x.floor(floor, 1), -1);

        C.sentence(20, "`what`: 0 for the wardens that it needs, 1 for the persons in its row (how many), 2 for drills held on it so far, 3 for the day of the latest one (NONE without one)");
        int[] now = {3, 5, 0, -5};
        C.inside("floor(3, ..)", 0, 3, what -> x.floor(3, what), what -> now[what]);
        C.outside("floor(3, ..)", 0, 3, what -> x.floor(3, what), -2);

        C.sentence(20, "the number");
        x.drill(3, 9);
        C.due("floor(3, 2)", x.floor(3, 2), 1);
        C.due("held on the day 0: floor(3, 3)", x.floor(3, 3), 0);
        C.due("none was held: floor(6, 3)", x.floor(6, 3), -5);
        for (int i = 0; i < 9; i++) {
            x.drill(3, 60);
        }
        C.due("more than the log has: floor(3, 2)", x.floor(3, 2), 10);
        Checks.passTo(x, 399);
        x.drill(3, 1);
        C.due("floor(3, 3)", x.floor(3, 3), 399);
        x.undo();
        C.due("undone: floor(3, 3)", x.floor(3, 3), 0);
        C.due("undone: floor(3, 2)", x.floor(3, 2), 10);

        C.sentence(20, "UNKNOWN");
        C.due("floor(10, 0)", x.floor(10, 0), -1);
        C.due("floor(-1, 4), ahead of a bad value", x.floor(-1, 4), -1);

        C.sentence(20, "BAD_VALUE");
        C.due("floor(0, 4)", x.floor(0, 4), -2);
        C.due("floor(9, -1)", x.floor(9, -1), -2);
    }

    private static void row() {
        DrillWardens x = rows();
        C.sentence(21, "`floor`: 0 to 9");
        C.inside("row(.., 0)", 0, 9, floor -> x.row(floor, 0), floor -> floor == 3 || floor == 6 ? 1 : -5);
        C.outside("row(.., 0)", 0, 9, floor -> x.row(floor, 0), -1);

        C.sentence(21, "`place`: from 0");
        int[] row = {1, 2, 4, 0, 15};
        C.inside("row(3, ..)", 0, 4, place -> x.row(3, place), place -> row[place]);

        C.sentence(21, "the person");
        x.strike(3, 1);
        C.inside("row(3, ..)", 0, 3, place -> x.row(3, place), place -> row[place + 1]);
        x.enlist(3, 1);
        C.due("row(3, 4)", x.row(3, 4), 1);

        C.sentence(21, "UNKNOWN");
        C.due("row(10, 0)", x.row(10, 0), -1);
        C.due("row(-1, -1), ahead of a bad value", x.row(-1, -1), -1);

        C.sentence(21, "BAD_VALUE if place is negative");
        C.tooSmall("row(3, ..)", 0, place -> x.row(3, place), -2);
        C.tooSmall("row(0, ..), of an empty row", 0, place -> x.row(0, place), -2);

        C.sentence(21, "NONE if there are not so many");
        C.tooMany("row(3, ..), five", 5, place -> x.row(3, place));
        C.tooMany("row(6, ..), two", 2, place -> x.row(6, place));
        C.tooMany("row(9, ..), none", 0, place -> x.row(9, place));
        x.strike(6, 5);
        C.due("row(6, 1), who left", x.row(6, 1), -5);
    }

    private static void person() {
        DrillWardens x = rows();
        C.sentence(22, "`person`: 0 to 15");
        C.inside("person(.., 0)", 0, 15, person -> x.person(person, 0), person -> 399);
        C.outside("person(.., 0)", 0, 15, person -> x.person(person, 0), -1);

        C.sentence(22, "`what`: 0 for the day until which the person is trained, 1 for leaves that are granted, 2 for days of these, 3 for floors in whose rows the person is, as a set, 4 for drills that the person led so far, 5 for the floor on which the person serves today (NONE for none)");
        int[] now = {399, 0, 0, 8 + 64, 0, 3};
        C.inside("person(1, ..)", 0, 5, what -> x.person(1, what), what -> now[what]);
        C.outside("person(1, ..)", 0, 5, what -> x.person(1, what), -2);
        C.due("person(15, 5), for none", x.person(15, 5), -5);
        C.due("person(14, 3), in no row", x.person(14, 3), 0);
    }

    private static void personErrors() {
        DrillWardens x = rows();
        C.sentence(22, "the number");
        x.leave(2, 0, 0);
        x.leave(2, 2, 399);
        x.train(2, 0);
        x.drill(3, 1);
        x.drill(3, 1);
        C.due("person(2, 0)", x.person(2, 0), 0);
        C.due("person(2, 1)", x.person(2, 1), 2);
        C.due("person(2, 2)", x.person(2, 2), 399);
        C.due("on leave today: person(2, 5)", x.person(2, 5), -5);
        C.due("person(1, 4)", x.person(1, 4), 2);
        C.due("who serves and does not lead: person(4, 4)", x.person(4, 4), 0);
        C.due("the deputy serves: person(0, 5)", x.person(0, 5), 3);
        x.enlist(0, 15);
        x.enlist(9, 15);
        C.due("person(15, 3)", x.person(15, 3), 1 + 8 + 512);
        C.due("on the floor 0: person(15, 5)", x.person(15, 5), 0);
        x.takeBack(2, 300);
        C.due("person(2, 1)", x.person(2, 1), 1);
        C.due("person(2, 2)", x.person(2, 2), 1);

        C.sentence(22, "UNKNOWN");
        C.due("person(16, 0)", x.person(16, 0), -1);
        C.due("person(-1, 6), ahead of a bad value", x.person(-1, 6), -1);

        C.sentence(22, "BAD_VALUE");
        C.due("person(0, 6)", x.person(0, 6), -2);
        C.due("person(15, -1)", x.person(15, -1), -2);
    }

    private static void log() {
        DrillWardens x = rows();
        C.sentence(23, "`floor`: 0 to 9");
        x.set(1, 1);
        for (int floor = 0; floor < 10; floor++) {
            x.drill(floor, 10 + floor);
        }
        C.inside("log(.., 0, 1)", 0, 9, floor -> x.log(floor, 0, 1), floor -> 10 + floor);
        C.outside("log(.., 0, 1)", 0, 9, floor -> x.log(floor, 0, 1), -1);

        C.sentence(23, "`rank`: 0 for the latest one, and so on");
        C.due("one is in it: log(3, 1, 1)", x.log(3, 1, 1), -5);
        for (int i = 1; i <= 9; i++) {
            x.pass(1);
            x.drill(3, i);
        }
        C.inside("log(3, .., 1)", 0, 5, rank -> x.log(3, rank, 1), rank -> 9 - rank);
        C.inside("log(3, .., 0)", 0, 5, rank -> x.log(3, rank, 0), rank -> 9 - rank);

        C.sentence(23, "`what`: 0 for its day, 1 for its minutes, 2 for the person who led it");
        x.leave(1, 0, 399);
        x.pass(90);
        x.drill(3, 60);
        int[] now = {99, 60, 2};
        C.inside("log(3, 0, ..)", 0, 2, what -> x.log(3, 0, what), what -> now[what]);
        C.outside("log(3, 0, ..)", 0, 2, what -> x.log(3, 0, what), -2);
        C.due("who led it, on leave since: log(3, 1, 2)", x.log(3, 1, 2), 1);

        C.sentence(23, "the number");
        C.due("the day 0: log(9, 0, 0)", x.log(9, 0, 0), 0);
        C.due("led by 0: log(0, 0, 2)", x.log(0, 0, 2), 0);

        C.sentence(23, "UNKNOWN");
        C.due("log(10, 0, 0)", x.log(10, 0, 0), -1);
        C.due("log(-1, -1, 3), ahead of bad values", x.log(-1, -1, 3), -1);

        C.sentence(23, "BAD_VALUE (rank is negative, or what)");
        C.tooSmall("log(3, .., 0)", 0, rank -> x.log(3, rank, 0), -2);
        C.due("log(3, 0, -1)", x.log(3, 0, -1), -2);
        C.due("log(3, 6, 3), ahead of none", x.log(3, 6, 3), -2);

        C.sentence(23, "NONE if there are not so many");
        C.tooMany("log(3, .., 0), six of eleven", 6, rank -> x.log(3, rank, 0));
        C.tooMany("log(9, .., 0), one", 1, rank -> x.log(9, rank, 0));
        DrillWardens y = new DrillWardens();
        C.tooMany("log(0, .., 2), none", 0, rank -> y.log(0, rank, 2));
    }

    private static void due() {
        DrillWardens x = rows();
        C.sentence(24, "`quarter`: 0 to 3");
        C.inside("due(..)", 0, 3, quarter -> x.due(quarter), quarter -> 1023);
        C.outside("due(..)", 0, 3, quarter -> x.due(quarter), -1);

        C.sentence(24, "the floors, as a set");
        Checks.needOnly(x, 1 + 8 + 64 + 512);
        C.due("due(3)", x.due(3), 1 + 8 + 64 + 512);
        x.drill(3, 1);
        C.due("due(0)", x.due(0), 1 + 64 + 512);
        Checks.passTo(x, 399);
        x.drill(6, 1);
        C.due("due(3)", x.due(3), 1 + 8 + 512);
        C.due("a quarter that was: due(0)", x.due(0), 1 + 64 + 512);
        Checks.needOnly(x, 0);
        C.inside("none: due(..)", 0, 3, quarter -> x.due(quarter), quarter -> 0);

        C.sentence(24, "UNKNOWN");
        C.due("due(4)", x.due(4), -1);
        C.due("due(-1)", x.due(-1), -1);
    }

    private static void reason() {
        DrillWardens x = rows();
        C.sentence(25, "`day`: 0 to 399");
        C.inside("reason(.., 3, 1)", 0, 399, day -> x.reason(day, 3, 1), day -> 0);
        C.outside("reason(.., 3, 1)", 0, 399, day -> x.reason(day, 3, 1), -2);

        DrillWardens y = rows();
        C.sentence(25, "`floor`: 0 to 9");
        C.inside("reason(0, .., 1)", 0, 9, floor -> y.reason(0, floor, 1), floor -> floor == 3 ? 0 : 3);
        C.outside("reason(0, .., 1)", 0, 9, floor -> y.reason(0, floor, 1), -1);

        C.sentence(25, "`person`: 0 to 15");
        int[] reasons = {5, 0, 0, 4, 0, 3, 4, 4, 4, 4, 4, 4, 4, 4, 4, 5};
        C.inside("reason(0, 3, ..)", 0, 15, person -> y.reason(0, 3, person), person -> reasons[person]);
        C.outside("reason(0, 3, ..)", 0, 15, person -> y.reason(0, 3, person), -1);

        C.sentence(25, "0 if the person does");
        DrillWardens z = new DrillWardens();
        z.set(1, 1);
        C.inside("who helps: reason(0, .., the same)", 0, 9, floor -> z.reason(0, floor, floor), floor -> 0);

        C.sentence(25, "the first that holds: 1 the person is on leave, 2 is not trained, 3 serves on another floor, 4 is not in its row, 5 it has enough others");
        C.due("reason(0, 9, 0)", z.reason(0, 9, 0), 3);
        C.due("reason(0, 9, 15)", z.reason(0, 9, 15), 4);
        z.enlist(9, 14);
        z.enlist(9, 15);
        C.due("reason(0, 9, 15)", z.reason(0, 9, 15), 5);
        z.train(15, 0);
        C.due("the last day of training: reason(0, 9, 15)", z.reason(0, 9, 15), 5);
        C.due("reason(1, 9, 15)", z.reason(1, 9, 15), 2);
        C.due("not in the row either: reason(1, 8, 15)", z.reason(1, 8, 15), 2);
        z.leave(15, 1, 2);
        C.due("reason(0, 9, 15)", z.reason(0, 9, 15), 5);
        C.due("not trained either: reason(1, 9, 15)", z.reason(1, 9, 15), 1);
        C.due("not trained either: reason(2, 0, 15)", z.reason(2, 0, 15), 1);
        C.due("reason(3, 9, 15)", z.reason(3, 9, 15), 2);
        z.setNeed(9, 0);
        C.due("needs none, helps on the floor 0 no more than before: reason(0, 9, 14)", z.reason(0, 9, 14), 5);
    }

    private static void reasonErrors() {
        DrillWardens x = rows();
        C.sentence(25, "UNKNOWN (floor or person)");
        C.due("reason(0, 10, 0)", x.reason(0, 10, 0), -1);
        C.due("reason(0, 0, 16)", x.reason(0, 0, 16), -1);
        C.due("reason(400, -1, 0), ahead of a bad value", x.reason(400, -1, 0), -1);
        C.due("reason(400, 0, -1), ahead of a bad value", x.reason(400, 0, -1), -1);

        C.sentence(25, "BAD_VALUE");
        C.due("reason(-1, 0, 0)", x.reason(-1, 0, 0), -2);
        C.due("reason(400, 9, 15)", x.reason(400, 9, 15), -2);
    }

    private static void firstShort() {
        DrillWardens x = rows();
        C.sentence(26, "`floor`: 0 to 9");
        C.inside("firstShort(..)", 0, 9, floor -> x.firstShort(floor), floor -> floor == 3 || floor == 6 ? -5 : 0);
        C.outside("firstShort(..)", 0, 9, floor -> x.firstShort(floor), -1);

        C.sentence(26, "the day");
        x.leave(5, 0, 0);
        C.due("today: firstShort(6)", x.firstShort(6), 0);
        x.leave(5, 398, 398);
        x.pass(1);
        C.due("firstShort(6)", x.firstShort(6), 398);
        x.train(15, 200);
        x.train(0, 200);
        C.due("deputies are not needed: firstShort(3)", x.firstShort(3), -5);
        x.train(1, 250);
        C.due("short by one: firstShort(3)", x.firstShort(3), 251);
        Checks.passTo(x, 300);
        C.due("short since: firstShort(3)", x.firstShort(3), 300);
        x.enlist(0, 0);
        x.train(0, 350);
        C.due("the floor 0, by the person 0: firstShort(0)", x.firstShort(0), 351);

        C.sentence(26, "UNKNOWN");
        C.due("firstShort(10)", x.firstShort(10), -1);
        C.due("firstShort(-1)", x.firstShort(-1), -1);

        C.sentence(26, "NONE if there is none up to 399");
        C.due("firstShort(6)", x.firstShort(6), 398);
        Checks.passTo(x, 399);
        C.due("firstShort(6)", x.firstShort(6), -5);
        C.due("today is the last day: firstShort(3)", x.firstShort(3), 399);
        x.setNeed(3, 0);
        C.due("needs none: firstShort(3)", x.firstShort(3), -5);
        x.leave(5, 399, 399);
        C.due("firstShort(6)", x.firstShort(6), 399);
    }

    private static void load() {
        DrillWardens x = rows();
        C.sentence(27, "`person`: 0 to 15");
        int[] loads = {0, 9, 9, 0, 9, 9, 0, 0, 0, 0, 0, 0, 0, 0, 0, 0};
        C.inside("load(.., 9)", 0, 15, person -> x.load(person, 9), person -> loads[person]);
        C.outside("load(.., 9)", 0, 15, person -> x.load(person, 9), -1);

        C.sentence(27, "`days`: 1 to 99: so many days, today counted, up to 399");
        C.inside("load(1, ..)", 1, 99, days -> x.load(1, days), days -> days);
        C.outside("load(1, ..)", 1, 99, days -> x.load(1, days), -2);
        Checks.passTo(x, 301);
        C.due("on the day 301: load(1, 99)", x.load(1, 99), 99);
        x.pass(1);
        C.due("on the day 302: load(1, 99)", x.load(1, 99), 98);
        C.due("on the day 302: load(1, 98)", x.load(1, 98), 98);
        x.pass(97);
        C.inside("on the day 399: load(1, ..)", 1, 99, days -> x.load(1, days), days -> 1);

        C.sentence(27, "how many");
        DrillWardens y = rows();
        y.leave(1, 0, 0);
        C.due("on leave today: load(1, 1)", y.load(1, 1), 0);
        C.due("load(1, 2)", y.load(1, 2), 1);
        C.due("the deputy: load(0, 99)", y.load(0, 99), 1);
        y.train(2, 4);
        C.due("trained for five days: load(2, 99)", y.load(2, 99), 5);
        y.set(1, 1);
        C.due("who helps: load(6, 3)", y.load(6, 3), 3);
        y.train(6, 0);
        C.due("who helps today: load(6, 3)", y.load(6, 3), 1);

        C.sentence(27, "UNKNOWN");
        C.due("load(16, 1)", y.load(16, 1), -1);
        C.due("load(-1, 0), ahead of a bad value", y.load(-1, 0), -1);

        C.sentence(27, "BAD_VALUE");
        C.due("load(0, 0)", y.load(0, 0), -2);
        C.due("load(0, 100)", y.load(0, 100), -2);
    }

    private static void ifLeft() {
        DrillWardens x = rows();
        C.sentence(28, "`person`: 0 to 15");
        int[] brings = {0, 0, 0, 0, 0, 2, 0, 0, 0, 0, 0, 0, 0, 0, 0, 0};
        C.inside("ifLeft(.., 0, 1)", 0, 15, person -> x.ifLeft(person, 0, 1), person -> brings[person]);
        C.outside("ifLeft(.., 0, 1)", 0, 15, person -> x.ifLeft(person, 0, 1), -1);

        C.sentence(28, "`from`: 0 to 399");
        C.inside("ifLeft(5, .., 399)", 0, 399, from -> x.ifLeft(5, from, 399), from -> 400 - from);
        DrillWardens y = rows();
        C.outside("ifLeft(5, .., 399)", 0, 399, from -> y.ifLeft(5, from, 399), -2);
        C.outside("ifLeft(5, .., the same)", 0, 399, from -> y.ifLeft(5, from, from), -2);

        C.sentence(28, "`to`: from to 399");
        C.inside("ifLeft(5, 200, ..)", 200, 399, to -> y.ifLeft(5, 200, to), to -> to - 199);
        C.outside("ifLeft(5, 200, ..)", 200, 399, to -> y.ifLeft(5, 200, to), -2);
        C.due("ifLeft(5, 0, -1)", y.ifLeft(5, 0, -1), -2);

        C.sentence(28, "by how many wardens floors would be short by more on its days, together (what another floor or day would be short by less does not lessen it)");
        DrillWardens z = rows();
        z.leave(0, 10, 10);
        z.leave(15, 10, 11);
        C.due("one on the day 10: ifLeft(1, 9, 12)", z.ifLeft(1, 9, 12), 1);
        C.due("the days ahead: ifLeft(1, 0, 9)", z.ifLeft(1, 0, 9), 0);
        C.due("the days behind: ifLeft(1, 11, 399)", z.ifLeft(1, 11, 399), 0);
        z.leave(4, 10, 10);
        C.due("short already, by more then: ifLeft(1, 10, 10)", z.ifLeft(1, 10, 10), 1);
        C.due("a deputy on leave himself: ifLeft(0, 11, 399)", z.ifLeft(0, 11, 399), 0);
        z.train(5, 20);
        C.due("of trained days: ifLeft(5, 19, 399)", z.ifLeft(5, 19, 399), 2);
        z.enlist(9, 2);
        z.setNeed(3, 1);
        C.due("2 leaves the floor 9 for the floor 3: ifLeft(1, 30, 33)", z.ifLeft(1, 30, 33), 4);
        z.set(1, 1);
        C.due("help: ifLeft(1, 30, 33)", z.ifLeft(1, 30, 33), 0);

        C.sentence(28, "Tells what a leave would bring, whatever the setting 2 is.");
        DrillWardens a = rows();
        C.due("the setting 2 is 0: ifLeft(5, 0, 399)", a.ifLeft(5, 0, 399), 400);
        a.set(2, 1);
        C.due("the setting 2 is 1: ifLeft(5, 0, 399)", a.ifLeft(5, 0, 399), 400);
        C.due("the setting 2 is 1: ifLeft(2, 0, 399)", a.ifLeft(2, 0, 399), 0);
        C.due("it is no leave: count(6)", a.count(6), 0);
    }

    private static void ifLeftErrors() {
        C.sentence(28, "UNKNOWN");
        DrillWardens x = rows();
        x.leave(1, 10, 20);
        C.due("ifLeft(16, 0, 0)", x.ifLeft(16, 0, 0), -1);
        C.due("ifLeft(-1, 5, 4), ahead of a bad value", x.ifLeft(-1, 5, 4), -1);

        C.sentence(28, "BAD_VALUE");
        C.due("ifLeft(1, 20, 19), ahead of not possible", x.ifLeft(1, 20, 19), -2);
        C.due("ifLeft(1, 20, 400), ahead of not possible", x.ifLeft(1, 20, 400), -2);
        C.due("ifLeft(1, -1, 10), ahead of not possible", x.ifLeft(1, -1, 10), -2);

        C.sentence(28, "NOT_POSSIBLE as for leave()");
        C.due("ifLeft(1, 10, 20)", x.ifLeft(1, 10, 20), -4);
        C.due("ifLeft(1, 20, 30)", x.ifLeft(1, 20, 30), -4);
        C.due("ifLeft(1, 0, 10)", x.ifLeft(1, 0, 10), -4);
        C.due("ifLeft(1, 0, 9)", x.ifLeft(1, 0, 9), 0);
        C.due("ifLeft(1, 21, 21)", x.ifLeft(1, 21, 21), 0);
        DrillWardens y = new DrillWardens();
        Checks.fullOfLeaves(y);
        y.enlist(0, 0);
        C.due("40 leaves are no matter: ifLeft(0, 399, 399)", y.ifLeft(0, 399, 399), 1);
        C.due("40 leaves: ifLeft(0, 0, 0)", y.ifLeft(0, 0, 0), -4);
    }

    private static void bestDay() {
        DrillWardens x = new DrillWardens();
        C.sentence(29, "`what`: 0 for the day, 1 for these floors, as a set");
        C.outside("bestDay(..)", 0, 1, what -> x.bestDay(what), -2);
        Checks.enlist(x, 0, 0);
        Checks.enlist(x, 9, 9);
        C.due("bestDay(0)", x.bestDay(0), 0);
        C.due("bestDay(1)", x.bestDay(1), 513);

        C.sentence(29, "the number");
        x.leave(9, 0, 6);
        C.due("most floors: bestDay(0)", x.bestDay(0), 7);
        x.drill(0, 1);
        C.due("of the next quarter both: bestDay(0)", x.bestDay(0), 100);
        C.due("bestDay(1)", x.bestDay(1), 513);
        x.train(0, 99);
        C.due("of several the first: bestDay(0)", x.bestDay(0), 7);
        C.due("bestDay(1)", x.bestDay(1), 512);
        Checks.passTo(x, 9);
        C.due("from today on: bestDay(0)", x.bestDay(0), 9);
        x.drill(9, 1);
        C.due("of the next quarter: bestDay(0)", x.bestDay(0), 100);
        x.setNeed(9, 2);
        C.due("short: bestDay(0)", x.bestDay(0), -5);
        x.enlist(9, 8);
        x.train(8, 399);
        x.leave(8, 0, 398);
        C.due("the last day: bestDay(0)", x.bestDay(0), 399);

        C.sentence(29, "BAD_VALUE");
        C.due("bestDay(2)", x.bestDay(2), -2);
        C.due("bestDay(-1)", x.bestDay(-1), -2);
        C.due("ahead of none: bestDay(2)", new DrillWardens().bestDay(2), -2);

        C.sentence(29, "NONE if there is no day on which any could");
        DrillWardens y = new DrillWardens();
        C.inside("all are short: bestDay(..)", 0, 1, what -> y.bestDay(what), what -> -5);
        Checks.needOnly(y, 0);
        C.inside("none is due: bestDay(..)", 0, 1, what -> y.bestDay(what), what -> -5);
        y.setNeed(0, 1);
        y.enlist(0, 0);
        Checks.passTo(y, 300);
        C.due("bestDay(0)", y.bestDay(0), 300);
        y.drill(0, 60);
        C.inside("the last quarter has its drill: bestDay(..)", 0, 1, what -> y.bestDay(what), what -> -5);
        y.undo();
        Checks.passTo(y, 399);
        C.due("today is the last day: bestDay(0)", y.bestDay(0), 399);
        C.due("bestDay(1)", y.bestDay(1), 1);
    }

    private static void count() {
        C.sentence(30, "`what`: 0 for today, 1 for its quarter, 2 for floors that are short today, 3 for by how many wardens together, 4 for persons who serve today, 5 for persons on leave today, 6 for leaves that are granted, 7 for drills so far, 8 for minutes of drills so far, 9 to 11 for the settings, 12 for the states in the history, 13 for the length of the text");
        DrillWardens x = rows();
        x.leave(1, 0, 0);
        x.leave(14, 0, 0);
        x.leave(1, 1, 9);
        x.drill(3, 60);
        x.drill(6, 59);
        x.type('x');
        // 1 is on leave: the floor 3 has 2, 4 and 0, the floor 6 has 5; the other eight floors are short by one.
        int[] now = {0, 0, 8, 8, 4, 2, 3, 2, 119, 0, 0, 0, 4, 1};
        C.inside("count(..)", 0, 13, what -> x.count(what), what -> now[what]);
        C.outside("count(..)", 0, 13, what -> x.count(what), -2);

        C.sentence(30, "the number");
        Checks.passTo(x, 399);
        C.due("count(0)", x.count(0), 399);
        C.due("count(1)", x.count(1), 3);
        C.due("leaves that are over: count(5)", x.count(5), 0);
        C.due("leaves that are over: count(6)", x.count(6), 3);
        for (int floor = 0; floor < 10; floor++) {
            x.setNeed(floor, 3);
        }
        C.due("count(2)", x.count(2), 9);
        C.due("a floor is short by three: count(3)", x.count(3), 8 * 3 + 2);
        x.set(1, 1);
        C.due("with help: count(4)", x.count(4), 16);
        C.due("with help: count(3)", x.count(3), 14);
        for (int person = 0; person < 16; person++) {
            x.leave(person, 399, 399);
        }
        C.due("all on leave: count(5)", x.count(5), 16);
        C.due("all on leave: count(4)", x.count(4), 0);
        C.due("all on leave: count(2)", x.count(2), 10);
        C.due("all on leave: count(3)", x.count(3), 30);
        Checks.needOnly(x, 0);
        C.due("no need: count(2)", x.count(2), 0);
        C.due("no need: count(3)", x.count(3), 0);
        C.inside("quarters: count(1)", 0, 4, i -> quarterOf(99 + 100 * i), i -> Math.min(i, 3));
    }

    private static int quarterOf(int day) {
        DrillWardens x = new DrillWardens();
        Checks.passTo(x, Math.min(day, 399));
        return x.count(1);
    }

    /** A call about another day ahead of it does not change what is told of today. */
    private static void todayOnly() {
        C.sentence(30, "2 for floors that are short today, 3 for by how many wardens together, 4 for persons who serve today");
        DrillWardens x = rows();
        x.leave(5, 399, 399);
        for (int what = 0; what < 14; what++) {
            int plain = x.count(what);
            C.due("staff(399, 6, 1)", x.staff(399, 6, 1), 1);
            C.due("count(" + what + ") behind it", x.count(what), plain);
        }
        x.warden(399, 6, 0);
        C.due("person(5, 5)", x.person(5, 5), 6);
        x.firstShort(6);
        C.due("drill(6, 5)", x.drill(6, 5), 5);
        x.bestDay(0);
        C.due("load(5, 1)", x.load(5, 1), 1);
        x.ifLeft(1, 399, 399);
        C.due("count(2)", x.count(2), 8);
        x.ifLeft(1, 399, 399);
        C.due("count(3)", x.count(3), 8);
        x.ifLeft(1, 399, 399);
        C.due("count(4)", x.count(4), 4);
        x.warden(399, 6, 0);
        C.due("pass(99)", x.pass(99), 8);
    }

    private static void countErrors() {
        C.sentence(30, "BAD_VALUE");
        DrillWardens x = rows();
        C.due("count(14)", x.count(14), -2);
        C.due("count(-1)", x.count(-1), -2);
    }
}
