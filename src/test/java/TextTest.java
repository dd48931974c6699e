/** Promises 11 to 14: type, clearText, perform, stopped. */
public final class TextTest {
    private static final Checks C = new Checks();

    public static void main(String[] args) {
        type();
        clearText();
        faults();
        perform();
        performStops();
        stopped();
        C.finish();
    }

    private static void type() {
        C.test("promise 11: type");
        DrillWardens x = new DrillWardens();
        C.due("type('a')", x.type('a'), 1);
        C.due("type(0)", x.type((char) 0), 2);
        C.due("type(65535)", x.type((char) 65535), 3);
        for (int i = 4; i <= 80; i++) {
            C.due("type(' ')", x.type(' '), i);
        }
        C.due("the 81st", x.type('x'), -3);
        C.due("count(13)", x.count(13), 80);
        C.due("it is not an act", x.count(12), 0);
        x.enlist(0, 0);
        x.undo();
        C.due("undo() leaves the text", x.count(13), 80);
    }

    private static void clearText() {
        C.test("promise 12: clearText");
        DrillWardens x = new DrillWardens();
        C.due("clearText()", x.clearText(), 0);
        x.type('p');
        x.type('a');
        C.due("clearText()", x.clearText(), 2);
        C.due("count(13)", x.count(13), 0);
        C.due("clearText()", x.clearText(), 0);
        C.due("it is not an act", x.count(12), 0);
        C.due("type('p')", x.type('p'), 1);
        C.due("nothing is left behind it", x.perform(), -101);
    }

    private static void fault(String text, int want) {
        DrillWardens x = new DrillWardens();
        C.due("perform() of \"" + text + "\"", Checks.perform(x, text), -100 - want);
        C.due("a fault is no stop", x.stopped(1), -5);
        C.due("a fault is no act", x.count(12), 0);
        C.due("nothing is carried out", x.count(0), 0);
    }

    private static void faults() {
        C.test("promise 13: perform, faults of words");
        String[] words = {"row", "off", "leave", "drill", "pass"};
        for (String word : words) {
            for (int i = 0; i < word.length(); i++) {
                fault(word.substring(0, i), i);
                fault(word.substring(0, i) + "z", i);
                fault("pass 1;" + word.substring(0, i) + " ", 7 + i);
            }
            fault(word, word.length());
            fault(word + " ", word.length() + 1);
            fault(word + "  1", word.length() + 1);
            fault(word + ";", word.length());
            fault(word + " x", word.length() + 1);
            fault(word + " -", word.length() + 1);
        }
        fault("Row 1 2", 0);
        fault(" row 1 2", 0);
        fault(";", 0);
        fault("pass 1;", 7);
        fault("pass 1;;", 7);
        fault("pass 1; pass 1", 7);
        fault("pass 1 ;pass 1", 6);
        fault("pass 1 1", 6);
        fault("row 1;", 5);
        fault("row 1", 5);
        fault("row 1 2 3", 7);
        fault("leave 1 2", 9);
        fault("leave 1 2;", 9);
        fault("drill 1" + (char) 0, 7);
        fault("drill 1" + (char) (256 + ' ') + "5", 7);

        C.test("promise 13: perform, faults of numbers");
        fault("row 10 1", 5);
        fault("row 00 1", 5);
        fault("row 0 00", 7);
        fault("row 0 16", 7);
        fault("row 0 20", 7);
        fault("row 0 150", 8);
        fault("off 10 1", 5);
        fault("off 0 16", 7);
        fault("off 0 01", 7);
        fault("leave 16 0 0", 7);
        fault("leave 1 400 0", 10);
        fault("leave 1 3990 0", 11);
        fault("leave 1 0 400", 12);
        fault("leave 1 0 99;leave 1 0 998", 25);
        fault("leave 1 00 1", 9);
        fault("drill 10 1", 7);
        fault("drill 1 0", 8);
        fault("drill 1 05", 8);
        fault("drill 1 61", 9);
        fault("drill 1 70", 9);
        fault("drill 1 600", 10);
        fault("pass 0", 5);
        fault("pass 100", 7);
        fault("pass 1" + (char) ('9' + 1), 6);
        fault("pass 1" + (char) ('0' - 1), 6);
    }

    private static void perform() {
        C.test("promise 13: perform");
        DrillWardens x = new DrillWardens();
        C.due("one order", Checks.perform(x, "row 9 15"), 1);
        C.due("row(9, 0)", x.row(9, 0), 15);
        C.due("five orders", Checks.perform(x, "row 9 10;off 9 15;leave 10 0 399;row 9 1;pass 99"), 5);
        C.due("row(9, 0)", x.row(9, 0), 10);
        C.due("row(9, 1)", x.row(9, 1), 1);
        C.due("person(10, 2)", x.person(10, 2), 400);
        C.due("count(0)", x.count(0), 99);
        C.due("the text stays", x.count(13), 48);
        C.due("one act each", x.count(12), 2);
        C.due("drill", Checks.perform(x, "drill 9 60;drill 9 1;drill 9 10"), 3);
        C.due("log(9, 0, 1)", x.log(9, 0, 1), 10);
        C.due("log(9, 1, 1)", x.log(9, 1, 1), 1);
        C.due("log(9, 2, 1)", x.log(9, 2, 1), 60);
        C.due("log(9, 2, 2)", x.log(9, 2, 2), 1);
        C.due("undo()", x.undo(), 2);
        C.due("all of them are undone", x.floor(9, 2), 0);
        C.due("NONE does not stop it", Checks.perform(x, "off 9 7;off 8 7"), 2);
        C.due("it is an act still", x.count(12), 3);
        C.due("again", x.perform(), 2);
        C.due("no stop so far", x.stopped(0), -5);

        C.test("promise 13: perform, answers of 0 are no errors");
        x = new DrillWardens();
        Checks.needOnly(x, 1);
        C.due("led by 0, none short, none left", Checks.perform(x, "row 0 0;drill 0 5;pass 1;off 0 0"), 4);
        C.due("person(0, 4)", x.person(0, 4), 1);
        C.due("floor(0, 1)", x.floor(0, 1), 0);
        C.due("greatest numbers", Checks.perform(x, "row 9 15;leave 15 399 399;pass 99;off 9 15"), 4);
        C.due("count(0)", x.count(0), 100);

        C.test("promise 13: perform, a full text");
        x = new DrillWardens();
        String text = "pass 1;pass 1;pass 1;pass 1;pass 1;pass 1;pass 1;pass 1;pass 1;pass 1;pass 1";
        C.due("eleven orders", Checks.perform(x, text), 11);
        C.due("count(0)", x.count(0), 11);
        C.due("too early", Checks.perform(x, text + ";"), -177);
        C.due("too early", Checks.perform(x, text + ";pas"), -180);
        text = "pass 10;pass 1;pass 1;pass 1;pass 1;pass 1;pass 1;pass 1;pass 1;leave 15 100 399";
        C.due("ten orders", Checks.perform(x, text), 10);
        C.due("80 characters", x.count(13), 80);
        C.due("person(15, 2)", x.person(15, 2), 300);
    }

    private static void performStops() {
        C.test("promise 13: perform, all or none");
        stopped("row 1 5;leave 5 0 9;pass 2;row 0 5", 3, -4);
        stopped("row 0 6", 0, -3);
        stopped("off 3 3;leave 5 9 8", 1, -2);
        stopped("leave 5 0 9;leave 5 9 9", 1, -4);
        stopped("drill 0 5;drill 1 5", 1, -4);
        stopped("pass 99;pass 99;pass 99;pass 99;pass 4;row 1 1", 4, -3);
        DrillWardens x = fullRow();
        x.set(2, 1);
        C.due("refusals are looked at by the state of then",
                Checks.perform(x, "leave 1 0 0;leave 2 0 0;leave 3 0 0;leave 4 0 0;leave 5 0 0"), -4);
        C.due("stopped(0)", x.stopped(0), 4);
        C.due("stopped(1)", x.stopped(1), -6);
        C.due("count(6)", x.count(6), 0);
    }

    private static DrillWardens fullRow() {
        DrillWardens x = new DrillWardens();
        Checks.enlist(x, 0, 1, 2, 3, 4, 5);
        return x;
    }

    private static void stopped(String text, int order, int error) {
        DrillWardens x = fullRow();
        String picture = Checks.picture(x);
        stop(x, text, order, error);
        x.clearText();
        C.holds("a stop changes nothing", picture.equals(Checks.picture(x)));
    }

    private static void stop(DrillWardens x, String text, int order, int error) {
        C.due("perform() of \"" + text + "\"", Checks.perform(x, text), -4);
        C.due("stopped(0) of \"" + text + "\"", x.stopped(0), order);
        C.due("stopped(1) of \"" + text + "\"", x.stopped(1), error);
    }

    private static void stopped() {
        C.test("promise 14: stopped");
        DrillWardens x = new DrillWardens();
        C.due("stopped(-1)", x.stopped(-1), -2);
        C.due("stopped(2)", x.stopped(2), -2);
        C.due("stopped(0)", x.stopped(0), -5);
        C.due("stopped(1)", x.stopped(1), -5);
        x.keep();
        stop(x, "drill 3 3", 0, -4);
        C.due("perform() of \"pass 1\"", Checks.perform(x, "pass 1"), 1);
        C.due("the latest stop stays", x.stopped(1), -4);
        C.due("a fault", Checks.perform(x, "pass"), -104);
        C.due("the latest stop stays", x.stopped(0), 0);
        x.undo();
        x.restore();
        C.due("undo() and restore() leave it", x.stopped(0), 0);
        stop(x, "row 1 1;off 1 2;row 1 1", 2, -4);
        C.due("stopped(2)", x.stopped(2), -2);
    }
}
