import java.util.function.Consumer;

/** The boundary cases of texts: the terms of them and the promises 11 to 14, a test for each sentence. */
public final class BoundsTextTest {
    private static final Checks C = new Checks();
    private static final String[] WORDS = {"row", "off", "leave", "drill", "pass"};
    private static final String[] ORDERS = {"row 9 15", "off 0 0", "leave 15 0 399", "drill 9 60", "pass 99"};

    public static void main(String[] args) {
        room();
        orders();
        words();
        kinds();
        blanks();
        ranges();
        zeros();
        greaterDigits();
        faults();
        type();
        clearText();
        carriesOut();
        allOrNone();
        oneAct();
        noneDoesNotStop();
        performReturns();
        performStops();
        stopped();
        C.finish();
    }

    private static void fault(String text, int want) {
        C.due("perform() of \"" + text + "\"", Checks.perform(new DrillWardens(), text), -100 - want);
    }

    /** No fault: the orders are carried out or stopped. */
    private static void allowed(String text) {
        int answer = Checks.perform(new DrillWardens(), text);
        C.holds("\"" + text + "\" has no fault, answered " + answer, answer > 0 || answer == -4);
    }

    private static void room() {
        C.sentence(0, "There is a text of at most 80 characters, empty at first.");
        DrillWardens x = new DrillWardens();
        C.due("count(13)", x.count(13), 0);
        C.due("clearText()", x.clearText(), 0);
        C.inside("the length behind type()", 1, 80, length -> x.type('0'), length -> length);
        C.due("the 81st", x.type('0'), -3);
        C.due("count(13)", x.count(13), 80);
        C.due("clearText()", x.clearText(), 80);
        C.inside("the length behind type()", 1, 80, length -> x.type('0'), length -> length);
        C.due("the 81st", x.type('0'), -3);
    }

    private static void orders() {
        C.sentence(0, "Orders are a text: one or more of these with \";\" between two");
        fault("", 0);
        fault(";", 0);
        fault(";pass 1", 0);
        fault("pass 1;", 7);
        fault("pass 1;;pass 1", 7);
        fault("pass 1,pass 1", 6);
        fault("pass 1:pass 1", 6);
        fault("pass 1pass 1", 6);
        fault("pass 1; pass 1", 7);
        fault("pass 1 ;pass 1", 6);
        fault("pass 1\npass 1", 6);
        StringBuilder text = new StringBuilder("pass 1");
        for (int many = 1; many <= 11; many++) {
            C.due("perform() of " + many, Checks.perform(new DrillWardens(), text.toString()), many);
            text.append(";pass 1");
        }
        C.due("the twelfth has no room", Checks.perform(new DrillWardens(), text.toString()), -180);
    }

    private static void words() {
        C.sentence(0, "of the first character that is not allowed at its place");
        for (String word : WORDS) {
            for (int i = 0; i < word.length(); i++) {
                String start = word.substring(0, i);
                fault(start + (char) (word.charAt(i) ^ 16), i);
                fault(start + Character.toUpperCase(word.charAt(i)), i);
                fault(start + (char) (word.charAt(i) + 256), i);
                fault(start + (char) (word.charAt(i) + 65_280), i);
                fault(start + " ", i);
                fault(start + ";", i);
                fault("pass 1;" + start + "z" + word, 7 + i);
            }
        }
        fault("zow 1 2", 0);
        fault("1", 0);
        fault(" pass 1", 0);
        fault("\0", 0);
        fault("\uffffass 1", 0);
        fault("rowx", 3);
        fault("rff 1 1", 1);
        fault("liave", 1);
    }

    private static void kinds() {
        C.sentence(0, "\"row\", a floor and a person (the person comes to the end of the row)");
        DrillWardens x = new DrillWardens();
        C.due("row 0 15", Checks.perform(x, "row 0 15"), 1);
        C.due("row 0 0", Checks.perform(x, "row 0 0"), 1);
        C.due("row(0, 0)", x.row(0, 0), 15);
        C.due("row(0, 1)", x.row(0, 1), 0);
        fault("row 1", 5);
        fault("row 1;", 5);
        fault("row 1 2 3", 7);

        C.sentence(0, "\"off\", a floor and a person (the person leaves the row)");
        C.due("off 0 15", Checks.perform(x, "off 0 15"), 1);
        C.due("row(0, 0)", x.row(0, 0), 0);
        C.due("row(0, 1)", x.row(0, 1), -5);
        fault("off 1", 5);
        fault("off 1;", 5);
        fault("off 1 2 3", 7);

        C.sentence(0, "\"leave\", a person, a day and another day");
        C.due("leave 0 3 3", Checks.perform(x, "leave 0 3 3"), 1);
        C.due("leave 0 4 399", Checks.perform(x, "leave 0 4 399"), 1);
        C.due("person(0, 2)", x.person(0, 2), 397);
        fault("leave 1", 7);
        fault("leave 1 2", 9);
        fault("leave 1 2;", 9);
        fault("leave 1 2 3 4", 11);

        C.sentence(0, "\"drill\", a floor and minutes (1 to 60)");
        C.due("drill 0 60", Checks.perform(x, "drill 0 60"), 1);
        C.due("drill 0 1", Checks.perform(x, "drill 0 1"), 1);
        C.due("count(8)", x.count(8), 61);
        fault("drill 0 0", 8);
        fault("drill 0 61", 9);
        fault("drill 0 ", 8);
        fault("drill 0;", 7);
        fault("drill 0 5 5", 9);

        C.sentence(0, "\"pass\" and days (1 to 99)");
        C.due("pass 99", Checks.perform(x, "pass 99"), 1);
        C.due("pass 1", Checks.perform(x, "pass 1"), 1);
        C.due("count(0)", x.count(0), 100);
        fault("pass 0", 5);
        fault("pass 100", 7);
        fault("pass 5 5", 6);
    }

    private static void blanks() {
        C.sentence(0, "there is one blank ahead of each number");
        for (String word : WORDS) {
            fault(word, word.length());
            fault(word + "1", word.length());
            fault(word + "  1", word.length() + 1);
            fault(word + "\t1", word.length());
            fault(word + (char) 160 + "1", word.length());
            fault(word + (char) (256 + ' ') + "1", word.length());
        }
        for (String order : ORDERS) {
            allowed(order);
            fault(order + " ", order.length());
            fault(order + " ;pass 1", order.length());
            int last = order.lastIndexOf(' ');
            fault(order.substring(0, last) + " " + order.substring(last), last + 1);
        }
        fault("row 1  2", 6);
        fault("leave 1 2  3", 10);
        fault("row 1-2", 5);
        fault("row 1,2", 5);
    }

    /** The greatest digits that may stand in a number are tried, one ahead and one behind each edge. */
    private static void ranges() {
        C.sentence(0, "Floors are 0 to 9, persons 0 to 15, days 0 to 399.");
        for (int floor = 0; floor <= 9; floor++) {
            allowed("row " + floor + " 3");
            allowed("off " + floor + " 3");
            allowed("drill " + floor + " 3");
        }
        for (int person = 0; person <= 15; person++) {
            allowed("row 3 " + person);
            allowed("off 3 " + person);
            allowed("leave " + person + " 3 4");
        }
        for (int day = 0; day <= 399; day++) {
            allowed("leave 3 " + day + " 399");
            allowed("leave 3 0 " + day);
        }
        fault("row 10 3", 5);
        fault("off 10 3", 5);
        fault("drill 10 3", 7);
        fault("row 3 16", 7);
        fault("off 3 16", 7);
        fault("leave 16 3 4", 7);
        fault("leave 3 400 4", 10);
        fault("leave 3 3 400", 12);
        fault("row -1 3", 4);
        fault("row 3 -1", 6);
        fault("leave -1 3 4", 6);
        fault("leave 3 -1 4", 8);
        fault("leave 3 3 -1", 10);
        fault("row +1 3", 4);
    }

    private static void zeros() {
        C.sentence(0, "Numbers have no zero in front, unless they are the single digit 0");
        allowed("row 0 0");
        allowed("off 0 0");
        allowed("leave 0 0 0");
        allowed("row 3 10");
        allowed("leave 10 100 200");
        allowed("drill 0 10");
        allowed("pass 10");
        fault("row 00 1", 5);
        fault("row 01 1", 5);
        fault("row 1 00", 7);
        fault("row 1 05", 7);
        fault("off 1 01", 7);
        fault("leave 00 1 1", 7);
        fault("leave 01 1 1", 7);
        fault("leave 1 00 1", 9);
        fault("leave 1 09 1", 9);
        fault("leave 1 1 00", 11);
        fault("leave 1 1 0399", 11);
        fault("drill 01 5", 7);
        fault("drill 1 05", 8);
        fault("pass 01", 5);
    }

    private static void greaterDigits() {
        C.sentence(0, "a digit by which a number would be greater than told is not allowed");
        for (int digit = 0; digit <= 9; digit++) {
            fault("row 1" + digit + " 1", 5);
            fault("row 9" + digit + " 1", 5);
            edge("row 1 1" + digit, digit <= 5);
            edge("off 1 1" + digit, digit <= 5);
            fault("row 1 2" + digit, 7);
            fault("row 1 9" + digit, 7);
            fault("row 1 15" + digit, 8);
            fault("row 1 10" + digit, 8);
            edge("leave 1 1 39" + digit, true);
            fault("leave 1 1 40" + digit, 12);
            fault("leave 1 1 99" + digit, 12);
            fault("leave 1 1 399" + digit, 13);
            fault("leave 1 1 100" + digit, 13);
            edge("drill 1 5" + digit, true);
            edge("drill 1 6" + digit, digit == 0);
            fault("drill 1 7" + digit, 9);
            fault("drill 1 60" + digit, 10);
            fault("drill 1 10" + digit, 10);
            edge("pass 9" + digit, true);
            fault("pass 99" + digit, 7);
            fault("pass 10" + digit, 7);
        }
        fault("pass 99999999999999999999", 7);
        fault("leave 1 1 4294967297", 12);
        fault("row 1 4294967297", 7);
        fault("leave 1 1 429", 12);
    }

    private static void edge(String text, boolean isAllowed) {
        if (isAllowed) {
            allowed(text);
        } else {
            fault(text, text.length() - 1);
        }
    }

    private static void faults() {
        C.sentence(0, "The fault of the text is the index, from 0, of the first character that is not allowed at its place, or the length of the text if it ends too early (the empty text does).");
        fault("", 0);
        fault("x", 0);
        for (String order : ORDERS) {
            for (int length = 0; length < order.length(); length++) {
                String start = order.substring(0, length);
                boolean isWhole = start.matches("(row|off|drill) \\d \\d+|leave \\d+ \\d+ \\d+|pass \\d+");
                if (!isWhole) {
                    fault(start, length);
                    fault("pass 1;" + start, 7 + length);
                }
            }
        }
        fault("row 1 2;row 10 20;zzz", 13);
        fault("pass 5" + "\0", 6);
        String full = "pass 1;".repeat(11) + "pas";
        C.due("length of the full text", full.length(), 80);
        fault(full, 80);
        fault("pass 1;".repeat(11) + "paz", 79);
        fault("pass 1;".repeat(11), 77);
        fault("pass 1;".repeat(10) + "leave 1 1", 79);
        fault("pass 1;".repeat(10) + "leave 1 1 ", 80);
    }

    private static void type() {
        C.sentence(11, "`character`: any character");
        DrillWardens x = new DrillWardens();
        char[] signs = {0, 1, ' ', ';', '0', 'a', 127, 128, 255, 256, 0x7fff, 0x8000, 0xd800, 0xffff};
        for (int i = 0; i < signs.length; i++) {
            C.due("type(" + (int) signs[i] + ")", x.type(signs[i]), i + 1);
        }

        C.sentence(11, "the length of the text then");
        DrillWardens y = new DrillWardens();
        C.due("type('a')", y.type('a'), 1);
        C.due("type('b')", y.type('b'), 2);
        y.clearText();
        C.due("type('p')", y.type('p'), 1);
        C.due("the rest was emptied: perform()", y.perform(), -101);

        C.sentence(11, "FULL if it has 80 characters");
        DrillWardens z = new DrillWardens();
        C.inside("type(..)", 1, 80, length -> z.type('x'), length -> length);
        C.inside("type(..)", 81, 90, length -> z.type('x'), length -> -3);
        C.due("count(13)", z.count(13), 80);
        Consumer<DrillWardens> full = a -> Checks.write(a, "pass 1;row 1 1" + " ".repeat(66));
        C.refused("type(';')", full, a -> a.type(';'), -3);
        C.refused("type('0')", full, a -> a.type('0'), -3);
    }

    private static void clearText() {
        C.sentence(12, "the length that it had");
        DrillWardens x = new DrillWardens();
        C.due("clearText() of the empty text", x.clearText(), 0);
        x.type('a');
        C.due("clearText()", x.clearText(), 1);
        C.due("clearText() a second time", x.clearText(), 0);
        C.inside("type(..)", 1, 81, length -> x.type('x'), length -> length < 81 ? length : -3);
        C.due("clearText() of the full text", x.clearText(), 80);
        C.due("count(13)", x.count(13), 0);
        C.due("perform()", x.perform(), -100);
    }

    private static void carriesOut() {
        C.sentence(13, "Carries out the orders of the text, which stays, one after the other (as enlist(), strike(), leave(), drill() and pass()); all of them, or none.");
        DrillWardens x = new DrillWardens();
        C.due("perform()", Checks.perform(x, "row 9 15;drill 9 60;pass 99;off 9 15;leave 15 0 399"), 5);
        C.due("floor(9, 1)", x.floor(9, 1), 0);
        C.due("log(9, 0, 0)", x.log(9, 0, 0), 0);
        C.due("log(9, 0, 2)", x.log(9, 0, 2), 15);
        C.due("person(15, 2)", x.person(15, 2), 400);
        C.due("count(0)", x.count(0), 99);
        C.due("the text stays: count(13)", x.count(13), 51);
        C.due("perform() again, 15 being on leave", x.perform(), -4);
        C.due("stopped(0)", x.stopped(0), 1);
        C.due("stopped(1)", x.stopped(1), -4);
        C.due("none of them: count(0)", x.count(0), 99);
        C.due("none of them: count(7)", x.count(7), 1);
        C.due("the text stays: count(13)", x.count(13), 51);
    }

    private static void allOrNone() {
        C.sentence(13, "all of them, or none");
        C.refused("perform(), the first of two", x -> Checks.write(x, "drill 9 9;pass 1"), DrillWardens::perform, -4);
        C.refused("perform(), the last of 8", x -> {
            Checks.busy(x);
            Checks.write(x, "pass 1;off 2 5;row 2 0;row 0 0;drill 0 5;leave 0 1 0;pass 9");
        }, DrillWardens::perform, -4);
        C.refused("perform(), the last of 11", x -> Checks.write(x, "pass 1;".repeat(9) + "row 1 1;row 1 1"),
                DrillWardens::perform, -4);
    }

    private static void oneAct() {
        C.sentence(13, "This is one act.");
        DrillWardens x = new DrillWardens();
        x.enlist(0, 3);
        C.due("perform() of six", Checks.perform(x, "pass 1;pass 1;pass 1;pass 1;pass 1;pass 1"), 6);
        C.due("count(12)", x.count(12), 2);
        C.due("undo()", x.undo(), 1);
        C.due("count(0)", x.count(0), 0);
        C.due("floor(0, 1)", x.floor(0, 1), 1);
        for (int i = 0; i < 5; i++) {
            x.perform();
        }
        C.due("count(12)", x.count(12), 4);
    }

    private static void noneDoesNotStop() {
        C.sentence(13, "One that would return NONE does not stop it; one that would return an error stops it.");
        DrillWardens x = new DrillWardens();
        C.due("NONE ahead, between and behind", Checks.perform(x, "off 0 0;row 0 0;off 0 1;row 0 1;off 9 9"), 5);
        C.due("floor(0, 1)", x.floor(0, 1), 2);
        C.due("stopped(0)", x.stopped(0), -5);
        C.due("an error behind NONE", Checks.perform(x, "off 0 9;row 0 0;off 0 8"), -4);
        C.due("stopped(0)", x.stopped(0), 1);
        C.due("an answer of 0 is no error", Checks.perform(x, "off 0 0;off 0 1;row 5 0;drill 5 1"), 4);
        C.due("count(7)", x.count(7), 1);
    }

    private static void performReturns() {
        C.sentence(13, "how many orders there are");
        DrillWardens x = new DrillWardens();
        C.due("one", Checks.perform(x, "pass 1"), 1);
        C.due("two", Checks.perform(x, "off 1 1;pass 1"), 2);
        C.due("eleven, the text has no room for more", Checks.perform(x, "pass 1" + ";pass 1".repeat(10)), 11);
        C.due("ten, in 80 characters", Checks.perform(x, "pass 1;".repeat(8) + "pass 10;leave 15 100 399"), 10);
        C.due("count(13)", x.count(13), 80);

        C.sentence(13, "-100 minus the fault of the text if it has one (which is an error)");
        C.refused("perform(), nothing", y -> y.pass(1), DrillWardens::perform, -100);
        C.refused("perform(), a fault of the last character", y -> {
            Checks.busy(y);
            Checks.write(y, "pass 1;row 9 9;drill 9 61");
        }, DrillWardens::perform, -124);
        C.refused("perform(), an end too early", y -> {
            Checks.busy(y);
            Checks.write(y, "pass 1;" + "pass 1;".repeat(10) + "row");
        }, DrillWardens::perform, -180);
        DrillWardens z = new DrillWardens();
        C.due("a fault is ahead of a stop", Checks.perform(z, "drill 9 9;x"), -110);
        C.due("a fault is no stop", z.stopped(0), -5);
    }

    private static void stop(String text, int order, int error) {
        DrillWardens x = new DrillWardens();
        Checks.enlist(x, 2, 5, 6, 7, 8, 9);
        x.leave(6, 0, 3);
        x.set(2, 1);
        C.due("perform() of \"" + text + "\"", Checks.perform(x, text), -4);
        C.due("stopped(0) of \"" + text + "\"", x.stopped(0), order);
        C.due("stopped(1) of \"" + text + "\"", x.stopped(1), error);
        C.due("count(12) of \"" + text + "\"", x.count(12), 4);
        C.due("count(0) of \"" + text + "\"", x.count(0), 0);
        C.due("count(6) of \"" + text + "\"", x.count(6), 1);
    }

    private static void performStops() {
        C.sentence(13, "NOT_POSSIBLE if any is stopped");
        stop("row 2 10", 0, -3);
        stop("pass 1;row 2 5", 1, -4);
        stop("leave 1 1 0", 0, -2);
        stop("leave 1 399 398", 0, -2);
        stop("pass 1;pass 1;leave 6 3 3", 2, -4);
        stop("leave 6 9 9;leave 7 9 9;leave 5 9 9;leave 8 9 9;leave 9 9 9", 4, -6);
        stop("drill 2 1;drill 1 1", 1, -4);
        stop("pass 99;pass 99;pass 99;pass 99;pass 3;pass 1;pass 1", 5, -3);
        stop("pass 1;".repeat(9) + "off 2 5;row 2 6", 10, -4);
        DrillWardens x = new DrillWardens();
        Checks.fullOfLeaves(x);
        C.due("the 41st leave", Checks.perform(x, "leave 0 398 398"), -4);
        C.due("stopped(1)", x.stopped(1), -3);
        x.takeBack(0, 0);
        C.due("the 40th leave and the 41st", Checks.perform(x, "leave 0 398 398;leave 0 399 399"), -4);
        C.due("stopped(0)", x.stopped(0), 1);
        C.due("the 40th leave", Checks.perform(x, "leave 0 398 398"), 1);
        C.due("count(6)", x.count(6), 40);
    }

    private static void stopped() {
        C.sentence(14, "`what`: 0 for the number of the order in its text, from 0, 1 for the error");
        DrillWardens x = new DrillWardens();
        Checks.perform(x, "pass 99;pass 99;pass 99;pass 99;pass 4");
        C.due("stopped(0)", x.stopped(0), 4);
        C.due("stopped(1)", x.stopped(1), -3);

        C.sentence(14, "the number");
        Checks.perform(x, "drill 0 1");
        C.due("the first order: stopped(0)", x.stopped(0), 0);
        C.due("stopped(1)", x.stopped(1), -4);
        Checks.perform(x, "pass 1;".repeat(9) + "row 0 1;row 0 1");
        C.due("the eleventh order: stopped(0)", x.stopped(0), 10);
        x.clearText();
        C.due("without its text: stopped(0)", x.stopped(0), 10);

        C.sentence(14, "Tells of the latest stop of perform().");
        C.due("perform(), not stopped", Checks.perform(x, "pass 1"), 1);
        C.due("stopped(0)", x.stopped(0), 10);
        C.due("perform(), a fault", Checks.perform(x, "pass"), -104);
        C.due("stopped(0)", x.stopped(0), 10);
        C.due("drill(0, 1), no order", x.drill(0, 1), -4);
        C.due("stopped(0)", x.stopped(0), 10);
        C.due("perform(), stopped", Checks.perform(x, "off 0 0;leave 0 1 0"), -4);
        C.due("stopped(0)", x.stopped(0), 1);
        C.due("stopped(1)", x.stopped(1), -2);

        C.sentence(14, "BAD_VALUE");
        C.outside("stopped(..)", 0, 1, what -> x.stopped(what), -2);
        DrillWardens y = new DrillWardens();
        C.outside("stopped(..), ahead of none", 0, 1, what -> y.stopped(what), -2);

        C.sentence(14, "NONE if none was stopped yet");
        C.inside("stopped(..)", 0, 1, what -> y.stopped(what), what -> -5);
        C.due("a fault", y.perform(), -100);
        C.due("no stop", Checks.perform(y, "pass 1"), 1);
        C.inside("stopped(..)", 0, 1, what -> y.stopped(what), what -> -5);
    }
}
