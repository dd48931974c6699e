/** Counts tests: a test passes if every one of its checks holds. */
final class Checks {
    private int passed;
    private int failed;
    private String test = "";
    private boolean holds = true;

    /** Begins a test; the one before it ends. */
    void test(String name) {
        end();
        test = name;
        holds = true;
    }

    void due(String call, long got, long want) {
        if (got != want) {
            holds = false;
            System.out.println(test + ": " + call + " answered " + got + ", due is " + want);
        }
    }

    void holds(String what, boolean isSo) {
        if (!isSo) {
            holds = false;
            System.out.println(test + ": this does not hold: " + what);
        }
    }

    private void end() {
        if (!test.isEmpty()) {
            if (holds) {
                passed++;
            } else {
                failed++;
            }
        }
        test = "";
    }

    /** Ends the program; .ci/run adds up these last lines. */
    void finish() {
        end();
        System.out.println(passed + " passed, " + failed + " failed");
        System.exit(failed == 0 ? 0 : 1);
    }

    /** Puts a text in place of the one that was. */
    static void write(DrillWardens x, String text) {
        x.clearText();
        for (int i = 0; i < text.length(); i++) {
            x.type(text.charAt(i));
        }
    }

    static int perform(DrillWardens x, String text) {
        write(x, text);
        return x.perform();
    }

    /** Puts persons at the end of the row of a floor. */
    static void enlist(DrillWardens x, int floor, int... persons) {
        for (int person : persons) {
            x.enlist(floor, person);
        }
    }

    /** Only the floors of the set need a warden then, one each. */
    static void needOnly(DrillWardens x, int floors) {
        for (int floor = 0; floor < 10; floor++) {
            x.setNeed(floor, floors >> floor & 1);
        }
    }

    /** All that is told, so that "changes nothing" can be looked at. */
    static String picture(DrillWardens x) {
        StringBuilder told = new StringBuilder();
        for (int floor = 0; floor < 10; floor++) {
            for (int what = 0; what < 4; what++) {
                told.append(x.floor(floor, what)).append(' ');
            }
            for (int i = 0; i < 6; i++) {
                told.append(x.row(floor, i)).append(' ');
                told.append(x.log(floor, i, 0)).append(' ');
                told.append(x.log(floor, i, 1)).append(' ');
                told.append(x.log(floor, i, 2)).append(' ');
            }
        }
        for (int person = 0; person < 16; person++) {
            for (int what = 0; what < 6; what++) {
                told.append(x.person(person, what)).append(' ');
            }
        }
        for (int what = 0; what < 14; what++) {
            told.append(x.count(what)).append(' ');
        }
        for (int quarter = 0; quarter < 4; quarter++) {
            told.append(x.due(quarter)).append(' ');
        }
        return told.toString();
    }
}
