/** The document's sentences on plans (section 3, promises 12 to 22): edge by edge. */
public final class PlanEdgesTest extends Edges {
    private static LedTables plan(int changes, int programs) {
        LedTables x = new LedTables();
        for (int i = 0; i < changes; i++) {
            x.change();
        }
        for (int i = 0; i < programs; i++) {
            x.program();
        }
        return x;
    }

    private static int node(int first, int second, int third) {
        return first + 6 * second + 36 * third;
    }

    /** The holding up of the best way, and its steps. */
    private static String wayOf(LedTables x, int node, int rewritten) {
        StringBuilder told = new StringBuilder();
        told.append(x.way(node, rewritten, -1)).append(':');
        int steps = x.way(node, rewritten, -2);
        for (int k = 0; k < steps; k++) {
            told.append(x.way(node, rewritten, k));
        }
        return told.toString();
    }

    /** Each call for a node refuses this one. */
    private static void noSuchNode(LedTables x, int node, int rewritten) {
        fails(BAD, () -> x.stands(node, rewritten));
        fails(BAD, () -> x.way(node, rewritten, -1));
        fails(BAD, () -> x.fewest(node, rewritten));
        fails(BAD, () -> x.isBack(node, rewritten));
        fails(BAD, () -> x.last(node, rewritten));
    }

    private static void isNode(LedTables x, int node, int rewritten) {
        is(true, x.stands(node, rewritten));
    }

    // ---- section 3: changes, programs, nodes ----

    @Says({"CHANGES, numbered from 0 on, 3 at most", "A CHANGE: its number; -1: there are 3."})
    static void threeChanges() {
        LedTables x = new LedTables();
        for (int i = 0; i < 3; i++) {
            is(i, x.count(10));
            is(i, x.change());
        }
        is(-1, x.change());
        is(-1, x.change());
        is(3, x.count(10));
        noSuchNode(x, 216, 0);
    }

    @Says("each at a STAGE: 0 old, 1 added, 2 both written, 3 led, 4 new read, 5 old dropped.")
    static void sixStages() {
        LedTables x = plan(1, 0);
        for (int stage = 0; stage <= 5; stage++) {
            isNode(x, stage, 0);
        }
        noSuchNode(x, 6, 0);
    }

    @Says({"PROGRAMS, numbered from 0 on, 5 at most", "A PROGRAM: its number; -1: there are 5."})
    static void fivePrograms() {
        LedTables x = new LedTables();
        for (int i = 0; i < 5; i++) {
            is(i, x.count(11));
            is(i, x.program());
        }
        is(-1, x.program());
        is(-1, x.program());
        is(5, x.count(11));
        noSuchNode(x, 0, 32);
    }

    @Says("for each CHANGE a NEED: 0 none (at first), 1 the old form (STAGES 0 to 3), 2 the new one (2 to 5).")
    static void needs() {
        for (int change = 0; change < 3; change++) {
            LedTables x = plan(3, 1);
            int digit = change == 0 ? 1 : change == 1 ? 6 : 36;
            is(0, x.need(0, change, 0));
            for (int stage = 0; stage <= 5; stage++) {
                is(true, x.stands(digit * stage, 0));
            }
            x.need(0, change, 1);
            for (int stage = 0; stage <= 5; stage++) {
                is(stage <= 3, x.stands(digit * stage, 0));
            }
            x.need(0, change, 2);
            for (int stage = 0; stage <= 5; stage++) {
                is(stage >= 2, x.stands(digit * stage, 0));
            }
            x.need(0, change, 0);
            for (int stage = 0; stage <= 5; stage++) {
                is(true, x.stands(digit * stage, 0));
            }
        }
    }

    @Says("A NODE: the STAGES of all CHANGES (CHANGE by CHANGE a digit to the base 6, CHANGE 0 the lowest)")
    static void digits() {
        for (int change = 0; change < 3; change++) {
            LedTables x = plan(3, 1);
            x.need(0, change, 2);
            for (int node = 0; node < 216; node++) {
                int[] stages = {node % 6, node / 6 % 6, node / 36};
                is(stages[change] >= 2, x.stands(node, 0));
            }
        }
    }

    @Says("and which PROGRAMS are REWRITTEN (bits; each NEED 1 of such a one is 2).")
    static void rewrittenBits() {
        for (int program = 0; program < 5; program++) {
            LedTables x = plan(2, 5);
            x.need(program, 0, 1);
            for (int set = 0; set < 32; set++) {
                boolean isRewritten = (set >> program & 1) == 1;
                is(!isRewritten, x.stands(1, set));
                is(true, x.stands(2, set));
                is(true, x.stands(3, set));
                is(isRewritten, x.stands(4, set));
            }
        }
        LedTables y = plan(3, 1);
        y.need(0, 0, 1);
        y.need(0, 2, 2);
        // of a program that is rewritten, none stays none and the new form stays the new form
        is(true, y.stands(node(2, 0, 2), 1));
        is(true, y.stands(node(5, 5, 5), 1));
        is(false, y.stands(node(1, 0, 2), 1));
        is(false, y.stands(node(2, 0, 1), 1));
        is(false, y.stands(node(0, 0, 1), 0));
        is(true, y.stands(node(0, 0, 2), 0));
        y.need(0, 1, 1);
        // each of its needs is the new form then
        is(false, y.stands(node(2, 1, 2), 1));
        is(true, y.stands(node(2, 2, 2), 1));
    }

    @Says("It STANDS, if each PROGRAM has what it needs, and all ORDERS and BARS are kept")
    static void stands() {
        LedTables x = plan(3, 5);
        for (int program = 0; program < 5; program++) {
            x.need(program, program % 3, 1);
            is(false, x.stands(node(4, 0, 0), 0));
            is(program < 1, x.stands(node(0, 4, 0), 0));
            is(program < 2, x.stands(node(0, 0, 4), 0));
        }
        is(true, x.stands(node(3, 3, 3), 0));
        x.order(0, 1, false);
        x.order(1, 2, false);
        is(true, x.stands(node(3, 3, 3), 0));
        is(false, x.stands(node(2, 3, 3), 0));
        is(false, x.stands(node(3, 2, 3), 0));
        is(true, x.stands(node(3, 2, 1), 0));
        x.order(0, 2, true);
        is(false, x.stands(node(3, 3, 3), 0));
        is(true, x.stands(node(3, 3, 0), 0));
        x.need(4, 0, 2);
        is(false, x.stands(node(1, 1, 0), 0));
        is(true, x.stands(node(2, 1, 0), 0));
    }

    @Says("an ORDER of two CHANGES: the STAGE of the second is never above that of the first")
    static void orders() {
        LedTables x = plan(3, 0);
        x.order(0, 2, false);
        for (int node = 0; node < 216; node++) {
            is(node / 36 <= node % 6, x.stands(node, 0));
        }
        LedTables y = plan(2, 0);
        y.order(1, 0, false);
        for (int node = 0; node < 36; node++) {
            is(node % 6 <= node / 6, y.stands(node, 0));
        }
    }

    @Says("a BAR (of both alike): not both are at STAGES 1 to 4.")
    static void bars() {
        for (int turn = 0; turn < 2; turn++) {
            LedTables x = plan(3, 0);
            x.order(turn == 0 ? 1 : 2, turn == 0 ? 2 : 1, true);
            for (int node = 0; node < 216; node++) {
                int one = node / 6 % 6;
                int other = node / 36;
                is(one == 0 || one == 5 || other == 0 || other == 5, x.stands(node, 0));
            }
        }
    }

    // ---- section 3: steps and ways ----

    @Says("STEPS from a NODE to one that STANDS: a CHANGE a STAGE further (holds up for its HOLD there, 0 to 99; at "
            + "first the STAGE and 1)")
    static void stepsFurther() {
        LedTables x = plan(1, 0);
        int[] due = {15, 14, 12, 9, 5, 0};
        for (int stage = 0; stage <= 5; stage++) {
            is(due[stage], x.way(stage, 0, -1));
            is(5 - stage, x.way(stage, 0, -2));
        }
        // the hold is that of the stage it leaves
        x.hold(0, 2, 99);
        is(111, x.way(0, 0, -1));
        is(108, x.way(2, 0, -1));
        is(9, x.way(3, 0, -1));
        for (int stage = 0; stage <= 4; stage++) {
            x.hold(0, stage, 99);
        }
        is(495, x.way(0, 0, -1));
        for (int stage = 0; stage <= 4; stage++) {
            x.hold(0, stage, 0);
        }
        is("0:00000", wayOf(x, 0, 0));
        LedTables y = plan(3, 0);
        for (int i = 0; i < 15; i++) {
            y.hold(i / 5, i % 5, 99);
        }
        is(1485, y.way(0, 0, -1));
    }

    @Says("back by one from STAGES 1 to 4 (holds up 1)")
    static void stepsBack() {
        LedTables x = plan(1, 0);
        for (int stage = 0; stage <= 5; stage++) {
            is(stage <= 4, x.isBack(stage, 0));
        }
        // change 0 must be at 0 while change 1 is under way, and the program holds it at 3 till then
        LedTables y = plan(3, 1);
        y.need(0, 1, 1);
        y.need(0, 2, 1);
        y.order(0, 1, true);
        y.order(2, 0, false);
        is("50:2231116110002020", wayOf(y, node(1, 0, 1), 0));
        is(49, y.way(node(0, 0, 1), 0, -1));
        is(49, y.way(node(2, 0, 2), 0, -1));
        is(44, y.way(node(0, 0, 3), 0, -1));
        is(47, y.way(node(3, 0, 3), 0, -1));
    }

    @Says("or a PROGRAM is REWRITTEN (holds up for its PRICE, 0 to 99; 5 at first).")
    static void stepsOfPrograms() {
        LedTables x = plan(1, 2);
        x.need(0, 0, 1);
        is("20:000600", wayOf(x, 0, 0));
        x.need(1, 0, 1);
        is("25:0006700", wayOf(x, 0, 0));
        is("17:0600", wayOf(x, 2, 2));
        x.price(0, 99);
        is(119, x.way(0, 0, -1));
        x.price(1, 99);
        is(213, x.way(0, 0, -1));
        x.price(0, 0);
        x.price(1, 0);
        is("15:0006700", wayOf(x, 0, 0));
        // one that is rewritten is not rewritten again
        is("12:0700", wayOf(x, 2, 1));
        is("12:000", wayOf(x, 2, 3));
        LedTables y = plan(1, 2);
        y.need(1, 0, 1);
        is("14:700", wayOf(y, 3, 0));
        is("14:700", wayOf(y, 3, 1));
        is("9:00", wayOf(y, 3, 2));
    }

    @Says("BEST WAY from a NODE to the one with all at STAGE 5: of all the one of the least holding up")
    static void leastHoldingUp() {
        // a program that need not be rewritten is not, nor does a change go back
        LedTables x = plan(2, 2);
        x.need(0, 0, 2);
        is("27:00011111", wayOf(x, 2, 0));
        x.need(0, 0, 0);
        x.price(0, 1);
        is("30:0000011111", wayOf(x, 0, 0));
        // all at stage 5 is the goal, whoever is rewritten
        is("0:", wayOf(x, 35, 0));
        is("0:", wayOf(x, 35, 3));
    }

    /** What is told behind a question for ways is looked at by the next one. */
    @Says("of all the one of the least holding up")
    static void waysAreThoseOfThePlanNow() {
        LedTables x = new LedTables();
        is("0:", wayOf(x, 0, 0));
        x.change();
        is("15:00000", wayOf(x, 0, 0));
        x.change();
        is("30:0000011111", wayOf(x, 0, 0));
        x.order(1, 0, false);
        is("30:1010101010", wayOf(x, 0, 0));
        x.order(1, 0, true);
        is("30:1111100000", wayOf(x, 0, 0));
        x.hold(1, 4, 0);
        is(25, x.way(0, 0, -1));
        x.program();
        is(25, x.way(0, 1, -1));
        is(0, x.fewest(0, 1));
        x.need(0, 0, 1);
        is("30:11111000600", wayOf(x, 0, 0));
        is(NONE, x.way(0, 1, -1));
        is("1 4", x.fewest(0, 0) + " " + x.last(0, 0));
        x.price(0, 1);
        is(26, x.way(0, 0, -1));
        x.need(0, 0, 2);
        is(NONE, x.way(0, 0, -1));
        is(false, x.isBack(0, 0));
        x.need(0, 0, 0);
        is(true, x.isBack(0, 0));
        is(25, x.way(0, 0, -1));
        x.change();
        is(40, x.way(0, 1, -1));
    }

    @Says("of these of the fewest STEPS")
    static void fewestSteps() {
        LedTables x = plan(1, 5);
        for (int program = 0; program < 5; program++) {
            x.price(program, 0);
        }
        is("15:00000", wayOf(x, 0, 0));
        for (int stage = 0; stage < 5; stage++) {
            x.hold(0, stage, 0);
        }
        is("0:00000", wayOf(x, 0, 0));
        x.need(3, 0, 1);
        is("0:000900", wayOf(x, 0, 0));
        is("0:", wayOf(x, 5, 8));
    }

    @Says("of these the first, STEP by STEP: CHANGES further by numbers (0, 1, 2), then back (3, 4, 5), then PROGRAMS "
            + "(6 and the number).")
    static void firstStepByStep() {
        LedTables x = plan(3, 0);
        is("45:000001111122222", wayOf(x, 0, 0));
        x.order(2, 0, false);
        is("45:111112020202020", wayOf(x, 0, 0));
        x.order(2, 1, false);
        is("45:201201201201201", wayOf(x, 0, 0));
        // further ahead of a program
        LedTables y = plan(2, 1);
        y.need(0, 0, 1);
        is("32:011111600", wayOf(y, 2, 0));
        // further ahead of back, here of change 1 (4)
        LedTables z = plan(3, 1);
        z.need(0, 0, 1);
        z.need(0, 2, 1);
        z.order(0, 1, false);
        z.order(1, 2, true);
        is("50:0042226002211111", wayOf(z, node(1, 1, 0), 0));
        // back, here of change 2 (5), ahead of a program
        LedTables w = plan(3, 2);
        w.need(0, 0, 1);
        w.need(0, 1, 1);
        w.need(1, 0, 1);
        w.order(0, 2, false);
        w.order(1, 2, true);
        is("50:511161122270022", wayOf(w, node(3, 0, 1), 0));
        // programs by their numbers
        LedTables v = plan(1, 5);
        for (int program = 4; program >= 0; program--) {
            v.need(program, 0, 1);
        }
        is("40:0006789" + "10" + "00", wayOf(v, 0, 0));
        is("27:068" + "10" + "00", wayOf(v, 2, 10));
    }

    @Says("FEWEST: the least number of PROGRAMS REWRITTEN in any way there.")
    static void fewestRewritten() {
        LedTables x = plan(2, 5);
        is(0, x.fewest(0, 0));
        for (int program = 0; program < 5; program++) {
            x.need(program, program % 2, 1);
            is(program + 1, x.fewest(0, 0));
        }
        x.price(0, 99);
        x.price(1, 0);
        is(5, x.fewest(0, 0));
        is(3, x.fewest(node(2, 2, 0), 3));
        is(0, x.fewest(node(2, 2, 0), 31));
        x.need(4, 0, 2);
        is(4, x.fewest(2, 0));
        is(NONE, x.fewest(0, 0));
        x.need(4, 0, 0);
        is(4, x.fewest(0, 0));
    }

    @Says("BACK is a NODE, if there is a way to all at STAGE 0 (REWRITTEN ones stay so).")
    static void backs() {
        LedTables x = plan(3, 1);
        is(true, x.isBack(0, 0));
        is(true, x.isBack(node(4, 4, 4), 0));
        is(false, x.isBack(node(5, 0, 0), 0));
        is(false, x.isBack(node(0, 5, 0), 0));
        is(false, x.isBack(node(0, 0, 5), 0));
        is(true, x.isBack(node(4, 4, 4), 1));
        x.need(0, 1, 1);
        is(true, x.isBack(node(4, 3, 4), 0));
        is(false, x.isBack(node(4, 3, 4), 1));
        is(false, x.isBack(node(4, 2, 4), 1));
        x.need(0, 1, 2);
        is(false, x.isBack(node(0, 2, 0), 0));
        LedTables y = plan(2, 0);
        y.order(1, 0, false);
        is(true, y.isBack(node(4, 4, 0), 0));
        is(false, y.isBack(node(4, 5, 0), 0));
    }

    @Says({"LAST of the BEST WAY: behind how many of its STEPS it is BACK for the last time (0: at its beginning).",
        "LAST; NONE: there is no WAY, or no NODE of it is BACK."})
    static void lasts() {
        LedTables x = plan(1, 1);
        int[] due = {4, 3, 2, 1, 0, NONE};
        for (int stage = 0; stage <= 5; stage++) {
            is(due[stage], x.last(stage, 0));
        }
        x.need(0, 0, 1);
        int[] needing = {3, 2, 1, 0, NONE, NONE};
        for (int stage = 0; stage <= 5; stage++) {
            is(needing[stage], x.last(stage, 0));
        }
        is(NONE, x.last(2, 1));
        is(NONE, x.last(0, 1));
        LedTables y = plan(2, 0);
        is(4, y.last(0, 0));
        y.order(0, 1, true);
        y.order(1, 0, false);
        is("30:1111100000", wayOf(y, 0, 0));
        is(4, y.last(0, 0));
        is(NONE, y.last(1, 0));
        is(0, new LedTables().last(0, 0));
    }

    // ---- promises 13 to 22 ----

    @Says({"HOLD of a CHANGE at a STAGE (0 to 4): what it was.", "NoSuchElementException: no such CHANGE (so below)."})
    static void holdRefuses() {
        LedTables x = new LedTables();
        fails(NO_SUCH, () -> x.hold(0, 0, 0));
        x.change();
        x.change();
        for (int stage = 0; stage <= 4; stage++) {
            is(stage + 1, x.hold(0, stage, 99));
            is(99, x.hold(0, stage, 0));
            is(0, x.hold(0, stage, 10 + stage));
        }
        for (int stage = 0; stage <= 4; stage++) {
            is(stage + 1, x.hold(1, stage, 5));
            is(10 + stage, x.hold(0, stage, 10 + stage));
        }
        for (int change : new int[] {-1, 2, MIN, MAX}) {
            fails(NO_SUCH, () -> x.hold(change, 0, 0));
            fails(NO_SUCH, () -> x.hold(change, 5, 100));
        }
        for (int stage : new int[] {-1, 5, MIN, MAX}) {
            fails(BAD, () -> x.hold(0, stage, 0));
        }
        for (int v : new int[] {-1, 100, MIN, MAX}) {
            fails(BAD, () -> x.hold(0, 0, v));
        }
        is(10, x.hold(0, 0, 1));
        x.change();
        is(1, x.hold(2, 0, 0));
        fails(NO_SUCH, () -> x.hold(3, 0, 0));
    }

    @Says("An ORDER (or, bar, a BAR) of two CHANGES: 1; 0: it was told. IllegalArgumentException: they are one.")
    static void orderRefuses() {
        LedTables x = new LedTables();
        fails(NO_SUCH, () -> x.order(0, 0, false));
        x.change();
        fails(NO_SUCH, () -> x.order(0, 1, false));
        fails(NO_SUCH, () -> x.order(1, 0, true));
        fails(BAD, () -> x.order(0, 0, false));
        fails(BAD, () -> x.order(0, 0, true));
        x.change();
        is(1, x.order(0, 1, false));
        is(0, x.order(0, 1, false));
        // the other way round it is another order, but the same bar
        is(1, x.order(1, 0, false));
        is(0, x.order(1, 0, false));
        is(1, x.order(1, 0, true));
        is(0, x.order(1, 0, true));
        is(0, x.order(0, 1, true));
        for (int change : new int[] {-1, 2, MIN, MAX}) {
            fails(NO_SUCH, () -> x.order(change, 0, false));
            fails(NO_SUCH, () -> x.order(0, change, true));
            fails(NO_SUCH, () -> x.order(change, change, true));
        }
        fails(BAD, () -> x.order(1, 1, true));
        x.change();
        is(1, x.order(0, 2, false));
        is(1, x.order(2, 1, false));
        is(1, x.order(2, 0, true));
        is(0, x.order(0, 2, true));
    }

    @Says({"The NEED of a PROGRAM for a CHANGE: what it was.",
        "IndexOutOfBoundsException: no such PROGRAM (so below)."})
    static void needRefuses() {
        LedTables x = new LedTables();
        fails(NO_INDEX, () -> x.need(0, 0, 0));
        x.program();
        fails(NO_SUCH, () -> x.need(0, 0, 0));
        x.change();
        is(0, x.need(0, 0, 2));
        is(2, x.need(0, 0, 1));
        is(1, x.need(0, 0, 0));
        is(0, x.need(0, 0, 1));
        for (int program : new int[] {-1, 1, MIN, MAX}) {
            fails(NO_INDEX, () -> x.need(program, 0, 0));
            fails(NO_INDEX, () -> x.need(program, 1, 3));
            fails(NO_INDEX, () -> x.price(program, 0));
            fails(NO_INDEX, () -> x.price(program, 100));
        }
        for (int change : new int[] {-1, 1, MIN, MAX}) {
            fails(NO_SUCH, () -> x.need(0, change, 0));
            fails(NO_SUCH, () -> x.need(0, change, 3));
        }
        for (int kind : new int[] {-1, 3, MIN, MAX}) {
            fails(BAD, () -> x.need(0, 0, kind));
        }
        is(1, x.need(0, 0, 1));
        x.change();
        x.change();
        for (int i = 1; i < 5; i++) {
            is(i, x.program());
        }
        for (int i = 1; i < 15; i++) {
            is(0, x.need(i % 5, i / 5, 1));
        }
    }

    @Says("The PRICE of a PROGRAM: what it was.")
    static void priceRefuses() {
        LedTables x = new LedTables();
        fails(NO_INDEX, () -> x.price(0, 0));
        for (int program = 0; program < 5; program++) {
            x.program();
            is(5, x.price(program, 99));
            is(99, x.price(program, 0));
            is(0, x.price(program, 10 + program));
        }
        for (int v : new int[] {-1, 100, MIN, MAX}) {
            fails(BAD, () -> x.price(0, v));
        }
        fails(NO_INDEX, () -> x.price(5, 0));
        for (int program = 0; program < 5; program++) {
            is(10 + program, x.price(program, 5));
        }
    }

    @Says({"Whether a NODE (by its digits, and the PROGRAMS REWRITTEN) STANDS.",
        "IllegalArgumentException: no such NODE (so below)."})
    static void nodesThatAreNot() {
        int[] nodes = {1, 6, 36, 216};
        for (int changes = 0; changes <= 3; changes++) {
            LedTables x = plan(changes, 0);
            isNode(x, 0, 0);
            isNode(x, nodes[changes] - 1, 0);
            noSuchNode(x, nodes[changes], 0);
            noSuchNode(x, -1, 0);
            noSuchNode(x, MIN, 0);
            noSuchNode(x, MAX, 0);
        }
        for (int programs = 0; programs <= 5; programs++) {
            LedTables x = plan(1, programs);
            isNode(x, 5, 0);
            isNode(x, 5, (1 << programs) - 1);
            noSuchNode(x, 5, 1 << programs);
            noSuchNode(x, 5, -1);
            noSuchNode(x, 5, MIN);
            noSuchNode(x, 5, MAX);
        }
    }

    @Says({"BEST WAY: what -1 its holding up, -2 how many STEPS, or the k-th STEP; NONE: there is none (also if the "
        + "NODE does not STAND), or no such STEP.", "IllegalArgumentException: also what below -2."})
    static void partsOfAWay() {
        LedTables x = plan(1, 1);
        is(15, x.way(0, 0, -1));
        is(5, x.way(0, 0, -2));
        for (int k = 0; k < 5; k++) {
            is(0, x.way(0, 0, k));
        }
        is(NONE, x.way(0, 0, 5));
        is(NONE, x.way(0, 0, MAX));
        is(0, x.way(5, 0, -1));
        is(0, x.way(5, 0, -2));
        is(NONE, x.way(5, 0, 0));
        fails(BAD, () -> x.way(0, 0, -3));
        fails(BAD, () -> x.way(0, 0, MIN));
        x.need(0, 0, 1);
        // it does not stand: at 4, not rewritten, or at 1, rewritten
        for (int what = -2; what <= 2; what++) {
            is(NONE, x.way(4, 0, what));
            is(NONE, x.way(5, 0, what));
            is(NONE, x.way(1, 1, what));
        }
        fails(BAD, () -> x.way(4, 0, -3));
        // it stands, but no way leads on
        x.change();
        x.order(0, 1, false);
        x.order(1, 0, false);
        is(true, x.stands(0, 0));
        for (int what = -2; what <= 2; what++) {
            is(NONE, x.way(0, 0, what));
        }
    }

    @Says("FEWEST; NONE likewise.")
    static void fewestWithoutAWay() {
        LedTables x = plan(2, 1);
        x.need(0, 0, 1);
        is(NONE, x.fewest(4, 0));
        is(NONE, x.fewest(35, 0));
        is(NONE, x.fewest(1, 1));
        is(0, x.fewest(35, 1));
        is(1, x.fewest(0, 0));
        x.order(0, 1, false);
        x.order(1, 0, false);
        is(true, x.stands(0, 0));
        is(NONE, x.fewest(0, 0));
        is(0, new LedTables().fewest(0, 0));
    }

    @Says("Whether a NODE that STANDS is BACK.")
    static void backOfNodesThatDoNotStand() {
        LedTables x = plan(2, 1);
        is(true, x.isBack(0, 0));
        x.need(0, 0, 2);
        is(false, x.isBack(0, 0));
        x.need(0, 0, 1);
        is(false, x.isBack(4, 0));
        is(false, x.isBack(0, 1));
        is(true, x.isBack(0, 0));
        x.need(0, 0, 0);
        x.order(0, 1, true);
        is(true, x.isBack(node(4, 0, 0), 0));
        is(true, x.isBack(node(0, 4, 0), 0));
        is(false, x.isBack(node(1, 1, 0), 0));
        is(true, new LedTables().isBack(0, 0));
    }

    public static void main(String[] args) throws Exception {
        runAll(PlanEdgesTest.class);
    }
}
