/** The document's sentences on rows, stages and writes (section 4, promises 23 to 32): edge by edge. */
public final class TableEdgesTest extends Edges {
    private static final int[] NO_KEYS = {-1, 40, MIN, MAX};
    private static final int[] NO_LETTERS = {-1, 4, MIN, MAX};

    /** A row with the old values 3, 4, 5, 6, in a tick of its own. */
    private static void writeRow(LedTables x, int key) {
        x.insert(key);
        for (int letter = 0; letter < 4; letter++) {
            x.write(0, key, 0, letter, 3 + letter);
        }
        x.tick(1);
    }

    /** A table at a stage with rows 0 to many - 1; a row whose a is 9 or more is not right, and a is A. */
    private static LedTables lawful(int stage, int many) {
        LedTables x = with("A=a;a=A;B=b;b=B;law A<9;");
        for (int key = 0; key < many; key++) {
            x.insert(key);
        }
        leadTo(x, stage);
        return x;
    }

    private static void leadTo(LedTables x, int stage) {
        to(x, Math.min(stage, 2));
        if (stage >= 2) {
            x.bite(40);
        }
        to(x, stage);
    }

    /** A table at a stage with this lens and one row, led or new alone, whose old values were 3, 4, 5, 6. */
    private static LedTables ledTo(int stage, String lens) {
        LedTables x = with(lens);
        writeRow(x, 0);
        leadTo(x, Math.min(stage, 4));
        x.tick(11);
        to(x, stage);
        return x;
    }

    // ---- rows and their keys ----

    @Says({"A ROW has a KEY (0 to 39; there or not)", "IndexOutOfBoundsException: no such KEY (so below)."})
    static void keys() {
        LedTables x = new LedTables();
        for (int key : new int[] {0, 39}) {
            is(0, x.insert(key));
            is(0, x.row(key, 0));
            is(0, x.read(0, key, 0, 0));
            is(1, x.write(0, key, 0, 0, 1));
            is(false, x.mend(key));
            is(0, x.sum(key, key));
            is(NONE, x.halves(key, key));
            is(true, x.delete(key));
        }
        for (int key : NO_KEYS) {
            fails(NO_INDEX, () -> x.insert(key));
            fails(NO_INDEX, () -> x.delete(key));
            fails(NO_INDEX, () -> x.read(0, key, 0, 0));
            fails(NO_INDEX, () -> x.write(0, key, 0, 0, 0));
            fails(NO_INDEX, () -> x.row(key, 0));
            fails(NO_INDEX, () -> x.mend(key));
            fails(NO_INDEX, () -> x.sum(key, 39));
            fails(NO_INDEX, () -> x.sum(0, key));
            fails(NO_INDEX, () -> x.halves(key, 39));
            fails(NO_INDEX, () -> x.halves(0, key));
        }
        is(0, x.count(2));
    }

    @Says("A ROW that is there is OLD alone, LED (it has both forms, and BESIDE), NEW alone (with BESIDE), or PUT BY "
            + "(OLD alone, too).")
    static void kindsOfRows() {
        LedTables x = with("A=a;a=A;keep b;law A<9;");
        writeRow(x, 0);
        writeRow(x, 1);
        x.write(0, 1, 0, 0, 9);
        to(x, 2);
        is("0 0", x.row(0, 0) + " " + x.row(1, 0));
        is("4 4", x.row(0, 6) + " " + x.row(1, 6));
        x.bite(2);
        is("1 3", x.row(0, 0) + " " + x.row(1, 0));
        is("4 4", x.row(0, 6) + " " + x.row(1, 6));
        is("3 4 5 6", lettersOf(x, 0, 0));
        is("3 0 0 0", lettersOf(x, 0, 1));
        is("9 4 5 6", lettersOf(x, 1, 0));
        x.delete(1);
        x.tick(11);
        to(x, 5);
        is(2, x.row(0, 0));
        is(4, x.row(0, 6));
        is("3 4 0 0", lettersOf(x, 0, 0));
    }

    // ---- as if ----

    @Says("As if: OLD values of a ROW are its own, or PUT BACK if it is NEW alone")
    static void oldAsIf() {
        String lens = "A=a+b;a=A-b;keep b;B=c;";
        LedTables x = with(lens);
        writeRow(x, 0);
        is("3 4 5 6", lettersOf(x, 0, 0));
        is("3 4 5 6", lettersOf(ledTo(2, lens), 0, 0));
        is("3 4 5 6", lettersOf(ledTo(4, lens), 0, 0));
        is("3 4 0 0", lettersOf(ledTo(5, lens), 0, 0));
        LedTables y = with(lens + "law A<5;");
        writeRow(y, 0);
        leadTo(y, 2);
        is(3, y.row(0, 0));
        is("3 4 5 6", lettersOf(y, 0, 0));
    }

    @Says("NEW values are its own, or SEEN if it is OLD alone (or PUT BY).")
    static void newAsIf() {
        String lens = "A=a+b;a=A-b;keep b;B=c;";
        LedTables x = with(lens);
        writeRow(x, 0);
        is("7 5 0 0", lettersOf(x, 0, 1));
        LedTables y = ledTo(2, lens);
        is("7 5 0 0", lettersOf(y, 0, 1));
        // its own: what is seen of the old values that were put back is another B
        y.write(0, 0, 1, 1, 9);
        is("7 9 0 0", lettersOf(y, 0, 1));
        is("3 4 0 0", lettersOf(y, 0, 0));
        LedTables z = ledTo(5, lens);
        is("7 5 0 0", lettersOf(z, 0, 1));
        LedTables w = with(lens + "law A<5;");
        writeRow(w, 0);
        leadTo(w, 2);
        is(3, w.row(0, 0));
        is("7 5 0 0", lettersOf(w, 0, 1));
    }

    @Says("A write in the OLD form changes one LETTER of the OLD values as if: OLD alone: that is kept")
    static void oldWriteToOldAlone() {
        for (int letter = 0; letter < 4; letter++) {
            LedTables x = with("A=a+b;");
            writeRow(x, 0);
            is(1, x.write(0, 0, 0, letter, 20));
            int[] due = {3, 4, 5, 6};
            due[letter] = 20;
            is(due[0] + " " + due[1] + " " + due[2] + " " + due[3], lettersOf(x, 0, 0));
            is(due[0] + due[1] + " 0 0 0", lettersOf(x, 0, 1));
            is(0, x.row(0, 0));
        }
    }

    @Says("LED: and NEW is SEEN anew, BESIDE too")
    static void oldWriteToLed() {
        LedTables x = ledTo(2, "A=a+b;a=A-b;keep b;B=c;");
        x.write(0, 0, 1, 1, 9);
        is("7 9 0 0", lettersOf(x, 0, 1));
        x.tick(1);
        is(1, x.write(0, 0, 0, 1, 1));
        is("3 1 0 0", lettersOf(x, 0, 0));
        is("4 0 0 0", lettersOf(x, 0, 1));
        is("1 0 -1 -1 0 0 1 0 0", rowOf(x, 0, 0, 8));
    }

    @Says("NEW alone: NEW and BESIDE are SEEN anew.")
    static void oldWriteToNewAlone() {
        LedTables x = ledTo(5, "A=a+b;a=A-b;keep b;B=c;");
        is(1, x.write(0, 0, 0, 0, 10));
        // c was lost, so B is seen anew as 0
        is("14 0 0 0", lettersOf(x, 0, 1));
        is("2 0 -1 -1 0 0 4 0 0", rowOf(x, 0, 0, 8));
        is(1, x.write(0, 0, 0, 1, 1));
        is("11 0 0 0", lettersOf(x, 0, 1));
        is(1, x.row(0, 6));
        is("10 1 0 0", lettersOf(x, 0, 0));
    }

    @Says("A write in the NEW form changes one LETTER of the NEW values as if: OLD alone: OLD becomes what is PUT BACK "
            + "(with what is BESIDE of it now)")
    static void newWriteToOldAlone() {
        LedTables x = with("A=a+b;a=A-b;keep b;B=c;");
        writeRow(x, 0);
        is(1, x.write(0, 0, 1, 0, 20));
        is("16 4 0 0", lettersOf(x, 0, 0));
        is("20 0 0 0", lettersOf(x, 0, 1));
        is("0 0 -1 -1 0 0 4 0 0", rowOf(x, 0, 0, 8));
        x.tick(1);
        x.write(0, 0, 0, 1, 7);
        x.tick(1);
        is(1, x.write(0, 0, 1, 0, 30));
        is("23 7 0 0", lettersOf(x, 0, 0));
    }

    @Says("LED: NEW is kept, OLD PUT BACK, BESIDE stays")
    static void newWriteToLed() {
        LedTables x = ledTo(2, "A=a;a=A+1;keep a;keep b;b=B+b;");
        is(1, x.write(0, 0, 1, 0, 8));
        is("8 0 0 0", lettersOf(x, 0, 1));
        is("9 4 0 0", lettersOf(x, 0, 0));
        is("3 4 0 0", rowOf(x, 0, 5, 8));
        is(1, x.write(0, 0, 1, 1, 2));
        is("8 2 0 0", lettersOf(x, 0, 1));
        is("9 6 0 0", lettersOf(x, 0, 0));
        is("3 4 0 0", rowOf(x, 0, 5, 8));
        is(1, x.row(0, 0));
    }

    @Says("NEW alone: it is kept.")
    static void newWriteToNewAlone() {
        LedTables x = ledTo(5, "A=a;a=A+1;keep a;keep b;b=B+b;");
        for (int letter = 0; letter < 4; letter++) {
            is(1, x.write(0, 0, 1, letter, 20 + letter));
        }
        is("20 21 22 23", lettersOf(x, 0, 1));
        is("21 25 0 0", lettersOf(x, 0, 0));
        is("2 0 -1 -1 0 3 4 0 0", rowOf(x, 0, 0, 8));
    }

    @Says("A PUT BY ROW that is written is OLD alone then.")
    static void putByIsWritten() {
        for (int form = 0; form < 2; form++) {
            for (int v : new int[] {8, 9, 10}) {
                LedTables x = lawful(0, 1);
                x.write(0, 0, 0, 0, 9);
                leadTo(x, 3);
                x.tick(1);
                is(3, x.row(0, 0));
                is(1, x.write(0, 0, form, 0, v));
                is("0 0 -1 -1 0", rowOf(x, 0, 0, 4));
                is(v, x.read(0, 0, 0, 0));
                is(1, x.bite(1));
                is(v < 9 ? 1 : 3, x.row(0, 0));
            }
        }
        // one that is refused, or one that throws, writes nothing
        LedTables y = lawful(0, 1);
        y.write(0, 0, 0, 0, 9);
        leadTo(y, 2);
        is(0, y.write(0, 0, 1, 0, 1));
        fails(BAD, () -> y.write(0, 0, 0, 0, 1000001));
        y.read(0, 0, 1, 0);
        is(3, y.row(0, 0));
    }

    // ---- laws ----

    @Says("A write to a LED or NEW ROW may leave it not RIGHT: it is BROKEN then (since that TICK, by that PROGRAM")
    static void brokenByAWrite() {
        for (int stage = 2; stage <= 5; stage++) {
            for (int form = 0; form < 2; form++) {
                LedTables x = lawful(stage, 2);
                is(1, x.write(form * 7, 0, form, 0, 9));
                is("1 0 " + form * 7, rowOf(x, 0, 1, 3));
                is(1, x.count(7));
                x.tick(1000);
                is(1, x.write(7 - form * 7, 1, form, 0, 9));
                is("1 1000 " + (7 - form * 7), rowOf(x, 1, 1, 3));
                is("1 0 " + form * 7, rowOf(x, 0, 1, 3));
                is(2, x.count(7));
            }
        }
        // no write to a row that is old alone breaks it
        LedTables y = lawful(0, 1);
        y.write(0, 0, 0, 0, 9);
        is("0 0 -1 -1", rowOf(y, 0, 0, 3));
        to(y, 2);
        y.write(0, 0, 0, 0, 10);
        is("0 0 -1 -1", rowOf(y, 0, 0, 3));
    }

    @Says("till a write leaves it RIGHT).")
    static void brokenTillItIsRight() {
        for (int stage = 2; stage <= 5; stage++) {
            for (int form = 0; form < 2; form++) {
                LedTables x = lawful(stage, 1);
                x.write(3, 0, 0, 0, 9);
                x.tick(5);
                is(1, x.row(0, 1));
                x.write(4, 0, form, 1, 1);
                // still not right: broken since it was broken first
                is("1 0 3", rowOf(x, 0, 1, 3));
                x.write(4, 0, form, 0, 8);
                is("0 -1 -1", rowOf(x, 0, 1, 3));
                is(0, x.count(7));
                x.write(4, 0, form, 0, 10);
                is("1 5 4", rowOf(x, 0, 1, 3));
            }
        }
    }

    /** A new write leaves what is beside: a law on a kept letter is not kept or broken by it. */
    @Says("A row is RIGHT, if all laws hold for it: for NEW values and, as OLD LETTERS, what is BESIDE.")
    static void lawsOnWhatIsBeside() {
        LedTables x = with("A=a;a=A;keep a;law a<9;");
        x.insert(0);
        leadTo(x, 2);
        is(1, x.write(0, 0, 1, 0, 100));
        is("1 0 -1 -1 0 0", rowOf(x, 0, 0, 5));
        is(1, x.write(0, 0, 0, 0, 100));
        is("1 1 0 0 0 100", rowOf(x, 0, 0, 5));
        x.tick(1);
        is(1, x.write(0, 0, 1, 0, 0));
        is("1 1 0 0 0 100", rowOf(x, 0, 0, 5));
    }

    // ---- rows that are there newly ----

    @Says({"A ROW that is there newly has OLD values of 0: OLD alone at STAGES 0 to 2; at 3 and 4 LED, or PUT BY if it "
        + "would not be RIGHT; at 5 NEW alone, with what is SEEN of them (and not BROKEN).",
        "A ROW is there newly: what it is (0 OLD alone, 1 LED, 2 NEW alone, 3 PUT BY); -1: it was there."})
    static void rowsThatAreThereNewly() {
        int[] right = {0, 0, 0, 1, 1, 2};
        int[] wrong = {0, 0, 0, 3, 3, 2};
        for (int stage = 0; stage <= 5; stage++) {
            LedTables x = with("A=a+7;keep a;law A<8;");
            to(x, stage);
            is(right[stage], x.insert(5));
            is(-1, x.insert(5));
            is(right[stage], x.row(5, 0));
            is("0 0 0 0", lettersOf(x, 5, 0));
            is("7 0 0 0", lettersOf(x, 5, 1));
            is("0 -1 -1 0 0 0 0 0", rowOf(x, 5, 1, 8));
            LedTables y = with("A=a+8;law A<8;");
            to(y, stage);
            is(wrong[stage], y.insert(5));
            is(-1, y.insert(5));
            is(wrong[stage] + " 0 -1 -1 0 0 0 0 0", rowOf(y, 5, 0, 8));
            is("8 0 0 0", lettersOf(y, 5, 1));
            is(0, y.count(7));
        }
    }

    @Says("A ROW that is there newly has OLD values of 0")
    static void rowsThatAreThereAgain() {
        for (int stage = 0; stage <= 5; stage++) {
            LedTables x = with("A=a;a=A;keep a;law A<9;");
            to(x, stage);
            x.insert(39);
            x.write(0, 39, 0, 0, 9);
            is(true, x.delete(39));
            is(NONE, x.row(39, 0));
            x.insert(39);
            is("0 0 0 0", lettersOf(x, 39, 0));
            is("0 0 0 0", lettersOf(x, 39, 1));
            is("0 -1 -1 0 0 0 0 0", rowOf(x, 39, 1, 8));
        }
    }

    @Says("A ROW is gone: whether it was there.")
    static void deletes() {
        LedTables x = lawful(4, 2);
        is(false, x.delete(2));
        x.write(0, 0, 0, 0, 9);
        x.write(0, 1, 1, 0, 9);
        is(2, x.count(7));
        is(true, x.delete(0));
        is(false, x.delete(0));
        is(1, x.count(7));
        is("-1 -1 -1 -1 -1 -1 -1 -1 -1", rowOf(x, 0, 0, 8));
        is(1, x.count(2));
        is(1, x.count(4));
    }

    // ---- one form in a tick ----

    @Says({"In a TICK a ROW that was written in one form is not written in the other (REFUSED)",
        "It is written: 1; 0: it is REFUSED (nothing is ASKED then)."})
    static void refusedInATick() {
        for (int stage = 0; stage <= 5; stage++) {
            LedTables x = lawful(stage, 2);
            is(1, x.write(0, 0, 0, 0, 3));
            is(1, x.write(1, 0, 0, 1, 4));
            is(0, x.write(2, 0, 1, 2, 5));
            is(0, x.write(0, 0, 1, 0, 5));
            is(NONE, x.asked(2, 1, 2, true));
            is("3 4 0 0", lettersOf(x, 0, 1));
            // another row is no matter, nor is what is read
            is(1, x.write(2, 1, 1, 0, 5));
            is(0, x.tick(0));
            is(0, x.write(2, 0, 1, 0, 5));
            x.tick(1);
            is(1, x.write(2, 0, 1, 0, 5));
            is(1, x.asked(2, 1, 0, true));
            is(5, x.read(0, 0, 0, 0));
            // what was written in an earlier tick is no matter
            is(1, x.write(2, 0, 1, 0, 6));
            x.tick(1);
            x.first(1);
            is(1, x.write(2, 0, 0, 0, 7));
            is(1, x.write(2, 0, 0, 0, 8));
            x.tick(1);
            x.first(0);
            is(1, x.write(2, 1, 0, 0, 7));
            is(1, x.write(2, 0, 1, 0, 8));
        }
    }

    @Says("but the form that is FIRST (told) may still: it is written on top.")
    static void firstFormOnTop() {
        LedTables x = lawful(2, 1);
        is(1, x.write(0, 0, 1, 0, 3));
        is(1, x.write(0, 0, 0, 0, 4));
        is(4, x.read(0, 0, 1, 0));
        is(0, x.write(0, 0, 1, 0, 5));
        is(1, x.write(0, 0, 0, 0, 6));
        // what is first is looked at when it is written
        x.first(1);
        is(1, x.write(0, 0, 1, 0, 7));
        is(7, x.read(0, 0, 0, 0));
        is(0, x.write(0, 0, 0, 0, 8));
        x.tick(1);
        is(1, x.write(0, 0, 0, 0, 3));
        is(1, x.write(0, 0, 1, 1, 4));
        is("3 4 0 0", lettersOf(x, 0, 0));
        is(0, x.write(0, 0, 0, 0, 8));
        x.first(0);
        is(1, x.write(0, 0, 0, 0, 8));
    }

    @Says("In a TICK a ROW that was written in one form is not written in the other (REFUSED), but the form that is FIRST")
    static void writtenInBothForms() {
        for (int first = 0; first <= 1; first++) {
            int other = 1 - first;
            LedTables x = lawful(2, 1);
            x.first(first);
            is(1, x.write(0, 0, other, 0, 3));
            is(1, x.write(0, 0, first, 0, 4));
            // it was written in the other form, too, though not as the latest
            x.first(other);
            is(0, x.write(0, 0, first, 0, 5));
            is(4, x.read(0, 0, 0, 0));
            is(1, x.write(0, 0, other, 0, 6));
            x.first(first);
            is(0, x.write(0, 0, other, 0, 7));
            is(6, x.read(0, 0, 0, 0));
            x.tick(1);
            is(1, x.write(0, 0, other, 0, 7));
        }
    }

    @Says("Which form is FIRST (0 at first): what it was.")
    static void firstTells() {
        LedTables x = new LedTables();
        is(0, x.first(0));
        is(0, x.first(1));
        is(1, x.first(1));
        for (int form : new int[] {-1, 2, MIN, MAX}) {
            fails(BAD, () -> x.first(form));
        }
        is(1, x.first(0));
        is(0, x.first(0));
    }

    // ---- bites and falls ----

    @Says("BITE of n ROWS (at STAGES 2 to 4): the n least KEYS of ROWS that are OLD alone (not PUT BY) become LED: NEW "
            + "SEEN, BESIDE kept; one that would not be RIGHT is PUT BY in place of that.")
    static void bites() {
        LedTables x = with("A=a;keep b;law A<9;");
        for (int key : new int[] {39, 0, 20, 7, 8}) {
            writeRow(x, key);
        }
        x.write(0, 7, 0, 0, 9);
        to(x, 2);
        is(2, x.bite(2));
        is("1 3 0 0 0", x.row(0, 0) + " " + x.row(7, 0) + " " + x.row(8, 0) + " " + x.row(20, 0) + " " + x.row(39, 0));
        is(4, x.row(0, 6));
        is(1, x.bite(1));
        is("1 3 1 0 0", x.row(0, 0) + " " + x.row(7, 0) + " " + x.row(8, 0) + " " + x.row(20, 0) + " " + x.row(39, 0));
        is(2, x.bite(40));
        is(0, x.bite(40));
        is(3, x.row(7, 0));
        is(4, x.count(4));
        is("3 0 0 0", lettersOf(x, 39, 1));
        is(0, x.row(7, 1));
        LedTables y = new LedTables();
        for (int key = 0; key < 40; key++) {
            y.insert(key);
        }
        to(y, 2);
        is(39, y.bite(39));
        is(0, y.row(39, 0));
        is(1, y.bite(40));
        is(40, y.count(4));
    }

    @Says({"A BITE: how many ROWS were taken (LED or PUT BY); -1: a FALL.",
        "IllegalArgumentException: n is not 1 to 40; IllegalStateException: the STAGE."})
    static void biteRefuses() {
        for (int stage = 0; stage <= 5; stage++) {
            LedTables x = new LedTables();
            to(x, stage);
            for (int n : new int[] {0, -1, 41, MIN, MAX}) {
                fails(BAD, () -> x.bite(n));
            }
            x.fall(1);
            if (stage < 2 || stage > 4) {
                fails(STATE, () -> x.bite(1));
                fails(STATE, () -> x.bite(40));
                is(1, x.fall(0));
            } else {
                is(0, x.bite(1));
                is(0, x.bite(40));
                is(0, x.fall(0));
            }
        }
        LedTables y = lawful(0, 3);
        y.write(0, 1, 0, 0, 9);
        to(y, 2);
        is(3, y.bite(40));
        is("2 1", y.count(4) + " " + y.count(6));
        // at 3 and 4, too
        for (int stage = 3; stage <= 4; stage++) {
            LedTables z = with("A=a;law A>0;");
            to(z, stage);
            is(3, z.insert(0));
            z.write(0, 0, 0, 0, 1);
            is(0, z.row(0, 0));
            is(1, z.bite(1));
            is(1, z.row(0, 0));
            LedTables w = with("A=9;law A<9;");
            to(w, stage);
            is(3, w.insert(0));
            w.write(0, 0, 0, 1, 1);
            is(1, w.bite(1));
            is(3, w.row(0, 0));
            is(0, w.bite(1));
        }
    }

    @Says("A FALL that is told for the k-th ROW of the next BITE: nothing of that BITE is done.")
    static void falls() {
        for (int k = 1; k <= 4; k++) {
            LedTables x = lawful(0, 3);
            x.write(0, 1, 0, 0, 9);
            to(x, 2);
            x.fall(k);
            is(k <= 3 ? -1 : 3, x.bite(40));
            is(k <= 3 ? "3 0 0" : "0 2 1", x.count(3) + " " + x.count(4) + " " + x.count(6));
            is(k <= 3 ? 3 : 0, x.bite(40));
        }
        LedTables y = new LedTables();
        for (int key = 0; key < 40; key++) {
            y.insert(key);
        }
        to(y, 2);
        y.fall(40);
        is(-1, y.bite(40));
        is(40, y.count(3));
        y.fall(40);
        is(39, y.bite(39));
        is(1, y.bite(40));
    }

    @Says({"A FALL is told for the k-th ROW (1 to 40; 0: none): what was told.",
        "(It is gone behind the next BITE, also one of fewer ROWS.)"})
    static void fallTells() {
        LedTables x = lawful(0, 5);
        is(0, x.fall(40));
        is(40, x.fall(1));
        is(1, x.fall(0));
        is(0, x.fall(2));
        for (int k : new int[] {-1, 41, MIN, MAX}) {
            fails(BAD, () -> x.fall(k));
        }
        fails(STATE, () -> x.bite(2));
        to(x, 2);
        fails(BAD, () -> x.bite(41));
        is(2, x.fall(2));
        // fewer rows than it is told for: by n, by those that are there, by none
        is(1, x.bite(1));
        is(0, x.fall(5));
        is(4, x.bite(40));
        is(0, x.fall(1));
        is(0, x.bite(1));
        is(0, x.fall(1));
        x.insert(9);
        is(-1, x.bite(1));
        is(0, x.fall(1));
        is(1, x.fall(0));
        is(1, x.bite(1));
    }

    // ---- stages ----

    @Says({"DOING: the table is at a STAGE, too (0 at first).", "The STAGE goes on: 1; 0: it can't; -1: it is 5."})
    static void stagesGoOn() {
        LedTables x = new LedTables();
        for (int stage = 0; stage < 5; stage++) {
            is(stage, x.count(0));
            is(1, x.go());
        }
        is(5, x.count(0));
        is(-1, x.go());
        is(-1, x.go());
        is(5, x.count(0));
        LedTables y = lawful(0, 1);
        is(1, y.go());
        is(1, y.go());
        is(0, y.go());
        is(2, y.count(0));
    }

    @Says("STAGE goes on: from 2 to 3 if no ROW is OLD alone")
    static void fromTwoToThree() {
        LedTables x = lawful(0, 2);
        x.write(0, 1, 0, 0, 9);
        to(x, 2);
        is(0, x.go());
        x.bite(1);
        is(0, x.go());
        x.bite(1);
        // one that is put by, broken or odd is no matter here
        is(3, x.row(1, 0));
        x.write(0, 0, 0, 0, 9);
        is(1, x.row(0, 1));
        is(1, x.go());
        LedTables y = with("A=a;keep a;");
        y.insert(0);
        leadTo(y, 2);
        y.write(0, 0, 1, 0, 9);
        is(1, y.row(0, 4));
        is(1, y.go());
        LedTables z = lawful(0, 1);
        z.write(0, 0, 0, 0, 9);
        leadTo(z, 2);
        z.write(0, 0, 0, 0, 9);
        is(0, z.go());
        z.delete(0);
        is(1, z.go());
    }

    @Says("from 3 to 4 if no ROW is OLD alone, PUT BY or BROKEN, and all LED ones MATCH (NEW is what is SEEN of OLD)")
    static void fromThreeToFour() {
        is(1, lawful(3, 3).go());
        LedTables x = lawful(0, 3);
        x.write(0, 1, 0, 0, 9);
        leadTo(x, 3);
        is("2 1", x.count(4) + " " + x.count(6));
        is(0, x.go());
        x.write(0, 1, 0, 0, 8);
        is("2 1", x.count(4) + " " + x.count(3));
        is(0, x.go());
        x.bite(1);
        x.write(0, 2, 0, 0, 9);
        is("3 1", x.count(4) + " " + x.count(7));
        is(0, x.go());
        is(3, x.count(0));
        x.write(0, 2, 0, 0, 8);
        is(1, x.go());
        for (int letter = 0; letter < 4; letter++) {
            LedTables y = with("A=a;B=b;C=c;D=d;keep a;keep b;keep c;keep d;");
            y.insert(0);
            y.insert(39);
            leadTo(y, 3);
            y.write(0, 39, 1, letter, 1);
            is(1, y.count(8));
            is(0, y.go());
            y.mend(39);
            is(1, y.go());
        }
    }

    @Says("from 4 to 5 if no ROW is OLD alone or PUT BY")
    static void fromFourToFive() {
        LedTables x = lawful(4, 2);
        is(1, x.go());
        LedTables y = with("A=9;law A<9;");
        to(y, 4);
        y.insert(0);
        is(3, y.row(0, 0));
        is(0, y.go());
        y.write(0, 0, 1, 0, 1);
        is(0, y.row(0, 0));
        is(0, y.go());
        is(1, y.bite(1));
        is(0, y.go());
        y.delete(0);
        is(1, y.go());
        // one that is broken or odd is no matter here
        LedTables z = with("A=a;keep a;law A<9;");
        z.insert(0);
        z.insert(1);
        leadTo(z, 4);
        z.write(0, 0, 1, 0, 9);
        z.write(0, 1, 1, 0, 8);
        is("1 2", z.count(7) + " " + z.count(8));
        is(1, z.go());
    }

    @Says("and no OLD LETTER was ASKED in the TICK that is QUIET ahead of now (0 to 1,000; 10 at first) or later")
    static void quietAheadOfNow() {
        for (int quiet : new int[] {0, 1, 10, 1000}) {
            for (int i = 0; i < 16; i++) {
                LedTables x = lawful(4, 1);
                if (quiet != 10) {
                    x.quiet(quiet);
                }
                x.tick(5);
                int program = i / 2;
                if (i % 2 == 0) {
                    x.read(program, 0, 0, i / 4);
                } else {
                    x.write(program, 0, 0, i / 4, 1);
                }
                is(0, x.go());
                x.tick(quiet);
                is(0, x.go());
                x.tick(1);
                is(1, x.go());
            }
        }
    }

    @Says("no OLD LETTER was ASKED")
    static void newLettersAreNoMatter() {
        LedTables x = lawful(4, 1);
        for (int letter = 0; letter < 4; letter++) {
            x.read(0, 0, 1, letter);
            x.write(0, 0, 1, letter, 1);
        }
        is(1, x.go());
        // what was asked stays so when its row is gone, and nothing is asked by what is refused or throws
        LedTables y = lawful(4, 1);
        y.read(7, 0, 0, 3);
        y.delete(0);
        is(0, y.go());
        LedTables z = lawful(4, 1);
        z.first(1);
        z.write(0, 0, 1, 0, 1);
        is(0, z.write(0, 0, 0, 0, 1));
        fails(NO_SUCH, () -> z.read(0, 1, 0, 0));
        fails(NO_SUCH, () -> z.write(0, 1, 0, 0, 0));
        fails(BAD, () -> z.write(0, 0, 0, 0, 1000001));
        is(1, z.go());
        // at tick 0, with quiet ahead of it: what was never asked is no matter
        LedTables w = lawful(4, 1);
        is(10, w.quiet(1));
        is(1, w.go());
    }

    @Says("all ROWS are NEW alone then (BROKEN ones stay so).")
    static void allAreNewAloneThen() {
        LedTables x = lawful(4, 3);
        x.tick(2);
        x.write(6, 1, 1, 0, 9);
        x.tick(20);
        is(1, x.go());
        is("0 0 3 0", x.count(3) + " " + x.count(4) + " " + x.count(5) + " " + x.count(6));
        is("2 0 -1 -1", rowOf(x, 0, 0, 3));
        is("2 1 2 6", rowOf(x, 1, 0, 3));
        is(1, x.count(7));
        // an odd row keeps its new values, and is odd no more
        LedTables y = with("A=a;keep a;");
        y.insert(0);
        leadTo(y, 4);
        y.write(0, 0, 1, 0, 8);
        is(1, y.count(8));
        is(1, y.go());
        is("0 0", y.count(8) + " " + y.row(0, 4));
        is(8, y.read(0, 0, 1, 0));
        is(0, y.read(0, 0, 0, 0));
    }

    @Says({"It goes back by one from 1 to 4", "It goes back: 1; 0: it can't."})
    static void stagesGoBack() {
        LedTables x = new LedTables();
        is(0, x.back());
        is(0, x.count(0));
        to(x, 4);
        for (int stage = 3; stage >= 0; stage--) {
            is(1, x.back());
            is(stage, x.count(0));
        }
        is(0, x.back());
        to(x, 5);
        is(0, x.back());
        is(5, x.count(0));
        // rows that are led, put by or broken are so behind a step back from 4 and from 3
        LedTables y = with("A=a;a=A;keep a;law A<9;");
        y.insert(0);
        leadTo(y, 4);
        y.write(2, 0, 0, 0, 9);
        is(1, y.back());
        is("1 1 0 2 0 9 0 0 0", rowOf(y, 0, 0, 8));
        is(1, y.back());
        is("1 1 0 2 0 9 0 0 0", rowOf(y, 0, 0, 8));
        LedTables z = with("A=9;law A<9;");
        to(z, 4);
        z.insert(0);
        is(1, z.back());
        is(3, z.row(0, 0));
        is(1, z.back());
        is(3, z.row(0, 0));
        is(1, z.back());
        is(0, z.row(0, 0));
        is(1, z.back());
        is(0, z.row(0, 0));
    }

    @Says("from 2 to 1: all ROWS are OLD alone then (what is NEW and BESIDE is gone; none is BROKEN).")
    static void fromTwoToOne() {
        LedTables x = with("A=a;a=A+1;keep a;law A<9;");
        for (int key = 0; key < 4; key++) {
            x.insert(key);
        }
        x.write(0, 1, 0, 0, 9);
        to(x, 2);
        x.bite(3);
        x.tick(1);
        x.write(5, 0, 1, 0, 10);
        x.write(5, 2, 1, 0, 5);
        is("1 1 1 5 1 0", rowOf(x, 0, 0, 5));
        is("1 0 -1 -1 1 0", rowOf(x, 2, 0, 5));
        is("1 2 0 1 1 2", x.count(3) + " " + x.count(4) + " " + x.count(5) + " " + x.count(6) + " " + x.count(7) + " "
                + x.count(8));
        is(1, x.back());
        is("4 0 0 0 0 0", x.count(3) + " " + x.count(4) + " " + x.count(5) + " " + x.count(6) + " " + x.count(7) + " "
                + x.count(8));
        // beside and new are those of the old values that are kept
        is("0 0 -1 -1 0 11", rowOf(x, 0, 0, 5));
        is(11, x.read(0, 0, 1, 0));
        is("0 0 -1 -1 0 6", rowOf(x, 2, 0, 5));
        is(6, x.read(0, 2, 1, 0));
        to(x, 2);
        is(4, x.bite(40));
        is("3 0 -1 -1 0 11", rowOf(x, 0, 0, 5));
        is("1 0 -1 -1 0 6", rowOf(x, 2, 0, 5));
        // from 1 to 0 nothing else is changed
        LedTables y = new LedTables();
        writeRow(y, 0);
        to(y, 1);
        is(1, y.back());
        is("3 4 5 6", lettersOf(y, 0, 0));
    }

    // ---- reads and writes that are refused ----

    @Says({"A LETTER of a form (0 OLD, 1 NEW) is read by a PROGRAM (0 to 7).",
        "IllegalArgumentException: the PROGRAM, form, LETTER; NoSuchElementException: the ROW is not there (so below, in "
        + "this order)."})
    static void readRefuses() {
        LedTables x = new LedTables();
        writeRow(x, 0);
        is(3, x.read(0, 0, 0, 0));
        is(6, x.read(7, 0, 1, 3));
        for (int program : new int[] {-1, 8, MIN, MAX}) {
            fails(BAD, () -> x.read(program, 0, 0, 0));
            fails(BAD, () -> x.read(program, 1, 0, 0));
            fails(NO_INDEX, () -> x.read(program, 40, 0, 0));
        }
        for (int form : new int[] {-1, 2, MIN, MAX}) {
            fails(BAD, () -> x.read(0, 0, form, 0));
            fails(BAD, () -> x.read(0, 1, form, 0));
            fails(NO_INDEX, () -> x.read(0, -1, form, 0));
        }
        for (int letter : NO_LETTERS) {
            fails(BAD, () -> x.read(0, 0, 0, letter));
            fails(BAD, () -> x.read(0, 1, 1, letter));
            fails(NO_INDEX, () -> x.read(0, 40, 1, letter));
        }
        fails(NO_SUCH, () -> x.read(5, 1, 0, 0));
        fails(NO_SUCH, () -> x.read(5, 39, 1, 3));
        is(NONE, x.asked(5, 0, 0, false));
    }

    @Says("IllegalArgumentException: also v is not -1,000,000 to 1,000,000.")
    static void writeRefuses() {
        LedTables x = new LedTables();
        writeRow(x, 0);
        is(1, x.write(0, 0, 0, 0, 1000000));
        is(1000000, x.read(0, 0, 1, 0));
        is(1, x.write(7, 0, 0, 3, -1000000));
        is(-1000000, x.read(0, 0, 1, 3));
        x.tick(1);
        is(1, x.write(0, 0, 1, 0, -1000000));
        is(1, x.write(7, 0, 1, 3, 1000000));
        is("-1000000 4 5 1000000", lettersOf(x, 0, 0));
        for (int v : new int[] {-1000001, 1000001, MIN, MAX}) {
            fails(BAD, () -> x.write(5, 0, 0, 0, v));
            fails(BAD, () -> x.write(5, 1, 1, 0, v));
            fails(NO_INDEX, () -> x.write(5, 40, 0, 0, v));
        }
        for (int program : new int[] {-1, 8, MIN, MAX}) {
            fails(BAD, () -> x.write(program, 0, 0, 0, 0));
            fails(BAD, () -> x.write(program, 1, 0, 0, 0));
            fails(NO_INDEX, () -> x.write(program, -1, 0, 0, 0));
        }
        for (int form : new int[] {-1, 2, MIN, MAX}) {
            fails(BAD, () -> x.write(5, 0, form, 0, 0));
            fails(BAD, () -> x.write(5, 1, form, 0, 0));
        }
        for (int letter : NO_LETTERS) {
            fails(BAD, () -> x.write(5, 0, 0, letter, 0));
            fails(BAD, () -> x.write(5, 1, 1, letter, 0));
        }
        fails(NO_SUCH, () -> x.write(5, 1, 0, 0, 0));
        is("-1000000 4 5 1000000", lettersOf(x, 0, 0));
        is(NONE, x.asked(5, 0, 0, true));
        is(NONE, x.asked(5, 1, 0, true));
    }

    // ---- ticks ----

    @Says({"TICKS: 0 at first, 10,000 at most.",
        "So many TICKS go by: the TICK. IllegalArgumentException: they are not 0 to 1,000; IllegalStateException: it "
        + "would be above 10,000."})
    static void ticks() {
        LedTables x = new LedTables();
        is(0, x.count(1));
        is(0, x.tick(0));
        is(1, x.tick(1));
        for (int many : new int[] {-1, 1001, MIN, MAX}) {
            fails(BAD, () -> x.tick(many));
        }
        for (int i = 1; i <= 9; i++) {
            is(1 + 1000 * i, x.tick(1000));
        }
        fails(STATE, () -> x.tick(1000));
        is(9001, x.count(1));
        is(10000, x.tick(999));
        is(10000, x.tick(0));
        fails(STATE, () -> x.tick(1));
        fails(STATE, () -> x.tick(1000));
        fails(BAD, () -> x.tick(1001));
        fails(BAD, () -> x.tick(-1));
        is(10000, x.count(1));
        // what is done at the last tick is told with it
        x.insert(0);
        x.read(0, 0, 0, 0);
        is(10000, x.asked(0, 0, 0, false));
        is(1, x.still(0, 10000));
    }

    public static void main(String[] args) throws Exception {
        runAll(TableEdgesTest.class);
    }
}
