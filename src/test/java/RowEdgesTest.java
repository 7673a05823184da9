/** The document's sentences on odd rows, sums, who asked, and what is told (section 4, promises 33 to 40). */
public final class RowEdgesTest extends Edges {
    private static final int[] NO_LETTERS = {-1, 4, MIN, MAX};

    /** Rows 0 to many - 1 are led; what is written in the new form then is what the row is odd by. */
    private static LedTables led(int many) {
        LedTables x = with("A=a;B=b;C=c;D=d;keep a;keep b;keep c;keep d;");
        for (int key = 0; key < many; key++) {
            x.insert(key);
        }
        to(x, 2);
        x.bite(40);
        return x;
    }

    // ---- odd rows ----

    @Says("ODD is a LED ROW that does not MATCH.")
    static void oddRows() {
        for (int letter = 0; letter < 4; letter++) {
            LedTables x = led(2);
            is("0 0 0", x.row(0, 4) + " " + x.row(1, 4) + " " + x.count(8));
            x.write(0, 1, 1, letter, 1);
            is("0 1 1", x.row(0, 4) + " " + x.row(1, 4) + " " + x.count(8));
            x.write(0, 1, 1, letter, 0);
            is("0 0 0", x.row(0, 4) + " " + x.row(1, 4) + " " + x.count(8));
        }
        // one that is old alone, put by or new alone is never odd
        LedTables y = with("A=a;keep a;law A<9;");
        y.insert(0);
        y.write(0, 0, 1, 0, 5);
        is(0, y.row(0, 4));
        y.write(0, 0, 0, 0, 9);
        to(y, 2);
        y.bite(1);
        is("3 0", y.row(0, 0) + " " + y.row(0, 4));
        y.write(0, 0, 0, 0, 1);
        y.bite(1);
        to(y, 4);
        y.tick(11);
        y.write(0, 0, 1, 0, 5);
        is("1 1", y.row(0, 0) + " " + y.row(0, 4));
        to(y, 5);
        is("2 0", y.row(0, 0) + " " + y.row(0, 4));
        y.write(0, 0, 1, 0, 6);
        is("0 0", y.row(0, 4) + " " + y.count(8));
    }

    @Says("An ODD ROW: its NEW is SEEN anew, BESIDE too (BROKEN or not as it was): whether it was ODD.")
    static void mendsOddRows() {
        LedTables x = with("A=a;a=A+1;keep a;law A<9;");
        x.insert(0);
        is(false, x.mend(0));
        to(x, 2);
        x.bite(1);
        is(false, x.mend(0));
        // not broken as it was, though it is not right now
        x.write(0, 0, 1, 0, 8);
        is("1 0 -1 -1 1 0", rowOf(x, 0, 0, 5));
        is(true, x.mend(0));
        is("1 0 -1 -1 0 9", rowOf(x, 0, 0, 5));
        is("9 9", x.read(0, 0, 0, 0) + " " + x.read(0, 0, 1, 0));
        is(false, x.mend(0));
        // broken as it was, though it is right now
        LedTables y = with("A=a;keep a;law A<9;");
        y.insert(0);
        to(y, 2);
        y.bite(1);
        y.tick(3);
        y.write(5, 0, 1, 0, 9);
        is("1 1 3 5 1 0", rowOf(y, 0, 0, 5));
        is(true, y.mend(0));
        is("1 1 3 5 0 0", rowOf(y, 0, 0, 5));
        is(0, y.read(0, 0, 1, 0));
        is(1, y.count(7));
    }

    @Says("whether it was ODD.")
    static void mendsNoOthers() {
        // led, and not odd: what is beside stays, though the old values have another one
        LedTables x = with("a=A+1;keep a;");
        x.insert(0);
        to(x, 2);
        x.bite(1);
        x.write(0, 0, 1, 0, 0);
        is("1 0 -1 -1 0 0", rowOf(x, 0, 0, 5));
        is(1, x.read(0, 0, 0, 0));
        is(false, x.mend(0));
        is(0, x.row(0, 5));
        // put by, and new alone
        LedTables y = with("A=a;keep a;law A<9;");
        y.insert(0);
        y.write(0, 0, 0, 0, 9);
        to(y, 2);
        y.bite(1);
        is(3, y.row(0, 0));
        is(false, y.mend(0));
        is(3, y.row(0, 0));
        LedTables z = led(1);
        to(z, 5);
        z.write(0, 0, 1, 0, 9);
        is(false, z.mend(0));
        is(9, z.read(0, 0, 1, 0));
        // to mend is not to write: nothing is asked, and either form may be written in this tick
        LedTables w = led(1);
        w.write(0, 0, 1, 0, 9);
        w.tick(1);
        is(true, w.mend(0));
        is(0, w.asked(0, 1, 0, true));
        is(0, w.still(0, 0));
        is(1, w.write(0, 0, 1, 1, 1));
    }

    @Says("NoSuchElementException: the ROW is not there.")
    static void mendRefuses() {
        LedTables x = led(1);
        fails(NO_SUCH, () -> x.mend(1));
        fails(NO_SUCH, () -> x.mend(39));
        fails(NO_INDEX, () -> x.mend(40));
        fails(NO_INDEX, () -> x.mend(-1));
        x.delete(0);
        fails(NO_SUCH, () -> x.mend(0));
    }

    // ---- sums and halves ----

    @Says("SUM of a SPAN of KEYS: for LED ones NEW A and 3 times B, 5 times C, 7 times D, less that of what is SEEN of "
            + "OLD; together.")
    static void sums() {
        int[] weights = {1, 3, 5, 7};
        for (int letter = 0; letter < 4; letter++) {
            LedTables x = led(3);
            is(0, x.sum(0, 39));
            x.write(0, 1, 1, letter, 10);
            is(10 * weights[letter], x.sum(0, 39));
            x.write(0, 0, 1, letter, -4);
            is(6 * weights[letter], x.sum(0, 2));
        }
        // what is seen is taken away: the old values of a row that is odd are not 0 here
        LedTables y = with("A=a;B=b;C=c;D=d;a=A+1;b=B+10;c=C+100;d=D+1000;");
        y.insert(0);
        to(y, 2);
        y.bite(1);
        y.write(0, 0, 1, 0, 5);
        is(-(1 + 30 + 500 + 7000), y.sum(0, 0));
        // rows that are not led count for nothing
        LedTables z = led(3);
        z.insert(5);
        z.write(0, 5, 1, 0, 9);
        z.write(0, 1, 1, 0, 2);
        z.delete(2);
        is(2, z.sum(0, 39));
        z.bite(40);
        z.mend(1);
        to(z, 4);
        z.write(0, 1, 1, 0, 2);
        is(2, z.sum(0, 39));
        to(z, 5);
        z.write(0, 1, 1, 0, 2);
        is(0, z.sum(0, 39));
    }

    @Says("VALUES are whole numbers of 32 bits that wrap")
    static void sumsWrap() {
        LedTables x = with("D=a*1000*1000;keep a;");
        x.insert(0);
        x.insert(1);
        x.write(0, 0, 0, 0, 1000000);
        to(x, 2);
        x.bite(2);
        is(0, x.sum(0, 39));
        is(-727379968, x.read(0, 0, 1, 3));
        x.tick(1);
        x.write(0, 0, 1, 3, 0);
        // 7 times 727,379,968
        is(796692480, x.sum(0, 0));
        x.write(0, 1, 1, 3, 1000000);
        is(803692480, x.sum(0, 1));
    }

    @Says("SUM of a SPAN of KEYS (both with it). IllegalArgumentException: from is above to.")
    static void spans() {
        LedTables x = led(40);
        for (int key = 0; key < 40; key += 13) {
            x.write(0, key, 1, 0, key + 1);
        }
        is(1 + 14 + 27 + 40, x.sum(0, 39));
        is(1, x.sum(0, 0));
        is(40, x.sum(39, 39));
        is(14 + 27, x.sum(13, 26));
        is(0, x.sum(14, 25));
        is(14, x.sum(1, 25));
        is(40, x.sum(27, 39));
        fails(BAD, () -> x.sum(1, 0));
        fails(BAD, () -> x.sum(39, 38));
        fails(BAD, () -> x.sum(39, 0));
        fails(BAD, () -> x.halves(1, 0));
        fails(BAD, () -> x.halves(39, 0));
        fails(NO_INDEX, () -> x.sum(40, 39));
        fails(NO_INDEX, () -> x.sum(0, -1));
        fails(NO_INDEX, () -> x.halves(40, 39));
        fails(NO_INDEX, () -> x.halves(0, -1));
        fails(NO_INDEX, () -> x.sum(MAX, MIN));
        fails(NO_INDEX, () -> x.halves(MAX, MIN));
    }

    @Says("HALVES from one KEY to another: if the SPAN is one KEY, it; else, if the SUM of its lower half (the middle "
            + "one, cut, with it) is not 0, that half, else the other one.")
    static void halves() {
        LedTables x = led(40);
        for (int key = 0; key < 40; key++) {
            x.write(0, key, 1, 0, 1);
            is(key, x.halves(0, 39));
            is(key, x.halves(key, key));
            is(key, x.halves(Math.max(key - 1, 0), Math.min(key + 1, 39)));
            x.write(0, key, 1, 0, 0);
        }
        // the lower half first
        x.write(0, 10, 1, 0, 1);
        x.write(0, 30, 1, 0, 1);
        is(10, x.halves(0, 39));
        is(30, x.halves(11, 39));
        is(30, x.halves(30, 31));
        is(30, x.halves(29, 30));
    }

    @Says("(the middle one, cut, with it)")
    static void middles() {
        // of 2 to 5 the middle one is 3, and it is of the lower half
        LedTables x = led(6);
        x.write(0, 2, 1, 0, 5);
        x.write(0, 3, 1, 0, -5);
        x.write(0, 5, 1, 0, 2);
        is(5, x.halves(2, 5));
        // 4 is not of it
        LedTables y = led(6);
        y.write(0, 3, 1, 0, -3);
        y.write(0, 4, 1, 0, 3);
        y.write(0, 5, 1, 0, 2);
        is(3, y.halves(2, 5));
        // of 2 to 4 it is 3, too
        LedTables z = led(5);
        z.write(0, 2, 1, 0, 5);
        z.write(0, 3, 1, 0, -5);
        z.write(0, 4, 1, 0, 1);
        is(4, z.halves(2, 4));
    }

    @Says("The KEY that HALVES find; NONE: the SUM is 0.")
    static void halvesOfNothing() {
        LedTables x = led(4);
        is(NONE, x.halves(0, 39));
        is(NONE, x.halves(0, 0));
        is(NONE, x.halves(39, 39));
        // two odd rows that even out
        x.write(0, 0, 1, 0, 3);
        x.write(0, 3, 1, 1, -1);
        is(NONE, x.halves(0, 3));
        is(0, x.halves(0, 2));
        is(3, x.halves(1, 3));
        // one that is odd by letters that even out
        LedTables y = led(1);
        y.write(0, 0, 1, 0, 7);
        y.write(0, 0, 1, 3, -1);
        is(1, y.row(0, 4));
        is(NONE, y.halves(0, 0));
    }

    // ---- who asked ----

    @Says("ASKED by a PROGRAM (0 to 7 here): of each form, each LETTER the latest TICK in which it was read, or written.")
    static void askedLatest() {
        for (int program = 0; program < 8; program++) {
            LedTables x = led(1);
            for (int i = 0; i < 16; i++) {
                is(NONE, x.asked(program, i / 8, i / 2 % 4, i % 2 == 1));
                x.tick(1);
                if (i % 2 == 1) {
                    is(1, x.write(program, 0, i / 8, i / 2 % 4, 0));
                } else {
                    x.read(program, 0, i / 8, i / 2 % 4);
                }
            }
            for (int i = 0; i < 16; i++) {
                is(i + 1, x.asked(program, i / 8, i / 2 % 4, i % 2 == 1));
                is(NONE, x.asked((program + 1) % 8, i / 8, i / 2 % 4, i % 2 == 1));
            }
            x.tick(9);
            x.read(program, 0, 0, 0);
            is("25 2", x.asked(program, 0, 0, false) + " " + x.asked(program, 0, 0, true));
        }
        LedTables y = led(1);
        y.read(0, 0, 0, 0);
        is(0, y.asked(0, 0, 0, false));
    }

    /** It is kept of programs and letters, so it is no matter what becomes of the row. */
    @Says("of each form, each LETTER the latest TICK in which it was read, or written.")
    static void askedOutlivesTheRow() {
        LedTables x = led(1);
        x.tick(20);
        x.read(0, 0, 0, 0);
        x.write(3, 0, 0, 0, 1);
        x.read(0, 0, 1, 1);
        is(true, x.delete(0));
        is("20 20 20", x.asked(0, 0, 0, false) + " " + x.asked(3, 0, 0, true) + " " + x.asked(0, 1, 1, false));
        is(9, x.still(0, 20));
        is(0, x.insert(0));
        is(9, x.still(0, 20));
        back(x, 0);
        is("20 20 20", x.asked(0, 0, 0, false) + " " + x.asked(3, 0, 0, true) + " " + x.asked(0, 1, 1, false));
        is(true, x.delete(0));
        to(x, 4);
        is(0, x.go());
        x.tick(11);
        is(1, x.go());
        is(9, x.still(0, 20));
    }

    @Says("When a LETTER of a form was last read (or written) by a PROGRAM; NONE: never.")
    static void askedRefuses() {
        LedTables x = led(1);
        is(NONE, x.asked(0, 0, 0, false));
        is(NONE, x.asked(7, 1, 3, true));
        for (int program : new int[] {-1, 8, MIN, MAX}) {
            fails(BAD, () -> x.asked(program, 0, 0, false));
            fails(BAD, () -> x.asked(program, 0, 0, true));
        }
        for (int form : new int[] {-1, 2, MIN, MAX}) {
            fails(BAD, () -> x.asked(0, form, 0, false));
            fails(BAD, () -> x.asked(0, form, 0, true));
        }
        for (int letter : NO_LETTERS) {
            fails(BAD, () -> x.asked(0, 0, letter, false));
            fails(BAD, () -> x.asked(0, 1, letter, true));
        }
    }

    @Says("Which PROGRAMS (bits) asked an OLD LETTER (read or written) from a TICK on.")
    static void stillAsking() {
        for (int letter = 0; letter < 4; letter++) {
            LedTables x = led(1);
            is(0, x.still(letter, 0));
            is(0, x.still(letter, MIN));
            for (int program = 0; program < 8; program++) {
                x.tick(1);
                if (program % 2 == 0) {
                    x.read(program, 0, 0, letter);
                } else {
                    x.write(program, 0, 0, letter, 0);
                }
                x.read(7 - program, 0, 1, letter);
                x.read(7 - program, 0, 0, (letter + 1) % 4);
                is((2 << program) - 1, x.still(letter, 0));
            }
            for (int from = 1; from <= 9; from++) {
                is(255 >> from - 1 << from - 1, x.still(letter, from));
            }
            is(255, x.still(letter, MIN));
            is(255, x.still(letter, -1));
            is(0, x.still(letter, MAX));
            is(0, x.still(letter, 10001));
        }
        LedTables y = led(1);
        for (int letter : NO_LETTERS) {
            fails(BAD, () -> y.still(letter, 0));
        }
        // at tick 0; read earlier, written later
        y.read(3, 0, 0, 0);
        is("8 0", y.still(0, 0) + " " + y.still(0, 1));
        y.tick(4);
        y.write(3, 0, 0, 0, 0);
        is("8 0", y.still(0, 4) + " " + y.still(0, 5));
        y.tick(4);
        y.read(3, 0, 0, 0);
        is("8 0", y.still(0, 8) + " " + y.still(0, 9));
    }

    @Says("QUIET: what it was.")
    static void quietTells() {
        LedTables x = new LedTables();
        is(10, x.quiet(0));
        is(0, x.quiet(1000));
        for (int ticks : new int[] {-1, 1001, MIN, MAX}) {
            fails(BAD, () -> x.quiet(ticks));
        }
        is(1000, x.quiet(10));
        is(10, x.quiet(10));
    }

    // ---- what is told ----

    @Says({"Of a ROW: 0 what it is (NONE: it is not there), 1 whether it is BROKEN (1, 0), 2 since which TICK, 3 by "
        + "which PROGRAM (NONE), 4 whether it is ODD, 5 to 8 what is BESIDE of a to d (of OLD alone: what would be)",
        "NONE for all of a ROW that is not there.", "IllegalArgumentException: another what."})
    static void rowTells() {
        LedTables x = with("keep a;keep b;keep c;keep d;A=a;law A<9;");
        is("-1 -1 -1 -1 -1 -1 -1 -1 -1", rowOf(x, 0, 0, 8));
        x.insert(0);
        is("0 0 -1 -1 0 0 0 0 0", rowOf(x, 0, 0, 8));
        for (int letter = 0; letter < 4; letter++) {
            x.write(0, 0, 0, letter, 5 + letter);
        }
        is("0 0 -1 -1 0 5 6 7 8", rowOf(x, 0, 0, 8));
        to(x, 2);
        x.bite(1);
        is("1 0 -1 -1 0 5 6 7 8", rowOf(x, 0, 0, 8));
        x.tick(4);
        x.write(7, 0, 1, 0, 9);
        is("1 1 4 7 1 5 6 7 8", rowOf(x, 0, 0, 8));
        for (int what : new int[] {-1, 9, MIN, MAX}) {
            fails(BAD, () -> x.row(0, what));
            fails(BAD, () -> x.row(1, what));
            fails(NO_INDEX, () -> x.row(40, what));
            fails(NO_INDEX, () -> x.row(-1, what));
        }
        x.delete(0);
        is("-1 -1 -1 -1 -1 -1 -1 -1 -1", rowOf(x, 0, 0, 8));
        // put by: what would be beside
        LedTables y = with("keep b;A=a;law A<9;");
        y.insert(0);
        y.write(0, 0, 0, 0, 9);
        y.write(0, 0, 0, 1, 6);
        to(y, 2);
        y.bite(1);
        is("3 0 -1 -1 0 0 6 0 0", rowOf(y, 0, 0, 8));
    }

    @Says({"0 STAGE, 1 TICK, 2 ROWS, 3 OLD alone, 4 LED, 5 NEW alone, 6 PUT BY, 7 BROKEN, 8 ODD, 9 CLAUSES, 10 CHANGES, "
        + "11 PROGRAMS (of section 3), 12 bytes of the TAPE; NONE for others."})
    static void countTells() {
        LedTables x = with("A=a;a=A+1;law A<9;keep b;");
        x.change();
        for (int i = 0; i < 5; i++) {
            x.program();
        }
        for (int key = 0; key < 10; key++) {
            x.insert(key);
        }
        x.write(0, 3, 0, 0, 9);
        to(x, 2);
        x.bite(7);
        x.tick(17);
        x.write(0, 0, 1, 0, 1);
        x.write(0, 1, 1, 0, 9);
        x.write(0, 2, 0, 0, 9);
        x.feed(0, 0, 0, 0, 0);
        x.feed(0, 0, 0, 0, 0);
        is("2 17 10 3 6 0 1 2 2 4 1 5 40 ", countsOf(x));
        for (int what : new int[] {-1, 13, 100, MIN, MAX}) {
            is(NONE, x.count(what));
        }
        LedTables y = led(40);
        is("2 0 40 0 40 0 0 0 0 8 0 0 0 ", countsOf(y));
        to(y, 5);
        is("5 0 40 0 0 40 0 0 0 8 0 0 0 ", countsOf(y));
        for (int key = 0; key < 40; key++) {
            y.delete(key);
        }
        is("5 0 0 0 0 0 0 0 0 8 0 0 0 ", countsOf(y));
    }

    /** Whatever was asked ahead of it, the last call that an object is used for is answered as the first one. */
    @Says("An object is used for at most 512 calls after it has been made")
    static void lastCall() {
        LedTables x = new LedTables();
        for (int call = 1; call <= 511; call++) {
            x.feed(call, call, call, call, call);
        }
        is(400, x.count(12));
    }

    public static void main(String[] args) throws Exception {
        runAll(RowEdgesTest.class);
    }
}
