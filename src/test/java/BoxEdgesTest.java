/** The document's sentences on the box (section 2, promises 7 to 11): edge by edge. */
public final class BoxEdgesTest extends Edges {
    private static void boxAll(LedTables x, int least, int greatest) {
        for (int letter = 0; letter < 4; letter++) {
            x.box(letter, least, greatest);
        }
    }

    private static void refused(LedTables x, int letter, int least, int greatest) {
        fails(BAD, () -> {
            x.box(letter, least, greatest);
            return "taken";
        });
    }

    /** None of the rows is right under this lens, so that wrong() tells how many the box has. */
    private static LedTables countable() {
        return with("law 2<1;");
    }

    // ---- section 2 ----

    @Says("for each OLD LETTER a least and a greatest value (-999 to 999; 8 of them at most; 0 to 0 at first).")
    static void bounds() {
        LedTables x = countable();
        is(1, x.wrong());
        int due = 1;
        for (int letter = 0; letter < 4; letter++) {
            x.box(letter, letter % 2 == 0 ? -999 : 992, letter % 2 == 0 ? -992 : 999);
            due *= 8;
            is(due, x.wrong());
        }
        is(1, tell(x, "A=a;"));
        is(-999, x.agree(0, 0));
        is(992, x.agree(0, 1));
        is(-999, x.agree(0, 2));
        is(992, x.agree(0, 3));
    }

    @Says("0 to 0 at first")
    static void zeroAtFirst() {
        LedTables x = with("a=1;b=1;c=1;d=1;");
        is(1, x.unlike(0));
        for (int letter = 0; letter < 4; letter++) {
            is(0, x.agree(0, letter));
        }
    }

    @Says("AGREED is the LENS, if for each row of the BOX what is SEEN, PUT BACK with what is BESIDE, is that row")
    static void agreedIfEachRowComesBack() {
        for (int letter = 0; letter < 4; letter++) {
            char old = (char) ('a' + letter);
            LedTables x = with("A=a;B=b;C=c;D=d;a=A;b=B;c=C;d=D;" + old + "=" + (char) ('A' + letter) + "/7*7;");
            is(VOID, x.agree(0, letter));
            x.box(letter, 0, 7);
            is(6, x.unlike(0));
            is(1, x.agree(0, letter));
            x.box(letter, 7, 7);
            is(0, x.unlike(0));
            is(VOID, x.agree(0, letter));
        }
        LedTables y = with("keep a;keep b;keep c;keep d;");
        boxAll(y, -4, 3);
        is(VOID, y.agree(0, 0));
        is(0, y.unlike(0));
    }

    @Says("the first that is not: by a, then b, c, d, rising.")
    static void firstByAThenBThenCThenD() {
        // not alike are the rows in which one letter is not the one put back; of several the first by a, b, c, d
        LedTables x = with("keep a;keep b;keep c;keep d;a=if(a+b+c+d<2,a,9);");
        boxAll(x, 0, 1);
        is("0 0 1 1", first(x));
        is(5, tell(x, "keep a;keep b;keep c;keep d;a=if(d=1 or a=1,9,a);"));
        is("0 0 0 1", first(x));
        is(5, tell(x, "keep a;keep b;keep c;keep d;a=if(b=1 or a=1,9,a);"));
        is("0 1 0 0", first(x));
        is(5, tell(x, "keep a;keep b;keep c;keep d;a=if(c=1 or b=1,9,a);"));
        is("0 0 1 0", first(x));
        is(5, tell(x, "keep a;keep b;keep c;keep d;a=if(a=1,9,a);"));
        is("1 0 0 0", first(x));
        boxAll(x, -7, 0);
        is(5, tell(x, "keep a;keep b;keep c;keep d;a=if(a+b+c+d>0-3,9,a);"));
        is("-2 0 0 0", first(x));
        is(5, tell(x, "keep a;keep b;keep c;keep d;a=9;"));
        is("-7 -7 -7 -7", first(x));
    }

    private static String first(LedTables x) {
        return x.agree(0, 0) + " " + x.agree(0, 1) + " " + x.agree(0, 2) + " " + x.agree(0, 3);
    }

    @Says("COMING: likewise, but what is SEEN of what is PUT BACK must be what was SEEN.")
    static void coming() {
        LedTables x = with("A=a/2;a=A*2;");
        x.box(0, 0, 7);
        is(1, x.agree(0, 0));
        is(4, x.unlike(0));
        is(VOID, x.agree(1, 0));
        is(0, x.unlike(1));
        is(2, tell(x, "A=a/2;a=A*2+if(A>1,2,0);"));
        is(4, x.agree(1, 0));
        is(4, x.unlike(1));
        // each of the new letters counts
        for (int letter = 0; letter < 4; letter++) {
            char fresh = (char) ('A' + letter);
            is(2, tell(x, fresh + "=a;keep b;"));
            is(1, x.agree(1, 0));
            is(7, x.unlike(1));
        }
    }

    @Says("LOST is an OLD LETTER without keep, if two rows of the BOX that are unlike in it are SEEN alike, and have "
            + "alike BESIDE.")
    static void lostLetters() {
        LedTables x = new LedTables();
        boxAll(x, 0, 1);
        is(0, x.lost());
        is(0, tell(x, ""));
        is(15, x.lost());
        for (int letter = 0; letter < 4; letter++) {
            char old = (char) ('a' + letter);
            is(1, tell(x, "keep " + old + ";"));
            is(15 - (1 << letter), x.lost());
            is(1, tell(x, "A=" + old + ";"));
            is(15 - (1 << letter), x.lost());
            x.box(letter, 1, 1);
            is(0, tell(x, ""));
            is(15 - (1 << letter), x.lost());
            x.box(letter, 0, 1);
        }
        // seen alike are (0, 1) and (1, 0), but not if one of them is kept
        is(3, tell(x, "A=a+b;B=c;C=d;"));
        is(3, x.lost());
        is(4, tell(x, "A=a+b;B=c;C=d;keep a;"));
        is(0, x.lost());
        is(4, tell(x, "A=a+b;B=c;C=d;keep c;"));
        is(3, x.lost());
        // all 4,096 rows are kept apart by what is beside, and many of them are seen alike
        boxAll(x, 0, 7);
        is(4, tell(x, "A=a+b+c+d;keep b;keep c;keep d;"));
        is(0, x.lost());
        is(4, tell(x, "A=a+d;B=b;C=c;keep d;"));
        is(0, x.lost());
        is(3, tell(x, "A=a+b+c+d;keep b;keep c;"));
        is(9, x.lost());
        boxAll(x, 0, 1);
        // "=" does not save a letter
        is(4, tell(x, "B=b;C=c;D=d;a=B;"));
        is(1, x.lost());
    }

    // ---- promises 7 to 11 ----

    @Says({"The BOX of an OLD LETTER.",
        "IllegalArgumentException: also the values (the greatest not below the least, 7 above it at most)."})
    static void boxRefuses() {
        LedTables x = countable();
        x.box(0, 3, 3);
        is(1, x.wrong());
        x.box(0, 3, 10);
        is(8, x.wrong());
        refused(x, 0, 3, 11);
        refused(x, 0, 3, 2);
        refused(x, -1, 0, 0);
        refused(x, 4, 0, 0);
        refused(x, MIN, 0, 0);
        refused(x, MAX, 0, 0);
        refused(x, 0, -1000, -999);
        refused(x, 0, -1000, -1000);
        refused(x, 0, 999, 1000);
        refused(x, 0, 1000, 1000);
        refused(x, 0, MIN, MAX);
        refused(x, 0, MAX, MIN);
        refused(x, 0, MIN, MIN);
        refused(x, 0, MAX, MAX);
        refused(x, 0, -999, 999);
        is(8, x.wrong());
        is(1, tell(x, "a=0;"));
        is(3, x.agree(0, 0));
        x.box(0, -999, -999);
        is(-999, x.agree(0, 0));
        x.box(0, 999, 999);
        is(999, x.agree(0, 0));
    }

    @Says({"AGREED (kind 0), COMING (1): the OLD LETTER (0 to 3) of the first row that is not; VOID: all are.",
        "IllegalArgumentException: also another kind (so below)."})
    static void agreeRefuses() {
        LedTables x = with("A=a;b=B+3;");
        x.box(0, 4, 5);
        is(4, x.agree(0, 0));
        is(4, x.agree(1, 0));
        is(0, x.agree(0, 3));
        for (int kind : new int[] {-1, 2, MIN, MAX}) {
            fails(BAD, () -> x.agree(kind, 0));
            fails(BAD, () -> x.unlike(kind));
        }
        for (int letter : new int[] {-1, 4, MIN, MAX}) {
            fails(BAD, () -> x.agree(0, letter));
            fails(BAD, () -> x.agree(1, letter));
        }
        LedTables y = new LedTables();
        for (int letter = 0; letter < 4; letter++) {
            is(VOID, y.agree(0, letter));
            is(VOID, y.agree(1, letter));
        }
    }

    @Says("How many rows of the BOX are not.")
    static void unlikeRows() {
        LedTables x = with("a=1;b=1;c=1;d=1;A=a;");
        boxAll(x, 0, 7);
        is(4095, x.unlike(0));
        is(3584, x.unlike(1));
        boxAll(x, 2, 2);
        is(1, x.unlike(0));
        is(1, x.unlike(1));
        boxAll(x, 1, 1);
        is(0, x.unlike(0));
        is(0, x.unlike(1));
    }

    @Says("LOST LETTERS, as bits.")
    static void lostBits() {
        LedTables x = with("D=a;");
        is(0, x.lost());
        for (int letter = 3; letter >= 0; letter--) {
            x.box(letter, -1, 0);
            is((15 << letter) & 14, x.lost());
        }
        boxAll(x, 992, 999);
        is(14, x.lost());
        // one pair of 4,096 rows alone
        is(1, tell(x, "A=if(a*512+b*64+c*8+d=0,1,a*512+b*64+c*8+d);"));
        boxAll(x, 0, 7);
        is(8, x.lost());
        is(1, tell(x, "A=if(a*512+b*64+c*8+d=4095,0,a*512+b*64+c*8+d);"));
        is(15, x.lost());
        for (int other = 0; other < 4096; other += 585) {
            is(1, tell(x, "A=if(a*512+b*64+c*8+d=3584," + other + ",a*512+b*64+c*8+d);"));
            // 3584 is the row 7, 0, 0, 0; the others are 0, 0, 0, 0; 1, 1, 1, 1 and so on
            is(other == 0 ? 1 : other == 4095 ? 14 : 15, x.lost());
        }
        is(1, tell(x, "A=a*512+b*64+c*8+d;"));
        is(0, x.lost());
    }

    @Says("How many rows of the BOX would not be RIGHT.")
    static void wrongRows() {
        LedTables x = new LedTables();
        boxAll(x, -4, 3);
        is(0, x.wrong());
        is(1, tell(x, "law 2<1;"));
        is(4096, x.wrong());
        is(1, tell(x, "law 1<2;"));
        is(0, x.wrong());
        is(2, tell(x, "A=a;law A<3;"));
        is(512, x.wrong());
        // as old letters what is beside counts: 0 for those without keep
        is(1, tell(x, "law a<3;"));
        is(0, x.wrong());
        is(2, tell(x, "keep a;law a<3;"));
        is(512, x.wrong());
    }

    public static void main(String[] args) throws Exception {
        runAll(BoxEdgesTest.class);
    }
}
