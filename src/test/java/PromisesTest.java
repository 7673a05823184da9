import java.util.NoSuchElementException;

/** Each promise of the document by hand: ordinary inputs, the edges that it names, wrong inputs. */
public final class PromisesTest {
    private interface Call {
        Object answer();
    }

    private static int wrong = 0;
    private static int checked = 0;
    private static int promise = 0;

    private static void is(Object due, Object got) {
        checked++;
        if (!due.equals(got)) {
            wrong++;
            StackTraceElement[] trace = new Throwable().getStackTrace();
            int line = 0;
            for (StackTraceElement e : trace) {
                if (e.getMethodName().startsWith("promise")) {
                    line = e.getLineNumber();
                    break;
                }
            }
            System.out.println("promise " + promise + ", line " + line + ": answered " + got + ", due is " + due);
        }
    }

    private static Object outcome(Call call) {
        try {
            return call.answer();
        } catch (RuntimeException e) {
            return e.getClass();
        }
    }

    private static final Class<?> BAD = IllegalArgumentException.class;
    private static final Class<?> STATE = IllegalStateException.class;
    private static final Class<?> NO_INDEX = IndexOutOfBoundsException.class;
    private static final Class<?> NO_SUCH = NoSuchElementException.class;
    private static final int NONE = LedTables.NONE;
    private static final int VOID = LedTables.VOID;

    private static void fails(Class<?> due, Call call) {
        is(due, outcome(call));
    }

    private static void feedText(LedTables x, String text) {
        int[] numbers = new int[5];
        for (int from = 0; from < text.length(); from += 20) {
            for (int i = 0; i < 5; i++) {
                int number = 0;
                for (int j = 0; j < 4; j++) {
                    int at = from + 4 * i + j;
                    number = number << 8 | (at < text.length() ? text.charAt(at) & 255 : 0);
                }
                numbers[i] = number;
            }
            x.feed(numbers[0], numbers[1], numbers[2], numbers[3], numbers[4]);
        }
    }

    private static int tell(LedTables x, String text) {
        feedText(x, text);
        return x.lens(text.length());
    }

    private static LedTables with(String text) {
        LedTables x = new LedTables();
        int clauses = tell(x, text);
        if (clauses < 0) {
            is("a lens", clauses + " at " + x.fault() + " in " + text);
        }
        return x;
    }

    /** The answer of lens() and the place of the fault, as one text. */
    private static String faultOf(String text) {
        LedTables x = new LedTables();
        int answer = tell(x, text);
        return answer + " " + x.fault();
    }

    /** A stage that does not go on is a failure, not a test without end. */
    private static void to(LedTables x, int stage) {
        for (int turn = 0; turn < 5 && x.count(0) < stage; turn++) {
            is(1, x.go());
        }
    }

    private static String repeat(String text, int many) {
        return text.repeat(many);
    }

    private static void promise1() {
        LedTables x = new LedTables();
        for (int what = 0; what <= 12; what++) {
            is(0, x.count(what));
        }
        for (int key = 0; key < 40; key++) {
            is(NONE, x.row(key, 0));
        }
        is(NONE, x.fault());
        is(-1, LedTables.NONE);
        is(Integer.MIN_VALUE, LedTables.VOID);
        for (int letter = 0; letter < 4; letter++) {
            is(5 + letter, x.see(5, 6, 7, 8, letter));
            is(5 + letter, x.put(5, 6, 7, 8, 99, letter));
        }
    }

    private static void promise2() {
        LedTables x = new LedTables();
        for (int i = 1; i <= 20; i++) {
            is(20 * i, x.feed(0x20202020, 0x20202020, 0x20202020, 0x20202020, 0x20202020));
        }
        is(NONE, x.feed(0, 0, 0, 0, 0));
        is(400, x.count(12));
        is(0, x.lens(400));
        is(0, x.count(12));
        is(20, x.feed(0x413D613B, 0, 0, 0, -1));
        is(1, x.lens(4));
        is(20, x.feed(-1, 0, 0, 0, 0));
        is(-9, x.lens(1));
        is(0, x.fault());
    }

    private static void promise3() {
        LedTables x = new LedTables();
        is(3, tell(x, "A=a; keep b ;law A<B ; "));
        is(NONE, x.fault());
        is(3, x.count(9));
        is(-9, tell(x, "A=a;B"));
        is(3, x.count(9));
        is(0, x.count(12));
        feedText(x, "C=c;");
        fails(BAD, () -> x.lens(-1));
        fails(BAD, () -> x.lens(21));
        is(20, x.count(12));
        is(1, x.lens(4));
        is(7, x.see(0, 0, 7, 0, 2));
        is(1, x.go());
        is(0, x.lens(0));
        is(1, x.go());
        fails(STATE, () -> x.lens(0));
        fails(BAD, () -> x.lens(1));
        feedText(x, "A=a;");
        fails(STATE, () -> x.lens(4));
        is(20, x.count(12));
        is(1, x.back());
        is(1, x.lens(4));
        is(16, tell(x, repeat("A=1;", 16)));
        is(2, tell(x, "A=1;A=a+2;"));
        is(7, x.see(5, 0, 0, 0, 0));
        is(0, tell(x, "   "));
        // room for the orders of a lens is had again from one to the next
        String full = repeat("a+", 190) + "a;";
        for (int i = 0; i < 15; i++) {
            is(1, tell(x, "C=" + full));
            is(191, x.see(1, 0, 0, 0, 2));
        }
        is(-9, tell(x, "C=" + full + "D=?;"));
        is(191, x.see(1, 0, 0, 0, 2));
        is(1, tell(x, "law a<" + full));
    }

    private static void promise3Grammar() {
        LedTables x = with("A=2+3*4-10/4/2;B=(2+3)*4;C=least(a,most(b,3))-1;D=if(a<b and not a=1 or [c>d],10,20);");
        is(13, x.see(0, 0, 0, 0, 0));
        is(20, x.see(0, 0, 0, 0, 1));
        is(2, x.see(9, 1, 0, 0, 2));
        is(4, x.see(5, 8, 0, 0, 2));
        is(10, x.see(0, 1, 0, 0, 3));
        is(20, x.see(1, 2, 0, 0, 3));
        is(10, x.see(1, 2, 1, 0, 3));
        x = with("A=a/b;B=a*a;C=0-a;D=00009999;");
        is(-3, x.see(-7, 2, 0, 0, 0));
        is(0, x.see(-7, 0, 0, 0, 0));
        is(Integer.MIN_VALUE, x.see(Integer.MIN_VALUE, -1, 0, 0, 0));
        is(65536 * 65537, x.see(65536, 0, 0, 0, 1) + 65536);
        is(Integer.MIN_VALUE, x.see(Integer.MIN_VALUE, 0, 0, 0, 2));
        is(9999, x.see(0, 0, 0, 0, 3));
        x = with("A=if(a=1or b=2and c=3,1,0);B=if(not[a=1or b=1]and c=0,1,0);C=if(not a=1 and b=1,1,0);");
        is(1, x.see(1, 0, 0, 0, 0));
        is(0, x.see(0, 2, 0, 0, 0));
        is(1, x.see(0, 2, 3, 0, 0));
        is(1, x.see(0, 0, 0, 0, 1));
        is(0, x.see(0, 1, 0, 0, 1));
        is(0, x.see(0, 0, 1, 0, 1));
        is(0, x.see(0, 0, 0, 0, 2));
        is(1, x.see(0, 1, 0, 0, 2));
        x = with("a=if(notA<1,A,if(B>b,B,C));keep b;lawA<5orB=1;");
        is(5, x.put(5, 2, 3, 0, 1, 0));
        is(2, x.put(0, 2, 3, 0, 1, 0));
        is(3, x.put(0, 2, 3, 0, 2, 0));
        x = with("A=if(not not not not not a<1,1,0);");
        is(0, x.see(0, 0, 0, 0, 0));
        is(1, x.see(1, 0, 0, 0, 0));
        x = with("A=((((((1))))))+((((((a))))));law not[not[not[A<1]]];law [a<1] and not not a<1;");
        is(8, x.see(7, 0, 0, 0, 0));
    }

    private static void promise4() {
        is("-9 0", faultOf(";"));
        is("-9 2", faultOf("A=;"));
        is("-9 5", faultOf("A=1  "));
        is("-9 1", faultOf("A"));
        is("-9 4", faultOf("keep"));
        is("-9 3", faultOf("law"));
        is("-9 4", faultOf("keepA;"));
        is("-9 0", faultOf("keepa;"));
        is("-9 5", faultOf("keep e;"));
        is("-9 5", faultOf("keep ab;"));
        is("-9 6", faultOf("keep a1;"));
        is("-9 0", faultOf("AB=1;"));
        is("-9 0", faultOf("aA=1;"));
        is("-9 0", faultOf("E=1;"));
        is("-9 2", faultOf("A=aB;"));
        is("-9 2", faultOf("A=e;"));
        is("-9 4", faultOf("A=a+A;"));
        is("-9 5", faultOf("A=if(B<1,1,1);"));
        is("-9 6", faultOf("law 1<Aor B<2;"));
        is("-9 6", faultOf("law (a<1);"));
        is("-9 4", faultOf("law or;"));
        is("-9 4", faultOf("law nota<1;"));
        is("-9 8", faultOf("law a<1 andy<1;"));
        is("-9 4", faultOf("A=1 2;"));
        is("-9 5", faultOf("A=12 ab;"));
        is("-9 2", faultOf("A=-1;"));
        is("-9 8", faultOf("A=least 1;"));
        is("-9 4", faultOf("A=(1;"));
        is("-9 7", faultOf("law a<1]"));
        is("-9 3", faultOf("A=a\t;"));
        is("-9 3", faultOf("A=1\0"));
        is("-9 0", faultOf("" + (char) 233));
        is("-8 3", faultOf("A= 10000;"));
        is("-8 2", faultOf("A=99999999999999999999;"));
        is("-8 2", faultOf("A=00010000x"));
        is("-9 4", faultOf("A=1 10000;"));
        is("-8 13", faultOf("law a<1 or b<10000;"));
        is("-8 14", faultOf("law a<1 and b<10000;"));
        is("-7 32", faultOf("law [a<1 or not not not not not [a<1 or not b<1];"));
        is("1 -1", faultOf("A=9999;"));
        is("1 -1", faultOf("A=0000000009999;"));
        is("-7 64", faultOf(repeat("A=1;", 17).substring(0, 65)));
        is("-7 65", faultOf(repeat("A=1;", 16) + " keep A"));
        is("-9 65", faultOf(repeat("A=1;", 16) + " keeps"));
        is("-9 64", faultOf(repeat("A=1;", 16) + "AB=1;"));
        is("-9 64", faultOf(repeat("A=1;", 16) + "9"));
        is("16 -1", faultOf(repeat("A=1;", 16) + "   "));
        is("-7 12", faultOf("A=((((( (   (1"));
        is("-7 19", faultOf("law not not not [[[not x"));
        is("-9 19", faultOf("law not not not [[[nots x"));
        is("-7 28", faultOf("law not not not not not not not a<1;"));
        is("1 -1", faultOf("law not not not not not not a<1;"));
        is("-9 28", faultOf("law not not not not not not x;"));
        is("-7 28", faultOf("law not not not not not not [a<1];"));
        is("-7 28", faultOf("law not not not not not not (a)<1;"));
        is("-7 33", faultOf("law not not not not not not least(1,2)<1;"));
        is("1 -1", faultOf("law not not not not not a<1 and not not not not not (a)<1;"));
        is("1 -1", faultOf("A=" + repeat("(", 6) + "1" + repeat(")", 6) + "+(1);"));
        is("-7 12", faultOf("A=if(1<" + repeat("(", 6) + "1"));
        LedTables x = new LedTables();
        is(-9, tell(x, "A=?"));
        fails(BAD, () -> x.lens(1));
        is(2, x.fault());
        is(1, tell(x, "A=1;"));
        is(NONE, x.fault());
    }

    private static void promise5() {
        LedTables x = with("A=a+b*2;C=d;A=a-b;");
        is(-1, x.see(1, 2, 3, 4, 0));
        is(0, x.see(1, 2, 3, 4, 1));
        is(4, x.see(1, 2, 3, 4, 2));
        is(0, x.see(1, 2, 3, 4, 3));
        is(Integer.MAX_VALUE, x.see(Integer.MIN_VALUE, 1, 0, 0, 0));
        fails(BAD, () -> x.see(0, 0, 0, 0, -1));
        fails(BAD, () -> x.see(0, 0, 0, 0, 4));
    }

    private static void promise6() {
        LedTables x = with("keep a;a=A+a+b;keep b;c=D*10+d;d=C;d=B;");
        is(1 + 9 + 9, x.put(1, 2, 3, 4, 9, 0));
        is(9, x.put(1, 2, 3, 4, 9, 1));
        is(40, x.put(1, 2, 3, 4, 9, 2));
        is(2, x.put(1, 2, 3, 4, 9, 3));
        fails(BAD, () -> x.put(0, 0, 0, 0, 0, -1));
        fails(BAD, () -> x.put(0, 0, 0, 0, 0, 4));
    }

    private static void promise7() {
        LedTables x = with("law 1<0;");
        is(1, x.wrong());
        x.box(0, -999, -992);
        is(8, x.wrong());
        x.box(3, 992, 999);
        is(64, x.wrong());
        x.box(1, 5, 5);
        is(64, x.wrong());
        is(1, tell(x, "A=a;"));
        is(-999, x.agree(0, 0));
        is(5, x.agree(0, 1));
        is(0, x.agree(0, 2));
        is(992, x.agree(0, 3));
        fails(BAD, () -> { x.box(-1, 0, 0); return 0; });
        fails(BAD, () -> { x.box(4, 0, 0); return 0; });
        fails(BAD, () -> { x.box(0, 1, 0); return 0; });
        fails(BAD, () -> { x.box(0, 0, 8); return 0; });
        fails(BAD, () -> { x.box(0, -1000, -995); return 0; });
        fails(BAD, () -> { x.box(0, 995, 1000); return 0; });
        fails(BAD, () -> { x.box(0, Integer.MIN_VALUE, Integer.MAX_VALUE); return 0; });
        fails(BAD, () -> { x.box(0, Integer.MAX_VALUE, Integer.MIN_VALUE); return 0; });
        is(-999, x.agree(0, 0));
    }

    private static void promise8() {
        LedTables x = with("A=a/2;B=b;C=c;D=d;a=A*2;b=B;c=C;d=D;");
        x.box(0, 2, 5);
        x.box(1, -1, 1);
        is(3, x.agree(0, 0));
        is(-1, x.agree(0, 1));
        is(VOID, x.agree(1, 0));
        is(6, tell(x, "A=a;B=b;C=c;b=B;d=D;a=A+1-least(1,A-3);"));
        is(2, x.agree(0, 0));
        is(2, x.agree(1, 0));
        is(6, tell(x, "A=a;B=b;a=A+B/2;b=B;c=C;d=D;"));
        x.box(1, 0, 3);
        is(2, x.agree(0, 0));
        is(2, x.agree(0, 1));
        is(2, x.agree(1, 1));
        fails(BAD, () -> x.agree(-1, 0));
        fails(BAD, () -> x.agree(2, 0));
        fails(BAD, () -> x.agree(0, 4));
        fails(BAD, () -> x.agree(0, -1));
        LedTables y = new LedTables();
        y.box(2, -3, 4);
        is(VOID, y.agree(0, 2));
        is(VOID, y.agree(1, 2));
    }

    private static void promise9() {
        LedTables x = with("A=a;B=b;a=A+B/2;b=B;keep c;");
        x.box(0, 2, 5);
        x.box(1, 0, 3);
        x.box(2, 0, 7);
        is(64, x.unlike(0));
        is(64, x.unlike(1));
        is(3, tell(x, "A=a/2;a=A*2;keep c;"));
        is(112, x.unlike(0));
        is(0, x.unlike(1));
        fails(BAD, () -> x.unlike(-1));
        fails(BAD, () -> x.unlike(2));
        for (int letter = 0; letter < 4; letter++) {
            x.box(letter, -4, 3);
        }
        is(0, tell(x, ""));
        is(4095, x.unlike(0));
        is(0, x.unlike(1));
    }

    private static void promise10() {
        LedTables x = with("A=a+b;");
        is(0, x.lost());
        x.box(0, 0, 1);
        is(0, x.lost());
        x.box(1, 0, 1);
        is(3, x.lost());
        x.box(0, 0, 0);
        is(0, x.lost());
        is(1, tell(x, "A=a;"));
        is(2, x.lost());
        is(2, tell(x, "A=a;keep b;"));
        is(0, x.lost());
        x.box(0, -2, 2);
        is(2, tell(x, "A=a+b;keep b;"));
        is(0, x.lost());
        is(2, tell(x, "A=a*a;keep b;"));
        is(1, x.lost());
        for (int letter = 0; letter < 4; letter++) {
            x.box(letter, -4, 3);
        }
        is(2, tell(x, "A=a*8+b;B=c*8+d;"));
        is(0, x.lost());
        is(2, tell(x, "A=a*8+b;B=c*7+d;"));
        is(12, x.lost());
        is(0, tell(x, ""));
        is(15, x.lost());
        is(2, tell(x, "keep b;keep c;"));
        is(9, x.lost());
        is(0, new LedTables().lost());
    }

    /** One pair of 4,096 rows that is alike; rows that are SEEN alike and are unlike BESIDE. */
    private static void promise10Full() {
        for (int other = 7; other < 4095; other += 511) {
            LedTables x = with("A=if(a*512+b*64+c*8+d=4095," + other + ",a*512+b*64+c*8+d);");
            for (int letter = 0; letter < 4; letter++) {
                x.box(letter, 0, 7);
            }
            int due = 0;
            for (int letter = 0; letter < 4; letter++) {
                due |= (other >> 3 * (3 - letter) & 7) != 7 ? 1 << letter : 0;
            }
            is(due, x.lost());
            is(4, tell(x, "A=a+d;keep a;keep b;keep c;"));
            is(0, x.lost());
            is(3, tell(x, "A=a+d;keep a;keep b;"));
            is(4, x.lost());
        }
    }

    private static void promise11() {
        LedTables x = with("A=a+b;B=b;keep a;law A<3;law a<2 or B=0;law b=0;");
        x.box(0, 0, 3);
        x.box(1, 0, 2);
        // (0,0) (0,1) (0,2) (1,0) (1,1) (2,0) are right; A is 3 or more for all others
        is(6, x.wrong());
        is(1, tell(x, "law a=0;"));
        is(0, x.wrong());
        is(2, tell(x, "law a=0;keep a;"));
        is(9, x.wrong());
    }

    private static void promise12() {
        LedTables x = new LedTables();
        is(0, x.change());
        is(1, x.change());
        is(2, x.change());
        is(-1, x.change());
        is(3, x.count(10));
    }

    private static void promise13() {
        LedTables x = new LedTables();
        fails(NO_SUCH, () -> x.hold(0, 0, 0));
        x.change();
        x.change();
        for (int stage = 0; stage < 5; stage++) {
            is(stage + 1, x.hold(1, stage, 99));
            is(99, x.hold(1, stage, 0));
        }
        is(1, x.hold(0, 0, 7));
        is(21, x.way(0, 0, -1));
        fails(NO_SUCH, () -> x.hold(-1, 0, 0));
        fails(NO_SUCH, () -> x.hold(2, 9, 999));
        fails(BAD, () -> x.hold(0, -1, 0));
        fails(BAD, () -> x.hold(0, 5, 0));
        fails(BAD, () -> x.hold(0, 0, -1));
        fails(BAD, () -> x.hold(0, 0, 100));
        is(7, x.hold(0, 0, 7));
    }

    private static void promise14() {
        LedTables x = new LedTables();
        fails(NO_SUCH, () -> x.order(0, 0, false));
        x.change();
        x.change();
        is(1, x.order(1, 0, false));
        is(0, x.order(1, 0, false));
        is(true, x.stands(6, 0));
        is(false, x.stands(1, 0));
        is(true, x.stands(7, 0));
        is(1, x.order(0, 1, false));
        is(false, x.stands(6, 0));
        is(true, x.stands(14, 0));
        is(NONE, x.way(0, 0, -1));
        is(1, x.order(1, 0, true));
        is(0, x.order(0, 1, true));
        is(false, x.stands(14, 0));
        is(true, x.stands(35, 0));
        fails(BAD, () -> x.order(1, 1, true));
        fails(NO_SUCH, () -> x.order(2, 2, true));
        fails(NO_SUCH, () -> x.order(0, 2, false));
        fails(NO_SUCH, () -> x.order(-1, 0, false));
    }

    private static void promise15() {
        LedTables x = new LedTables();
        for (int i = 0; i < 5; i++) {
            is(i, x.program());
        }
        is(-1, x.program());
        is(5, x.count(11));
        is(true, x.stands(0, 31));
        fails(BAD, () -> x.stands(0, 32));
    }

    private static void promise16() {
        LedTables x = new LedTables();
        x.change();
        x.program();
        is(0, x.need(0, 0, 2));
        is(2, x.need(0, 0, 1));
        is(1, x.need(0, 0, 0));
        is(0, x.need(0, 0, 0));
        x.change();
        is(0, x.need(0, 1, 1));
        fails(NO_INDEX, () -> x.need(-1, 9, 9));
        fails(NO_INDEX, () -> x.need(1, 0, 0));
        fails(NO_SUCH, () -> x.need(0, 2, 9));
        fails(NO_SUCH, () -> x.need(0, -1, 0));
        fails(BAD, () -> x.need(0, 0, -1));
        fails(BAD, () -> x.need(0, 0, 3));
    }

    private static void promise17() {
        LedTables x = new LedTables();
        fails(NO_INDEX, () -> x.price(0, 0));
        x.change();
        x.program();
        is(5, x.price(0, 99));
        is(99, x.price(0, 7));
        x.need(0, 0, 1);
        is(22, x.way(0, 0, -1));
        fails(NO_INDEX, () -> x.price(-1, 0));
        fails(NO_INDEX, () -> x.price(1, 100));
        fails(BAD, () -> x.price(0, -1));
        fails(BAD, () -> x.price(0, 100));
        is(7, x.price(0, 0));
    }

    private static void promise18() {
        LedTables x = new LedTables();
        is(true, x.stands(0, 0));
        x.change();
        x.program();
        x.program();
        x.need(0, 0, 1);
        for (int stage = 0; stage < 6; stage++) {
            is(stage <= 3, x.stands(stage, 0));
            is(stage <= 3, x.stands(stage, 2));
            is(stage >= 2, x.stands(stage, 1));
        }
        x.need(1, 0, 2);
        for (int stage = 0; stage < 6; stage++) {
            is(stage == 2 || stage == 3, x.stands(stage, 0));
            is(stage == 2 || stage == 3, x.stands(stage, 2));
            is(stage >= 2, x.stands(stage, 3));
        }
        fails(BAD, () -> x.stands(-1, 0));
        fails(BAD, () -> x.stands(6, 0));
        fails(BAD, () -> x.stands(0, -1));
        fails(BAD, () -> x.stands(0, 4));
        LedTables y = new LedTables();
        y.change();
        y.change();
        y.change();
        y.order(0, 2, true);
        is(false, y.stands(1 + 4 * 36, 0));
        is(true, y.stands(1 + 5 * 36, 0));
        is(true, y.stands(3 * 6 + 4 * 36, 0));
        is(true, y.stands(215, 0));
        fails(BAD, () -> y.stands(216, 0));
    }

    private static String wayOf(LedTables x, int node, int rewritten) {
        StringBuilder steps = new StringBuilder();
        steps.append(x.way(node, rewritten, -1)).append(':');
        for (int k = 0; k < x.way(node, rewritten, -2); k++) {
            steps.append(x.way(node, rewritten, k));
        }
        return steps.toString();
    }

    private static void promise19() {
        LedTables x = new LedTables();
        is("0:", wayOf(x, 0, 0));
        x.change();
        is("15:00000", wayOf(x, 0, 0));
        is("9:00", wayOf(x, 3, 0));
        is("0:", wayOf(x, 5, 0));
        x.change();
        is("30:0000011111", wayOf(x, 0, 0));
        x.order(1, 0, false);
        is("30:1010101010", wayOf(x, 0, 0));
        x.order(0, 1, true);
        is("30:1111100000", wayOf(x, 0, 0));
        is(NONE, x.way(1, 0, -1));
        is(NONE, x.way(1, 0, -2));
        is(NONE, x.way(1, 0, 0));
        is(NONE, x.way(0, 0, 10));
        is(NONE, x.way(0, 0, Integer.MAX_VALUE));
        fails(BAD, () -> x.way(0, 0, -3));
        fails(BAD, () -> x.way(36, 0, 0));
        fails(BAD, () -> x.way(0, 1, 0));
        fails(BAD, () -> x.way(-1, 0, 0));
        fails(BAD, () -> x.way(0, -1, 0));
        LedTables y = new LedTables();
        y.change();
        y.change();
        y.program();
        y.need(0, 0, 1);
        y.need(0, 1, 2);
        // change 1 stands at 2 to 5 alone; change 0 can't pass 3 till the program is rewritten, from 2 on
        is(NONE, y.way(0, 0, -1));
        is("32:000111600", wayOf(y, 12, 0));
        y.price(0, 0);
        is("27:000111600", wayOf(y, 12, 0));
    }

    /** Ways that lead back for a while: a bar, and a program that lets no stage in between. */
    private static void promise19Back() {
        LedTables x = new LedTables();
        x.change();
        x.change();
        x.program();
        x.need(0, 0, 1);
        x.need(0, 1, 1);
        x.order(0, 1, true);
        // both must be at 2 or more when the program is rewritten, and the bar lets them not
        is(NONE, x.way(0, 0, -1));
        is(NONE, x.fewest(0, 0));
        is(NONE, x.last(0, 0));
        LedTables y = new LedTables();
        y.change();
        y.change();
        y.program();
        y.need(0, 0, 1);
        y.order(1, 0, false);
        y.order(0, 1, true);
        // change 0 may only begin behind change 1, and from (1, 0) it does not stand
        is("35:111110006" + "00", wayOf(y, 0, 0));
        LedTables z = new LedTables();
        z.change();
        z.change();
        z.change();
        z.order(0, 1, true);
        z.order(1, 2, true);
        z.order(2, 0, false);
        // change 1 is under way, and change 2 ahead of change 0: nothing else may begin
        is("44:11112020202020", wayOf(z, 6, 0));
        z.hold(1, 1, 20);
        is("62:11112020202020", wayOf(z, 6, 0));
        z.hold(1, 0, 0);
        z.hold(1, 1, 0);
        is("42:11112020202020", wayOf(z, 6, 0));
        LedTables w = new LedTables();
        w.change();
        w.change();
        w.change();
        w.program();
        w.order(1, 2, false);
        w.order(0, 1, true);
        w.need(0, 0, 1);
        w.need(0, 2, 1);
        // to rewrite the program, change 2 must be at 2 or more, so change 1 too, and the bar wants it at 5:
        // change 0, under way too early, goes back
        is("51:31111100022260022", wayOf(w, 1, 0));
        is(5, w.last(1, 0));
        is("52:331111100022260022", wayOf(w, 2, 0));
        is("53:3331111100022260022", wayOf(w, 3, 0));
    }

    private static void promise20() {
        LedTables x = new LedTables();
        x.change();
        x.program();
        x.program();
        x.program();
        is(0, x.fewest(0, 0));
        x.need(0, 0, 1);
        is(1, x.fewest(0, 0));
        is(1, x.fewest(0, 4));
        x.need(2, 0, 1);
        is(2, x.fewest(0, 0));
        is(NONE, x.fewest(0, 4));
        is(1, x.fewest(2, 4));
        is(0, x.fewest(2, 5));
        is(0, x.fewest(5, 7));
        is(NONE, x.fewest(5, 0));
        x.price(0, 99);
        x.price(2, 0);
        is(2, x.fewest(0, 0));
        fails(BAD, () -> x.fewest(6, 0));
        fails(BAD, () -> x.fewest(0, 8));
    }

    private static void promise21() {
        LedTables x = new LedTables();
        is(true, x.isBack(0, 0));
        x.change();
        for (int stage = 0; stage < 6; stage++) {
            is(stage < 5, x.isBack(stage, 0));
        }
        x.program();
        x.need(0, 0, 1);
        is(true, x.isBack(3, 0));
        is(false, x.isBack(3, 1));
        is(false, x.isBack(4, 0));
        x.need(0, 0, 2);
        is(false, x.isBack(3, 0));
        x.need(0, 0, 0);
        is(true, x.isBack(4, 1));
        x.change();
        x.order(1, 0, false);
        is(true, x.isBack(4 + 24, 0));
        is(false, x.isBack(4 + 30, 0));
        is(false, x.isBack(4, 0));
        fails(BAD, () -> x.isBack(36, 0));
        fails(BAD, () -> x.isBack(0, 2));
    }

    private static void promise22() {
        LedTables x = new LedTables();
        is(0, x.last(0, 0));
        x.change();
        is(4, x.last(0, 0));
        is(1, x.last(3, 0));
        is(0, x.last(4, 0));
        is(NONE, x.last(5, 0));
        x.program();
        x.need(0, 0, 1);
        is(3, x.last(0, 0));
        is(1, x.last(2, 0));
        is(NONE, x.last(2, 1));
        is(NONE, x.last(4, 0));
        x.change();
        // way 0006 then 00, then the other change: behind 3 steps it is back for the last time
        is(true, x.last(0, 0) >= 3);
        fails(BAD, () -> x.last(36, 0));
        fails(BAD, () -> x.last(0, 2));
    }

    private static void promise23() {
        LedTables x = with("A=a;law A<9;a=A;B=b;b=B+1;");
        x.quiet(0);
        x.insert(0);
        x.insert(1);
        is(1, x.go());
        is(1, x.go());
        is(0, x.go());
        x.write(0, 1, 0, 0, 9);
        is(1, x.bite(1));
        is(0, x.go());
        is(1, x.bite(1));
        is(3, x.row(1, 0));
        is(1, x.go());
        is(3, x.count(0));
        is(0, x.go());
        x.write(0, 1, 0, 0, 8);
        is(0, x.go());
        is(1, x.bite(1));
        x.write(4, 0, 0, 0, 10);
        is(1, x.row(0, 1));
        is(0, x.go());
        x.write(4, 0, 0, 0, 1);
        x.tick(1);
        x.write(4, 0, 1, 1, 5);
        is(1, x.row(0, 4));
        is(0, x.go());
        x.mend(0);
        is(1, x.go());
        is(4, x.count(0));
        x.write(5, 0, 1, 0, 99);
        x.write(5, 1, 1, 1, 99);
        is(1, x.row(0, 1));
        is(1, x.row(1, 4));
        is(1, x.go());
        is(5, x.count(0));
        is(2, x.row(0, 0));
        is(2, x.row(1, 0));
        is(1, x.row(0, 1));
        is(5, x.row(0, 3));
        is(0, x.row(1, 4));
        is(-1, x.go());
    }

    private static void promise23Quiet() {
        LedTables x = new LedTables();
        x.insert(0);
        to(x, 2);
        x.bite(1);
        to(x, 4);
        is(1, x.go());
        LedTables y = new LedTables();
        y.insert(0);
        y.read(7, 0, 0, 3);
        to(y, 2);
        y.bite(1);
        to(y, 4);
        y.tick(10);
        is(0, y.go());
        y.tick(1);
        y.read(7, 0, 1, 3);
        is(1, y.go());
        LedTables z = new LedTables();
        to(z, 4);
        z.insert(1);
        is(1, z.count(4));
        z.delete(1);
        is(1, z.go());
        LedTables w = with("law 1<0;");
        to(w, 4);
        is(3, w.insert(0));
        is(0, w.go());
        w.write(0, 0, 1, 0, 0);
        is(0, w.row(0, 0));
        is(0, w.go());
        w.delete(0);
        is(1, w.go());
    }

    private static void promise24() {
        LedTables x = with("A=a;law A<9;law B<9;a=A;");
        is(0, x.back());
        x.insert(0);
        x.insert(1);
        x.insert(2);
        x.write(0, 1, 0, 0, 10);
        to(x, 2);
        x.bite(2);
        is(1, x.bite(2));
        x.write(0, 0, 0, 0, 10);
        x.tick(1);
        x.write(0, 2, 1, 1, 10);
        is(2, x.count(7));
        to(x, 3);
        is(1, x.back());
        is(2, x.count(0));
        is(2, x.count(4));
        is(1, x.count(6));
        is(2, x.count(7));
        is(1, x.back());
        is(3, x.count(3));
        is(0, x.count(7));
        is(NONE, x.row(0, 2));
        is(NONE, x.row(0, 3));
        is(10, x.read(0, 0, 0, 0));
        is(0, x.read(0, 2, 1, 1));
        is(1, x.back());
        is(0, x.back());
        is(0, x.count(0));
        LedTables y = new LedTables();
        to(y, 5);
        is(0, y.back());
        is(5, y.count(0));
        LedTables z = new LedTables();
        to(z, 4);
        is(1, z.back());
        is(3, z.count(0));
    }

    private static void promise25() {
        LedTables x = with("A=1+a;keep a;law a<1;");
        is(0, x.insert(0));
        is(-1, x.insert(0));
        is(0, x.insert(39));
        x.write(0, 0, 0, 0, 5);
        x.delete(0);
        is(0, x.insert(0));
        is(0, x.read(0, 0, 0, 0));
        fails(NO_INDEX, () -> x.insert(-1));
        fails(NO_INDEX, () -> x.insert(40));
        to(x, 1);
        is(0, x.insert(1));
        to(x, 2);
        is(0, x.insert(2));
        is(4, x.bite(40));
        to(x, 3);
        is(1, x.insert(3));
        is(1, x.read(0, 3, 1, 0));
        to(x, 4);
        is(1, x.insert(4));
        x.tick(11);
        to(x, 5);
        is(2, x.insert(5));
        is(1, x.read(0, 5, 1, 0));
        LedTables y = with("A=1;law A<1;");
        to(y, 3);
        is(3, y.insert(7));
        is(0, y.row(7, 1));
        y.delete(7);
        to(y, 5);
        is(2, y.insert(7));
        is(0, y.row(7, 1));
        is(NONE, y.row(7, 2));
        is(1, y.write(0, 7, 1, 0, 2));
        is(1, y.row(7, 1));
        y.delete(7);
        is(2, y.insert(7));
        is(0, y.row(7, 1));
    }

    private static void promise26() {
        LedTables x = new LedTables();
        is(false, x.delete(0));
        x.insert(0);
        is(true, x.delete(0));
        is(false, x.delete(0));
        is(NONE, x.row(0, 0));
        is(0, x.count(2));
        fails(NO_INDEX, () -> x.delete(-1));
        fails(NO_INDEX, () -> x.delete(40));
        LedTables y = new LedTables();
        y.insert(0);
        y.write(0, 0, 0, 0, 1);
        y.delete(0);
        y.insert(0);
        is(1, y.write(0, 0, 1, 0, 1));
    }

    private static void promise27() {
        LedTables x = with("A=a*2;a=A/2;keep b;law A<9;");
        x.insert(1);
        x.write(0, 1, 0, 0, 3);
        x.write(0, 1, 0, 1, 4);
        x.write(0, 1, 0, 2, 5);
        is(3, x.read(0, 1, 0, 0));
        is(6, x.read(7, 1, 1, 0));
        is(0, x.asked(7, 1, 0, false));
        is(NONE, x.asked(7, 0, 0, false));
        to(x, 2);
        x.bite(1);
        is(5, x.read(0, 1, 0, 2));
        is(6, x.read(0, 1, 1, 0));
        to(x, 4);
        x.tick(11);
        to(x, 5);
        is(3, x.read(0, 1, 0, 0));
        is(4, x.read(0, 1, 0, 1));
        is(0, x.read(0, 1, 0, 2));
        is(6, x.read(0, 1, 1, 0));
        fails(NO_INDEX, () -> x.read(-1, -1, 0, 0));
        fails(NO_INDEX, () -> x.read(0, 40, 9, 9));
        fails(BAD, () -> x.read(-1, 0, 0, 0));
        fails(BAD, () -> x.read(8, 0, 0, 0));
        fails(BAD, () -> x.read(0, 0, -1, 0));
        fails(BAD, () -> x.read(0, 0, 2, 0));
        fails(BAD, () -> x.read(0, 0, 0, -1));
        fails(BAD, () -> x.read(0, 0, 0, 4));
        fails(NO_SUCH, () -> x.read(6, 0, 0, 0));
        is(NONE, x.asked(6, 0, 0, false));
        LedTables y = with("A=a;law A<9;");
        y.insert(0);
        y.write(0, 0, 0, 0, 9);
        to(y, 2);
        y.bite(1);
        is(3, y.row(0, 0));
        is(9, y.read(0, 0, 0, 0));
        is(9, y.read(0, 0, 1, 0));
    }

    private static void promise28() {
        LedTables x = with("A=a+10*b;a=A-A/10*10;b=A/10;keep c;B=d;d=B+c;C=c;");
        x.insert(0);
        is(1, x.write(0, 0, 0, 2, 7));
        x.tick(1);
        is(1, x.write(0, 0, 1, 0, 45));
        is(5, x.read(0, 0, 0, 0));
        is(4, x.read(0, 0, 0, 1));
        is(7, x.read(0, 0, 0, 2));
        is(7, x.read(0, 0, 0, 3));
        fails(NO_INDEX, () -> x.write(9, 40, 9, 9, 9999999));
        fails(NO_INDEX, () -> x.write(0, -1, 0, 0, 0));
        fails(BAD, () -> x.write(8, 1, 0, 0, 0));
        fails(BAD, () -> x.write(-1, 1, 0, 0, 0));
        fails(BAD, () -> x.write(0, 1, 2, 0, 0));
        fails(BAD, () -> x.write(0, 1, -1, 0, 0));
        fails(BAD, () -> x.write(0, 1, 0, 4, 0));
        fails(BAD, () -> x.write(0, 1, 0, -1, 0));
        fails(BAD, () -> x.write(0, 1, 0, 0, 1000001));
        fails(BAD, () -> x.write(0, 1, 0, 0, -1000001));
        fails(NO_SUCH, () -> x.write(3, 1, 0, 0, 0));
        is(NONE, x.asked(3, 0, 0, true));
        x.tick(1);
        is(1, x.write(0, 0, 0, 3, 1000000));
        is(1, x.write(0, 0, 0, 3, -1000000));
        is(-1000000, x.read(0, 0, 1, 1));
    }

    private static void promise28Led() {
        LedTables x = with("A=a+10*b;a=A-A/10*10;b=A/10;keep c;keep a;c=C+c;C=c;law A<100;law c<50;");
        x.insert(0);
        to(x, 2);
        x.bite(1);
        is(1, x.write(1, 0, 0, 2, 6));
        is(6, x.row(0, 7));
        is(6, x.read(0, 0, 1, 2));
        x.tick(1);
        is(1, x.write(1, 0, 1, 2, 8));
        is(6, x.row(0, 7));
        is(14, x.read(0, 0, 0, 2));
        is(1, x.row(0, 4));
        is(0, x.row(0, 1));
        is(1, x.write(2, 0, 1, 0, 123));
        is(1, x.row(0, 1));
        is(1, x.row(0, 2));
        is(2, x.row(0, 3));
        is(3, x.read(0, 0, 0, 0));
        is(12, x.read(0, 0, 0, 1));
        is(0, x.row(0, 5));
        x.tick(3);
        is(1, x.write(4, 0, 0, 0, 9));
        is(1, x.row(0, 1));
        is(1, x.row(0, 2));
        is(2, x.row(0, 3));
        is(9, x.row(0, 5));
        is(1, x.write(4, 0, 0, 1, 1));
        is(0, x.row(0, 1));
        is(NONE, x.row(0, 2));
        is(NONE, x.row(0, 3));
        is(1, x.write(5, 0, 0, 2, 50));
        is(4, x.row(0, 2));
        is(5, x.row(0, 3));
    }

    private static void promise28New() {
        LedTables x = with("A=a+b;a=A-b;keep b;law A<100;B=c;");
        to(x, 5);
        x.insert(0);
        is(1, x.write(0, 0, 0, 1, 5));
        is(5, x.read(0, 0, 1, 0));
        is(5, x.row(0, 6));
        is(0, x.read(0, 0, 0, 0));
        x.tick(1);
        is(1, x.write(0, 0, 1, 0, 9));
        is(4, x.read(0, 0, 0, 0));
        is(5, x.read(0, 0, 0, 1));
        is(1, x.write(0, 0, 1, 1, 3));
        is(3, x.read(0, 0, 1, 1));
        is(0, x.read(0, 0, 0, 2));
        x.tick(1);
        is(1, x.write(6, 0, 0, 0, 100));
        is(105, x.read(0, 0, 1, 0));
        is(0, x.read(0, 0, 1, 1));
        is(1, x.row(0, 1));
        is(2, x.row(0, 2));
        is(6, x.row(0, 3));
        x.tick(1);
        is(1, x.write(6, 0, 1, 0, 99));
        is(0, x.row(0, 1));
        is(2, x.row(0, 0));
    }

    private static void promise28PutBy() {
        LedTables x = with("A=a;a=A;law A<9;keep b;b=A;");
        x.insert(0);
        x.insert(1);
        x.write(0, 0, 0, 0, 9);
        x.write(0, 1, 0, 0, 9);
        to(x, 2);
        is(2, x.bite(5));
        is(2, x.count(6));
        is(0, x.write(0, 0, 1, 0, 10));
        is(3, x.row(0, 0));
        x.tick(1);
        is(1, x.write(0, 0, 1, 0, 11));
        is(0, x.row(0, 0));
        is(0, x.row(0, 1));
        is(11, x.read(0, 0, 0, 1));
        is(1, x.write(0, 1, 0, 0, 8));
        is(0, x.row(1, 0));
        is(2, x.bite(5));
        is(3, x.row(0, 0));
        is(1, x.row(1, 0));
    }

    private static void promise29() {
        LedTables x = new LedTables();
        x.insert(0);
        is(1, x.write(0, 0, 1, 0, 1));
        is(1, x.write(0, 0, 0, 0, 2));
        is(0, x.write(1, 0, 1, 0, 3));
        is(NONE, x.asked(1, 1, 0, true));
        is(2, x.read(0, 0, 0, 0));
        is(1, x.write(0, 0, 0, 0, 4));
        is(0, x.first(1));
        is(1, x.first(1));
        is(1, x.write(1, 0, 1, 0, 3));
        is(0, x.asked(1, 1, 0, true));
        is(0, x.write(0, 0, 0, 0, 4));
        is(1, x.write(0, 0, 1, 1, 4));
        x.tick(0);
        is(0, x.write(0, 0, 0, 0, 4));
        x.tick(1);
        is(1, x.write(0, 0, 0, 0, 4));
        is(1, x.write(0, 0, 1, 0, 4));
        is(1, x.first(0));
        fails(BAD, () -> x.first(-1));
        fails(BAD, () -> x.first(2));
        is(0, x.first(0));
        x.insert(1);
        is(1, x.write(0, 1, 1, 0, 4));
    }

    private static void promise30() {
        LedTables x = new LedTables();
        is(0, x.tick(0));
        is(7, x.tick(7));
        fails(BAD, () -> x.tick(-1));
        fails(BAD, () -> x.tick(1001));
        for (int i = 1; i <= 9; i++) {
            is(7 + 1000 * i, x.tick(1000));
        }
        fails(STATE, () -> x.tick(994));
        fails(BAD, () -> x.tick(Integer.MAX_VALUE));
        is(9007, x.count(1));
        is(10000, x.tick(993));
        fails(STATE, () -> x.tick(1));
        is(10000, x.tick(0));
    }

    private static void promise31() {
        LedTables x = with("A=a;law A<5;keep b;");
        fails(BAD, () -> x.bite(0));
        fails(BAD, () -> x.bite(41));
        fails(STATE, () -> x.bite(1));
        for (int key = 39; key >= 30; key--) {
            x.insert(key);
        }
        x.write(0, 31, 0, 0, 5);
        x.write(0, 32, 0, 1, 6);
        to(x, 1);
        fails(STATE, () -> x.bite(1));
        to(x, 2);
        is(3, x.bite(3));
        is(1, x.row(30, 0));
        is(3, x.row(31, 0));
        is(1, x.row(32, 0));
        is(6, x.row(32, 6));
        is(0, x.row(33, 0));
        is(7, x.bite(40));
        is(0, x.bite(1));
        to(x, 3);
        x.write(0, 31, 0, 0, 4);
        is(1, x.bite(1));
        to(x, 4);
        is(0, x.bite(1));
        x.tick(11);
        to(x, 5);
        fails(STATE, () -> x.bite(1));
        fails(BAD, () -> x.bite(0));
    }

    private static void promise32() {
        LedTables x = new LedTables();
        is(0, x.fall(3));
        is(3, x.fall(0));
        is(0, x.fall(2));
        fails(BAD, () -> x.fall(-1));
        fails(BAD, () -> x.fall(41));
        for (int key = 0; key < 6; key++) {
            x.insert(key);
        }
        fails(STATE, () -> x.bite(2));
        to(x, 2);
        fails(BAD, () -> x.bite(0));
        is(-1, x.bite(2));
        is(6, x.count(3));
        is(0, x.fall(2));
        is(1, x.bite(1));
        is(0, x.fall(6));
        is(5, x.bite(40));
        is(0, x.fall(1));
        is(0, x.bite(1));
        is(0, x.fall(40));
        is(40, x.fall(0));
    }

    private static void promise33() {
        LedTables x = with("keep a;keep c;A=a;a=A+1;law A<9;");
        for (int what = 0; what <= 8; what++) {
            is(NONE, x.row(0, what));
        }
        x.insert(0);
        for (int letter = 0; letter < 4; letter++) {
            x.write(0, 0, 0, letter, 4 + letter);
        }
        String at = "";
        for (int what = 0; what <= 8; what++) {
            at += x.row(0, what) + " ";
        }
        is("0 0 -1 -1 0 4 0 6 0 ", at);
        to(x, 2);
        x.bite(1);
        x.tick(5);
        x.write(3, 0, 1, 0, 9);
        at = "";
        for (int what = 0; what <= 8; what++) {
            at += x.row(0, what) + " ";
        }
        is("1 1 5 3 1 4 0 6 0 ", at);
        fails(NO_INDEX, () -> x.row(-1, 9));
        fails(NO_INDEX, () -> x.row(40, 0));
        fails(BAD, () -> x.row(0, -1));
        fails(BAD, () -> x.row(0, 9));
        fails(BAD, () -> x.row(1, 9));
        LedTables y = with("keep a;A=a;law A<9;");
        y.insert(0);
        y.write(0, 0, 0, 0, 10);
        to(y, 2);
        y.bite(1);
        is(3, y.row(0, 0));
        is(10, y.row(0, 5));
        is(0, y.row(0, 1));
        is(0, y.row(0, 4));
    }

    private static void promise34() {
        LedTables x = new LedTables();
        is(10, x.quiet(0));
        is(0, x.quiet(1000));
        fails(BAD, () -> x.quiet(-1));
        fails(BAD, () -> x.quiet(1001));
        is(1000, x.quiet(3));
        to(x, 4);
        x.insert(0);
        x.write(0, 0, 0, 0, 1);
        x.tick(3);
        is(0, x.go());
        x.tick(1);
        is(1, x.go());
    }

    private static void promise35() {
        LedTables x = new LedTables();
        x.insert(0);
        is(NONE, x.asked(0, 0, 0, false));
        x.tick(2);
        x.read(1, 0, 0, 3);
        x.write(1, 0, 0, 3, 0);
        x.tick(2);
        x.read(1, 0, 0, 3);
        is(4, x.asked(1, 0, 3, false));
        is(2, x.asked(1, 0, 3, true));
        is(NONE, x.asked(1, 1, 3, false));
        is(NONE, x.asked(1, 0, 2, false));
        is(NONE, x.asked(0, 0, 3, false));
        x.delete(0);
        is(4, x.asked(1, 0, 3, false));
        for (int half = 0; half < 2; half++) {
            LedTables y = new LedTables();
            y.insert(0);
            for (int i = 0; i < 64; i++) {
                int[] a = {half * 4 + i / 16, i / 8 % 2, i / 2 % 4, i % 2};
                is(NONE, y.asked(a[0], a[1], a[2], a[3] == 1));
                if (a[3] == 1) {
                    y.write(a[0], 0, a[1], a[2], 1);
                } else {
                    y.read(a[0], 0, a[1], a[2]);
                }
                is(i, y.asked(a[0], a[1], a[2], a[3] == 1));
                y.tick(1);
            }
            is(0, y.asked(half * 4, 0, 0, false));
        }
        fails(BAD, () -> x.asked(-1, 0, 0, true));
        fails(BAD, () -> x.asked(8, 0, 0, true));
        fails(BAD, () -> x.asked(0, -1, 0, true));
        fails(BAD, () -> x.asked(0, 2, 0, true));
        fails(BAD, () -> x.asked(0, 0, -1, true));
        fails(BAD, () -> x.asked(0, 0, 4, true));
    }

    private static void promise36() {
        LedTables x = new LedTables();
        x.insert(0);
        is(0, x.still(0, Integer.MIN_VALUE));
        is(0, x.still(0, -1));
        x.read(0, 0, 0, 1);
        x.read(5, 0, 1, 1);
        x.tick(4);
        x.write(7, 0, 0, 1, 3);
        is(129, x.still(1, 0));
        is(129, x.still(1, -5));
        is(128, x.still(1, 1));
        is(128, x.still(1, 4));
        is(0, x.still(1, 5));
        is(0, x.still(2, 0));
        fails(BAD, () -> x.still(-1, 0));
        fails(BAD, () -> x.still(4, 0));
    }

    private static LedTables oddTable() {
        LedTables x = with("A=a;B=b;C=c;D=d;a=A+1;b=B;c=C-2;d=D;");
        for (int key = 0; key < 40; key += 2) {
            x.insert(key);
        }
        to(x, 2);
        x.bite(19);
        x.tick(1);
        return x;
    }

    private static void promise37() {
        LedTables x = oddTable();
        is(0, x.sum(0, 39));
        x.write(0, 4, 1, 0, 7);
        // a is A + 1, and c is C - 2: NEW less SEEN is -1 and 5 times 2
        is(9, x.sum(0, 39));
        is(9, x.sum(4, 4));
        is(0, x.sum(0, 3));
        is(0, x.sum(5, 39));
        x.write(0, 10, 1, 3, 2);
        is(18, x.sum(4, 10));
        x.write(0, 38, 1, 3, 2);
        is(0, x.sum(38, 38));
        fails(NO_INDEX, () -> x.sum(-1, 40));
        fails(NO_INDEX, () -> x.sum(0, 40));
        fails(NO_INDEX, () -> x.sum(40, 0));
        fails(BAD, () -> x.sum(1, 0));
        LedTables y = with("B=1000*a;D=9000*a;a=a;keep a;");
        y.insert(0);
        to(y, 2);
        y.bite(1);
        y.write(0, 0, 1, 1, -1000000);
        y.write(0, 0, 1, 3, 1000000);
        is(4000000, y.sum(0, 0));
        LedTables z = with("D=a*1000*1000*1000;d=D;");
        z.insert(0);
        to(z, 2);
        z.bite(1);
        z.write(0, 0, 1, 3, 1000000);
        is(7000000, z.sum(0, 0));
    }

    private static void promise38() {
        LedTables x = oddTable();
        is(NONE, x.halves(0, 39));
        x.write(0, 26, 1, 0, 7);
        is(26, x.halves(0, 39));
        is(26, x.halves(26, 26));
        is(26, x.halves(26, 27));
        is(26, x.halves(25, 26));
        is(NONE, x.halves(27, 39));
        x.write(0, 8, 1, 0, 7);
        is(8, x.halves(0, 39));
        is(26, x.halves(9, 39));
        fails(NO_INDEX, () -> x.halves(0, 40));
        fails(NO_INDEX, () -> x.halves(-1, 0));
        fails(NO_INDEX, () -> x.halves(40, 39));
        fails(BAD, () -> x.halves(39, 38));
        LedTables y = with("A=a;keep a;");
        for (int key = 0; key < 4; key++) {
            y.insert(key);
        }
        to(y, 2);
        y.bite(4);
        y.write(0, 0, 1, 0, 5);
        y.write(0, 1, 1, 0, -5);
        y.write(0, 3, 1, 0, 2);
        // the odd rows of the lower half cancel one another out
        is(3, y.halves(0, 3));
        is(NONE, y.halves(0, 1));
        is(0, y.halves(0, 0));
        is(1, y.halves(1, 3));
    }

    private static void promise39() {
        LedTables x = with("A=a;a=A+1;keep a;law A<9;");
        x.insert(0);
        is(false, x.mend(0));
        to(x, 2);
        x.bite(1);
        is(false, x.mend(0));
        x.write(2, 0, 1, 0, 9);
        is(0, x.row(0, 5));
        is(1, x.row(0, 1));
        is(true, x.mend(0));
        is(10, x.read(0, 0, 1, 0));
        is(10, x.row(0, 5));
        is(1, x.row(0, 1));
        is(2, x.row(0, 3));
        is(false, x.mend(0));
        x.tick(1);
        x.write(2, 0, 1, 0, 8);
        is(0, x.row(0, 1));
        is(true, x.mend(0));
        is(9, x.read(0, 0, 1, 0));
        is(0, x.row(0, 1));
        fails(NO_INDEX, () -> x.mend(-1));
        fails(NO_INDEX, () -> x.mend(40));
        fails(NO_SUCH, () -> x.mend(1));
    }

    private static void promise40() {
        LedTables x = with("A=a;keep b;law A<5;a=A+1;");
        x.change();
        x.change();
        x.program();
        for (int key = 0; key < 7; key++) {
            x.insert(key);
        }
        x.write(0, 2, 0, 0, 5);
        to(x, 2);
        x.feed(0, 0, 0, 0, 0);
        x.bite(5);
        x.tick(9);
        x.write(0, 0, 1, 0, 2);
        x.write(0, 1, 1, 0, 7);
        x.delete(3);
        int[] due = {2, 9, 6, 2, 3, 0, 1, 1, 2, 4, 2, 1, 20};
        for (int what = 0; what <= 12; what++) {
            is(due[what], x.count(what));
        }
        is(NONE, x.count(-1));
        is(NONE, x.count(13));
        is(NONE, x.count(Integer.MIN_VALUE));
        x.delete(2);
        is(2, x.bite(40));
        x.mend(0);
        x.write(0, 1, 0, 0, 0);
        to(x, 4);
        x.tick(11);
        to(x, 5);
        is(5, x.count(5));
        is(0, x.count(4));
    }

    public static void main(String[] args) throws ReflectiveOperationException {
        for (java.lang.reflect.Method method : PromisesTest.class.getDeclaredMethods()) {
            if (method.getName().matches("promise[0-9]+[A-Za-z]*")) {
                promise = Integer.parseInt(method.getName().replaceAll("[^0-9]", ""));
                method.invoke(null);
            }
        }
        System.out.println(checked + " answers, " + wrong + " not as due");
        if (wrong > 0 || checked == 0) {
            System.exit(1);
        }
    }
}
