/** The document's sentences on texts, faults, values and the calls for a lens (promises 1 to 6): edge by edge. */
public final class LensEdgesTest extends Edges {
    // ---- section 1: the grammar ----

    @Says("in the old form LETTERS a to d, in the new one A to D, each an int.")
    static void lettersAreInts() {
        LedTables x = new LedTables();
        for (int letter = 0; letter < 4; letter++) {
            is(MIN, x.see(MIN, MIN, MIN, MIN, letter));
            is(MAX, x.see(MAX, MAX, MAX, MAX, letter));
            is(MIN, x.put(MIN, MIN, MIN, MIN, 0, letter));
            is(MAX, x.put(MAX, MAX, MAX, MAX, 0, letter));
        }
        LedTables y = with("keep a;keep b;keep c;keep d;");
        for (int letter = 0; letter < 4; letter++) {
            is(MIN, y.put(0, 0, 0, 0, MIN, letter));
            is(MAX, y.put(0, 0, 0, 0, MAX, letter));
        }
    }

    @Says("A LENS is a text of up to 400 bytes")
    static void textOf400Bytes() {
        String text = "A=" + "a+".repeat(198) + "a;";
        is(400, text.length());
        LedTables x = with(text);
        is(199, x.see(1, 0, 0, 0, 0));
        faulty(1, 399, text.substring(0, 399));
        reads(0, "");
    }

    @Says("{ CLAUSE \";\" }")
    static void clausesEndWithSemicolons() {
        reads(0, "");
        reads(1, "A=1;");
        reads(2, "A=1;B=2;");
        faulty(1, 3, "A=1");
        faulty(1, 0, ";");
        faulty(1, 4, "A=1;;");
        faulty(1, 4, "A=1 B=2;");
        faulty(1, 3, "A=1,");
        faulty(1, 6, "keep a");
        faulty(1, 7, "law 1<2");
    }

    @Says("CLAUSE: a NEW LETTER \"=\" E")
    static void newLetterClause() {
        LedTables x = with("A=1;B=2;C=3;D=4;");
        for (int letter = 0; letter < 4; letter++) {
            is(letter + 1, x.see(0, 0, 0, 0, letter));
        }
        faulty(1, 0, "E=1;");
        faulty(1, 0, "@=1;");
        faulty(1, 0, "Z=1;");
        faulty(1, 1, "A:1;");
        faulty(1, 2, "A==1;");
        faulty(1, 2, "A=;");
        faulty(1, 1, "A;");
    }

    @Says("or an OLD LETTER \"=\" E")
    static void oldLetterClause() {
        LedTables x = with("a=1;b=2;c=3;d=4;");
        for (int letter = 0; letter < 4; letter++) {
            is(letter + 1, x.put(0, 0, 0, 0, 0, letter));
        }
        faulty(1, 0, "e=1;");
        faulty(1, 0, "`=1;");
        faulty(1, 0, "z=1;");
        faulty(1, 1, "a<1;");
        faulty(1, 2, "a=;");
    }

    @Says("or \"keep\" and an OLD LETTER")
    static void keepClause() {
        for (int letter = 0; letter < 4; letter++) {
            LedTables x = with("keep " + (char) ('a' + letter) + ";");
            for (int other = 0; other < 4; other++) {
                is(other == letter ? 9 : 0, x.put(0, 0, 0, 0, 9, other));
            }
        }
        faulty(1, 5, "keep A;");
        faulty(1, 5, "keep D;");
        faulty(1, 5, "keep e;");
        faulty(1, 5, "keep `;");
        faulty(1, 5, "keep 1;");
        faulty(1, 4, "keep;");
        faulty(1, 7, "keep a b;");
        faulty(1, 6, "keep a=1;");
        faulty(1, 5, "keep keep a;");
    }

    @Says("or \"law\" C")
    static void lawClause() {
        reads(1, "law 1<2;");
        faulty(1, 3, "law;");
        faulty(1, 5, "law 1;");
        faulty(1, 5, "law a;");
        faulty(1, 7, "law 1<2=1;");
        faulty(1, 4, "law law 1<2;");
    }

    @Says("E: T { + or - T }")
    static void sums() {
        is(7, valueOf("7"));
        is(5, valueOf("10-3-2"));
        is(9, valueOf("10-3+2"));
        is(11, valueOf("10+3-2"));
        is(0, valueOf("a-a", MIN));
        faulty(1, 4, "A=1+;");
        faulty(1, 4, "A=1-;");
        faulty(1, 2, "A=+1;");
        faulty(1, 2, "A=-1;");
        faulty(1, 4, "A=1--1;");
        faulty(1, 4, "A=1+-1;");
    }

    @Says("T: U { * or / U }")
    static void products() {
        is(2, valueOf("100/10/5"));
        is(6, valueOf("7/2*2"));
        is(3, valueOf("2*7/4"));
        is(7, valueOf("1+2*3"));
        is(7, valueOf("2*3+1"));
        is(-5, valueOf("1-2*3"));
        is(8, valueOf("10-4/2"));
        faulty(1, 4, "A=1*;");
        faulty(1, 4, "A=1/;");
        faulty(1, 2, "A=*1;");
        faulty(1, 2, "A=/1;");
        faulty(1, 4, "A=1*-1;");
    }

    @Says("U: N (0 to 9,999; digits, as many as stand there)")
    static void numbers() {
        is(0, valueOf("0"));
        is(9999, valueOf("9999"));
        faulty(2, 2, "A=10000;");
        is(0, valueOf("0".repeat(397)));
        is(9999, valueOf("0".repeat(393) + "9999"));
        faulty(2, 2, "A=" + "0".repeat(392) + "10000;");
        is(1234, valueOf("1234"));
        is(5678, valueOf("5678"));
        is(90, valueOf("90"));
        faulty(1, 2, "A=:;");
        faulty(1, 3, "A=1:;");
        faulty(1, 3, "A=1.5;");
        faulty(1, 3, "A=1a;");
    }

    @Says("a LETTER, \"(\" E \")\"")
    static void lettersAndParentheses() {
        for (int letter = 0; letter < 4; letter++) {
            is(letter + 5, valueOf("" + (char) ('a' + letter), 5, 6, 7, 8));
            is(letter + 5, with("a=" + (char) ('A' + letter) + ";").put(5, 6, 7, 8, 0, 0));
        }
        faulty(1, 2, "A=e;");
        faulty(1, 2, "a=E;");
        is(9, valueOf("(1+2)*3"));
        is(8, valueOf("10-(4-2)"));
        faulty(1, 3, "A=();");
        faulty(1, 4, "A=(1;");
        faulty(1, 3, "A=1);");
        faulty(1, 4, "A=(1,2);");
        faulty(1, 4, "A=(1];");
        faulty(1, 2, "A=[1];");
        faulty(1, 4, "A=(1<2);");
    }

    @Says("\"least\" or \"most\" \"(\" E \",\" E \")\"")
    static void leastAndMost() {
        is(1, valueOf("least(1,2)"));
        is(1, valueOf("least(2,1)"));
        is(2, valueOf("most(1,2)"));
        is(2, valueOf("most(2,1)"));
        is(3, valueOf("least(3,3)+most(3,3)-3"));
        is(MIN, valueOf("least(a,b)", MIN, MAX));
        is(MAX, valueOf("most(a,b)", MIN, MAX));
        is(-1, valueOf("least(a,b)", -1, 0));
        is(0, valueOf("most(a,b)", -1, 0));
        faulty(1, 9, "A=least(1);");
        faulty(1, 10, "A=most(1,2,3);");
        faulty(1, 8, "A=least 1;");
        faulty(1, 8, "A=least(,1);");
        faulty(1, 9, "A=most(1,);");
        faulty(1, 7, "A=least;");
        faulty(1, 10, "A=most(1,2;");
    }

    @Says("or \"if\" \"(\" C \",\" E \",\" E \")\"")
    static void ifs() {
        is(3, valueOf("if(1<2,3,4)"));
        is(4, valueOf("if(2<1,3,4)"));
        is(13, valueOf("10+if(1<2,3,4)"));
        is(6, valueOf("if(1<2,3,4)*2"));
        is(5, valueOf("if(1<2,if(2<1,4,5),6)"));
        is(6, valueOf("if(2<1,4,if(2<1,5,6))"));
        faulty(1, 10, "A=if(1<2,3);");
        faulty(1, 6, "A=if(1,2,3);");
        faulty(1, 12, "A=if(1<2,3,4,5);");
        faulty(1, 4, "A=if;");
        faulty(1, 9, "A=if(1<2,,4);");
        faulty(1, 11, "A=if(1<2,3,);");
        faulty(1, 5, "A=if(,3,4);");
        faulty(1, 12, "A=if(1<2,3,4;");
        faulty(1, 4, "A=if[1<2,3,4];");
    }

    @Says("C: P { \"or\" P }. P: B { \"and\" B }.")
    static void orsAndAnds() {
        for (int bits = 0; bits < 8; bits++) {
            int a = bits & 1;
            int b = bits >> 1 & 1;
            int c = bits >> 2;
            is(a + b + c > 0, holds("a=1 or b=1 or c=1", a, b, c));
            is(a * b * c > 0, holds("a=1 and b=1 and c=1", a, b, c));
            is(a + b * c > 0, holds("a=1 or b=1 and c=1", a, b, c));
            is(a * b + c > 0, holds("a=1 and b=1 or c=1", a, b, c));
            is((a + b) * c > 0, holds("[a=1 or b=1] and c=1", a, b, c));
        }
        faulty(1, 10, "law 1<2 or;");
        faulty(1, 11, "law 1<2 and;");
        faulty(1, 4, "law or 1<2;");
        faulty(1, 4, "law and 1<2;");
        faulty(1, 11, "law 1<2 or and 1<2;");
        faulty(1, 8, "law 1<2 not 1<2;");
        faulty(1, 8, "law 1<2 1<2;");
    }

    @Says("B: \"not\" B, \"[\" C \"]\", or E R E")
    static void nots() {
        is(false, holds("not 1<2"));
        is(true, holds("not not 1<2"));
        is(false, holds("not not not 1<2"));
        is(false, holds("not a=1 and b=1", 0, 0));
        is(true, holds("not a=1 or b=1", 0, 0));
        is(true, holds("not a=1 or b=1", 1, 1));
        is(true, holds("not[a=1 and b=1]", 0, 0));
        is(false, holds("not[a=1 or b=1]", 0, 1));
        is(true, holds("[[1<2]]"));
        is(true, holds("1+1<2+1"));
        is(true, holds("(1)<(2)"));
        faulty(1, 7, "law not;");
        faulty(1, 5, "law [];");
        faulty(1, 8, "law [1<2;");
        faulty(1, 7, "law 1<2];");
        faulty(1, 8, "law [1<2);");
        faulty(1, 6, "law (1<2);");
        faulty(1, 9, "law [1<2]<3;");
        faulty(1, 6, "law [1]<2;");
    }

    @Says("R: <, > or =.")
    static void relations() {
        int[] values = {MIN, MIN + 1, -1, 0, 1, MAX - 1, MAX};
        LedTables x = with("A=if(a<b,1,0);B=if(a>b,1,0);C=if(a=b,1,0);");
        for (int a : values) {
            for (int b : values) {
                is(a < b ? 1 : 0, x.see(a, b, 0, 0, 0));
                is(a > b ? 1 : 0, x.see(a, b, 0, 0, 1));
                is(a == b ? 1 : 0, x.see(a, b, 0, 0, 2));
            }
        }
        for (String r : new String[] {"<", ">", "="}) {
            for (int a = 1; a <= 3; a++) {
                boolean is = r.equals("<") ? a < 2 : r.equals(">") ? a > 2 : a == 2;
                is(is, holds("a" + r + "2", a));
                is(!is, holds("not a" + r + "2", a));
                is(is, holds("a" + r + "2 and 1<2 and 2>1 and 1=1", a));
                is(is, holds("a" + r + "2 or 2<1 or 1>2 or 1=2", a));
                is(is, holds("not not[a" + r + "2]", a));
            }
        }
        faulty(1, 6, "law 1<=2;");
        faulty(1, 6, "law 1==2;");
        faulty(1, 6, "law 1<>2;");
        faulty(1, 7, "law 1<2<3;");
        faulty(1, 5, "law 1!2;");
        faulty(1, 6, "law 1<;");
        faulty(1, 4, "law <1;");
    }

    @Says("In NEW LETTERS' E are OLD LETTERS alone, in the others all.")
    static void newLettersStandInOthersAlone() {
        reads(1, "A=a+b+c+d;");
        for (char letter = 'A'; letter <= 'D'; letter++) {
            faulty(1, 2, "A=" + letter + ";");
            faulty(1, 2, "D=" + letter + ";");
            reads(1, "a=" + letter + "+a;");
            reads(1, "law " + letter + "<a;");
        }
        faulty(1, 6, "a=A;B=A;");
        faulty(1, 12, "law A<1;B=b+A;");
        reads(4, "B=b;a=A;C=c;law A<1;");
        reads(2, "A=a;keep b;");
        is(12, with("a=A+a;keep a;").put(5, 0, 0, 0, 7, 0));
    }

    @Says("A LETTER stands alone (no letter at once behind it)")
    static void lettersStandAlone() {
        for (char behind : "aAbdDeEzZ".toCharArray()) {
            faulty(1, 0, "A" + behind + "=1;");
            faulty(1, 0, "a" + behind + "=1;");
            faulty(1, 2, "A=a" + behind + ";");
            faulty(1, 2, "a=A" + behind + ";");
            faulty(1, 5, "keep a" + behind + ";");
            faulty(1, 4, "law A" + behind + "<1;");
        }
        for (char behind : "@[`{19_".toCharArray()) {
            faulty(1, 3, "A=a" + behind + ";");
            faulty(1, 1, "A" + behind + "=1;");
        }
        faulty(1, 3, "A=a" + (char) 193 + ";");
        faulty(1, 4, "A=a b;");
        faulty(1, 6, "law 1<aor 1<2;");
        faulty(1, 7, "a=if(1<Aor 1<2,1,2);");
        reads(2, "A=a*b;a=A;");
    }

    @Says("WORDS: small letters, as many as stand there")
    static void wordsAreAllThatStandsThere() {
        faulty(1, 0, "lawa<1;");
        faulty(1, 0, "keepa;");
        faulty(1, 0, "keeps a;");
        faulty(1, 0, "kee a;");
        faulty(1, 0, "la 1<2;");
        faulty(1, 0, "LAW 1<2;");
        faulty(1, 0, "Keep a;");
        faulty(1, 2, "A=leas(1,2);");
        faulty(1, 2, "A=leastt(1,2);");
        faulty(1, 2, "A=mosta(1,2);");
        faulty(1, 2, "A=iff(1<2,1,2);");
        faulty(1, 2, "A=i(1<2,1,2);");
        faulty(1, 4, "law nota<1;");
        faulty(1, 4, "law nott 1<2;");
        faulty(1, 8, "law 1<2 ora<2;");
        faulty(1, 8, "law 1<2 anda<2;");
        faulty(1, 8, "law 1<2 an 1<2;");
        faulty(1, 8, "law 1<2 o 1<2;");
        faulty(1, 8, "law 1<2 Or 1<2;");
        reads(1, "lawA<1;");
        reads(1, "law notA<1orA<2andA<3;");
        reads(1, "law1<2;");
        reads(1, "law not1<2or1<2and1<2;");
        reads(1, "law[1<2]or[1<2]and not[1<2];");
        faulty(1, 4, "keepA;");
    }

    @Says("blanks (32) may stand ahead of all these, and at the end.")
    static void blanks() {
        reads(0, " ");
        reads(0, " ".repeat(400));
        reads(3, "  A  =  (  a  +  1  )  ;  keep  b  ;  law  [  not  a  <  1  ]  or  if  (  1  <  2  ,  3  ,  4  )  >  0"
                + "  and  least  (  1  ,  2  )  =  most  (  1  ,  1  )  *  2  /  2  -  0  ;  ");
        reads(1, "A=1;   ");
        faulty(1, 4, "A=1 0;");
        faulty(1, 0, "ke ep a;");
        faulty(1, 2, "A=le ast(1,2);");
        faulty(1, 8, "law 1<2 o r 1<2;");
        int[] others = {0, 9, 10, 11, 12, 13, 31, 33, 127, 160, 255};
        for (int other : others) {
            faulty(1, 0, (char) other + "A=1;");
            faulty(1, 3, "A=1" + (char) other + ";");
            faulty(1, 4, "A=1;" + (char) other);
        }
    }

    @Says("At most 16 CLAUSES")
    static void sixteenClauses() {
        reads(16, "A=1;".repeat(16));
        faulty(3, 64, "A=1;".repeat(17));
        reads(16, "keep a;law 1<2;".repeat(8));
        faulty(3, 120, "keep a;law 1<2;".repeat(8) + "a=1;");
        LedTables x = with("law A<1;".repeat(15) + "law B<1;");
        x.box(0, 0, 0);
        is(0, x.wrong());
        is(16, tell(x, "law 1<2;".repeat(15) + "law 2<1;"));
        is(1, x.wrong());
        is(16, x.count(9));
    }

    @Says("of a LETTER the last one counts (keep and \"=\" are no matter to one another).")
    static void lastClauseOfALetterCounts() {
        is(2, with("A=1;A=2;").see(0, 0, 0, 0, 0));
        is(3, with("A=1;B=9;A=2;A=3;").see(0, 0, 0, 0, 0));
        is(2, with("a=1;a=2;").put(0, 0, 0, 0, 0, 0));
        is(7, with("a=A;keep a;").put(7, 0, 0, 0, 5, 0));
        is(7, with("keep a;a=A;").put(7, 0, 0, 0, 5, 0));
        is(12, with("a=A+a;keep a;").put(7, 0, 0, 0, 5, 0));
        is(12, with("keep a;a=A+a;").put(7, 0, 0, 0, 5, 0));
        is(5, with("keep a;keep a;").put(7, 0, 0, 0, 5, 0));
        is(7, with("A=1;a=A;").put(7, 0, 0, 0, 5, 0));
        is(2, with("A=1;A=2;").count(9));
        is(1, with("law 2<1;law 1<2;").wrong());
    }

    // ---- section 1: faults ----

    @Says("FAULTS, the first from the left")
    static void firstFaultFromTheLeft() {
        faulty(1, 2, "A=?;B=10000;");
        faulty(2, 2, "B=10000;A=?;");
        faulty(3, 8, "A=(((((((10000?");
        faulty(2, 8, "A=((((((10000(");
        faulty(1, 0, "?" + "A=1;".repeat(17));
        faulty(2, 2, "A=10000;" + "A=1;".repeat(17));
        faulty(3, 64, "A=1;".repeat(16) + "A=10000;?");
        faulty(1, 62, "A=1;".repeat(15) + "A=;A=10000;");
    }

    @Says("at its first byte")
    static void atItsFirstByte() {
        faulty(2, 4, "A=  123456;");
        faulty(1, 4, "A=  leasts(1,2);");
        faulty(1, 8, "law 1<2 andor 1<2;");
        faulty(1, 2, "  keeper a;");
        faulty(3, 66, "A=1;".repeat(16) + "  keep a;");
        faulty(3, 11, "A=((((((   (1");
        faulty(3, 29, "law not not not not not not  not 1<2;");
    }

    @Says("1 what can't stand there (at the length, if the text ends too early")
    static void textsThatEndTooEarly() {
        String text = "A=least(a,12) ;keep b;law not[A<1 or b>2]and if(a=1,A,b)=most(3,(4))*5-6/7;";
        java.util.BitSet inWords = new java.util.BitSet();
        for (java.util.regex.Matcher m = java.util.regex.Pattern.compile("[a-z]{2,}").matcher(text); m.find();) {
            inWords.set(m.start() + 1, m.end());
        }
        for (int n = 0; n <= text.length(); n++) {
            boolean cut = inWords.get(n);
            int start = cut ? inWords.previousClearBit(n) : n;
            String before = text.substring(0, n).trim();
            if (before.isEmpty() || before.endsWith(";")) {
                reads((int) before.chars().filter(c -> c == ';').count(), text.substring(0, n));
            } else {
                faulty(1, start, text.substring(0, n));
                if (!cut) {
                    faulty(1, n + 3, text.substring(0, n) + "   ");
                }
            }
        }
        faulty(1, 400, "A=" + "1+".repeat(199));
    }

    @Says("also a NEW LETTER in a NEW LETTER's E)")
    static void newLetterInANewLettersE() {
        faulty(1, 2, "A=B;");
        faulty(1, 4, "A=a+A;");
        faulty(1, 3, "A=(B);");
        faulty(1, 8, "A=least(B,1);");
        faulty(1, 9, "A=most(1,B);");
        faulty(1, 5, "A=if(B<1,1,2);");
        faulty(1, 7, "A=if(1<B,1,2);");
        faulty(1, 9, "A=if(1<2,B,2);");
        faulty(1, 11, "A=if(1<2,1,B);");
        faulty(1, 10, "A=if(not [B<1],1,2);");
        faulty(1, 2, "A=E;");
    }

    @Says("2 an N above 9,999")
    static void numbersAbove9999() {
        reads(1, "A=9999;");
        for (String n : new String[] {"10000", "99999", "010000", "65536", "2147483647", "2147483648", "4294967296",
            "4294967301", "18446744073709551617", "9".repeat(390)}) {
            faulty(2, 2, "A=" + n + ";");
            faulty(2, 2, "a=" + n + ";");
        }
        faulty(2, 6, "law 1<10000;");
        faulty(2, 4, "law 10000<1;");
        faulty(2, 2, "A=10000");
        faulty(2, 2, "A=10000x");
        // wherever an N can stand
        String[] places = {"A=#;", "a=1+#;", "a=1-#;", "a=1*#;", "a=1/#;", "A=(#);", "A=least(#,1);", "A=least(1,#);",
            "A=most(#,1);", "A=most(1,#);", "A=if(#<1,1,1);", "A=if(1<#,1,1);", "A=if(1<1,#,1);", "A=if(1<1,1,#);",
            "law #>1;", "law 1=#;", "law not #<1;", "law [#<1];", "law 1<1 or #<1;", "law 1<1 and #<1;",
            "law [1<1 or 1<#];", "keep a;law not[1<1 and(1)<(#)];"};
        for (String place : places) {
            faulty(2, place.indexOf('#'), place.replace("#", "10000"));
            reads(place.startsWith("keep") ? 2 : 1, place.replace("#", "9999"));
        }
    }

    @Says("3 a 17th CLAUSE")
    static void seventeenthClause() {
        for (String clause : new String[] {"A=1;", "d=1;", "keep a;", "law 1<2;", "A", "keep", "law", "A=?", "keep ?"}) {
            faulty(3, 64, "A=1;".repeat(16) + clause);
            faulty(3, 67, "A=1;".repeat(16) + "   " + clause);
        }
        reads(16, "A=1;".repeat(16) + "   ");
        LedTables x = new LedTables();
        is(-7, tell(x, "A=1;".repeat(17)));
        is(0, x.count(9));
    }

    @Says("or a 7th of ( [ and not that is open at one time")
    static void seventhThatIsOpen() {
        reads(1, "A=" + "(".repeat(6) + "1" + ")".repeat(6) + ";");
        faulty(3, 8, "A=" + "(".repeat(7) + "1" + ")".repeat(7) + ";");
        reads(1, "law " + "[".repeat(6) + "1<2" + "]".repeat(6) + ";");
        faulty(3, 10, "law " + "[".repeat(7) + "1<2" + "]".repeat(7) + ";");
        reads(1, "law " + "not ".repeat(6) + "1<2;");
        faulty(3, 28, "law " + "not ".repeat(7) + "1<2;");
        reads(1, "A=" + "least(1,".repeat(6) + "1" + ")".repeat(6) + ";");
        faulty(3, 2 + 6 * 8 + 5, "A=" + "least(1,".repeat(7) + "1" + ")".repeat(7) + ";");
        reads(1, "A=" + "most(".repeat(6) + "1" + ",1)".repeat(6) + ";");
        faulty(3, 2 + 6 * 5 + 4, "A=" + "most(".repeat(7) + "1" + ",1)".repeat(7) + ";");
        reads(1, "A=" + "if(1<2,1,".repeat(6) + "1" + ")".repeat(6) + ";");
        faulty(3, 2 + 6 * 9 + 2, "A=" + "if(1<2,1,".repeat(7) + "1" + ")".repeat(7) + ";");
        reads(1, "law not[not[not[1<2]]]or(1)<2;");
        faulty(3, 16, "law not[not[not[(1)<2]]];");
        faulty(3, 14, "law [not[not[((1)<2]]];");
        reads(1, "A=" + "(".repeat(6) + "1" + ")".repeat(6) + "+" + "(".repeat(6) + "1" + ")".repeat(6) + ";");
        reads(2, ("A=" + "(".repeat(6) + "1" + ")".repeat(6) + ";").repeat(2));
        faulty(3, 12, "A=((((((1)+((1");
    }

    @Says("(a not till its B ends)")
    static void notIsOpenTillItsBEnds() {
        reads(1, "law " + "not ".repeat(6) + "1<2 and " + "not ".repeat(6) + "1<2 or " + "not ".repeat(6) + "1<2;");
        reads(1, "law " + "not ".repeat(6) + "1<2 and [((1))<2];");
        faulty(3, 28, "law " + "not ".repeat(6) + "(1)<2;");
        faulty(3, 30, "law " + "not ".repeat(6) + "1<(2);");
        faulty(3, 32, "law " + "not ".repeat(6) + "1<2+(2);");
        faulty(3, 28, "law " + "not ".repeat(6) + "[1<2];");
        reads(1, "law " + "not ".repeat(5) + "[1<2 and 1<2] and " + "[".repeat(6) + "1<2" + "]".repeat(6) + ";");
        faulty(3, 33, "law " + "not ".repeat(5) + "[1<2 and [1<2]];");
        reads(2, ("law " + "not ".repeat(6) + "1<2;").repeat(2));
    }

    @Says("of one the least.")
    static void ofOneTheLeast() {
        String full = "A=1;".repeat(16);
        faulty(1, 64, full + "?");
        faulty(1, 64, full + ";");
        faulty(1, 64, full + "AB=1;");
        faulty(1, 64, full + "keeps a;");
        faulty(1, 64, full + "10000");
        faulty(1, 64, full + "(");
        faulty(1, 9, "A=((((((1(");
        faulty(1, 8, "A=(((((([");
        faulty(1, 8, "A=((((((not 1");
        faulty(1, 29, "law " + "not ".repeat(6) + "1(");
        faulty(1, 28, "law " + "not ".repeat(6) + "nota");
        faulty(1, 4, "A=1 10000;");
        faulty(1, 5, "keep 10000;");
        faulty(1, 0, "10000;");
    }

    // ---- section 1: values ----

    @Says("VALUES are whole numbers of 32 bits that wrap")
    static void valuesWrap() {
        is(MIN, valueOf("a+1", MAX));
        is(MAX, valueOf("a-1", MIN));
        is(MIN, valueOf("0-a", MIN));
        is(-2, valueOf("a*2", MAX));
        is(0, valueOf("a*a", 65536));
        is(-2147479015, valueOf("a*a", 46341));
        is(MIN, valueOf("a/b", MIN, -1));
        is(9999 * 9999 * 9999, valueOf("9999*9999*9999"));
        is(true, holds("a+1<a", MAX));
        is(MIN, with("a=A+1;").put(MAX, 0, 0, 0, 0, 0));
    }

    @Says("/ cuts, by 0 it is 0")
    static void division() {
        is(3, valueOf("a/b", 7, 2));
        is(-3, valueOf("a/b", -7, 2));
        is(-3, valueOf("a/b", 7, -2));
        is(3, valueOf("a/b", -7, -2));
        is(0, valueOf("a/b", 1, 2));
        is(0, valueOf("a/b", -1, 2));
        is(0, valueOf("a/b", 7, 0));
        is(0, valueOf("a/b", -7, 0));
        is(0, valueOf("a/b", 0, 0));
        is(0, valueOf("a/b", MIN, 0));
        is(3, valueOf("5/0+3"));
        is(4, valueOf("5/0/0+4"));
        is(0, valueOf("5/(a/b)", 1, 2));
        is(true, holds("1/0=0"));
    }

    @Says("all parts of or, and are worked; of if just the E that is asked for.")
    static void partsAreWorked() {
        is(true, holds("1<2 or 1/0=1"));
        is(false, holds("2<1 and 1/0=0"));
        is(7, valueOf("if(1<2 or 1<2,7,1/0)"));
        is(7, valueOf("if(2<1 and 1<2,1/0,7)"));
        is(24, valueOf("1+if(a=1 or b=1,2+if(c=1,3,4)*5,6)+1", 0, 1, 0));
        is(8, valueOf("1+if(a=1 or b=1,2+if(c=1,3,4)*5,6)+1", 0, 0, 0));
        is(19, valueOf("1+if(a=1 or b=1,2+if(c=1,3,4)*5,6)+1", 1, 0, 1));
    }

    /** The most values that can wait for others: seven levels, and or, and, <, + and * in each. */
    @Says("all parts of or, and are worked")
    static void deepestText() {
        String level = "if(1<0 or 1<2 and 0<0+1*";
        String text = "A=" + level.repeat(6) + "1" + ",1,0)".repeat(6) + ";";
        is(true, text.length() <= 400);
        is(1, with(text).see(0, 0, 0, 0, 0));
        String least = "A=" + "1+1*least(9,".repeat(6) + "0" + ")".repeat(6) + ";";
        is(6, with(least).see(0, 0, 0, 0, 0));
    }

    @Says("SEEN from OLD values are NEW ones: of each NEW LETTER its VALUE, 0 without CLAUSE.")
    static void seenWithoutClauseIsZero() {
        LedTables x = with("B=a+b;");
        is(0, x.see(5, 6, 7, 8, 0));
        is(11, x.see(5, 6, 7, 8, 1));
        is(0, x.see(5, 6, 7, 8, 2));
        is(0, x.see(5, 6, 7, 8, 3));
        is(1, tell(x, "C=c;"));
        is(0, x.see(5, 6, 7, 8, 1));
        is(7, x.see(5, 6, 7, 8, 2));
    }

    @Says("BESIDE is kept what OLD LETTERS told with keep had (0 for others).")
    static void besideOfOthersIsZero() {
        LedTables x = with("keep b;keep d;");
        x.insert(0);
        for (int letter = 0; letter < 4; letter++) {
            x.write(0, 0, 0, letter, 5 + letter);
        }
        is("0 6 0 8", rowOf(x, 0, 5, 8));
        to(x, 2);
        x.bite(1);
        is("0 6 0 8", rowOf(x, 0, 5, 8));
        LedTables y = new LedTables();
        y.insert(0);
        y.write(0, 0, 0, 0, 5);
        is("0 0 0 0", rowOf(y, 0, 5, 8));
    }

    @Says("of an OLD LETTER with \"=\" its VALUE (OLD LETTERS in it are what is BESIDE), else what is BESIDE.")
    static void putBackFromBeside() {
        LedTables x = with("a=A+b+c;keep b;d=a;");
        is(14, x.put(5, 6, 7, 8, 9, 0));
        is(9, x.put(5, 6, 7, 8, 9, 1));
        is(0, x.put(5, 6, 7, 8, 9, 2));
        // d is the a that is beside, not the one that was put back
        is(0, x.put(5, 6, 7, 8, 9, 3));
        is(3, tell(x, "keep a;a=A;d=a;"));
        is(9, x.put(5, 6, 7, 8, 9, 3));
        is(0, tell(x, ""));
        for (int letter = 0; letter < 4; letter++) {
            is(0, x.put(5, 6, 7, 8, 9, letter));
        }
    }

    @Says("A row is RIGHT, if all laws hold for it: for NEW values and, as OLD LETTERS, what is BESIDE.")
    static void rightIfAllLawsHold() {
        LedTables x = with("A=a+1;");
        x.box(0, 5, 5);
        is(0, x.wrong());
        is(3, tell(x, "A=a+1;law A=6;law 1<2;"));
        is(0, x.wrong());
        is(3, tell(x, "A=a+1;law A=6;law 2<1;"));
        is(1, x.wrong());
        is(3, tell(x, "law 2<1;A=a+1;law A=6;"));
        is(1, x.wrong());
        is(2, tell(x, "A=a+1;law a=0;"));
        is(0, x.wrong());
        is(3, tell(x, "A=a+1;law a=0;keep a;"));
        is(1, x.wrong());
        is(2, tell(x, "keep a;law a=5 and B=0;"));
        is(0, x.wrong());
    }

    @Says("Without a LENS: A = a, B = b, C = c, D = d and a = A and so on.")
    static void withoutALens() {
        LedTables x = new LedTables();
        x.box(0, -4, 3);
        x.box(3, -4, 3);
        for (int letter = 0; letter < 4; letter++) {
            is(5 + letter, x.see(5, 6, 7, 8, letter));
            is(5 + letter, x.put(5, 6, 7, 8, 9, letter));
        }
        is(0, x.unlike(0) + x.unlike(1) + x.lost() + x.wrong());
        is(-9, tell(x, "?"));
        is(5, x.see(5, 6, 7, 8, 0));
        is(0, tell(x, ""));
        is(0, x.see(5, 6, 7, 8, 0));
    }

    // ---- promises 1 to 6 ----

    @Says("The constants: `VOID = Integer.MIN_VALUE`: What can't be told by a number.")
    static void constants() {
        is(-1, LedTables.NONE);
        is(Integer.MIN_VALUE, LedTables.VOID);
    }

    @Says("No ROWS, no LENS; STAGE 0, TICK 0; no CHANGES, PROGRAMS.")
    static void newObject() {
        LedTables x = new LedTables();
        is("0 ".repeat(13), countsOf(x));
        for (int key = 0; key < 40; key++) {
            is(NONE, x.row(key, 0));
        }
        for (int letter = 0; letter < 4; letter++) {
            is(1, x.see(1, 1, 1, 1, letter));
        }
        is(NONE, x.fault());
        is(true, x.stands(0, 0));
        fails(BAD, () -> x.stands(1, 0));
        fails(BAD, () -> x.stands(0, 1));
        is(0, x.first(0));
        is(0, x.fall(0));
        is(10, x.quiet(10));
        LedTables other = with("A=1;");
        other.change();
        is(0, x.count(9));
        is(0, x.count(10));
    }

    @Says("Twenty bytes come on the TAPE, of each number the highest first")
    static void feedHighestFirst() {
        LedTables x = new LedTables();
        is(20, x.feed(0x413D313B, 0x423D323B, 0x433D333B, 0x443D343B, 0x6B656570));
        is(40, x.feed(0x20613B20, 0x61203D20, 0x413B2020, 0x20202020, 0x2020203B));
        is(6, x.lens(39));
        for (int letter = 0; letter < 4; letter++) {
            is(letter + 1, x.see(0, 0, 0, 0, letter));
        }
        is(7, x.put(7, 0, 0, 0, 0, 0));
        // bytes of 128 and above stand as they are, and lead no sign into the next ones
        is(20, x.feed(0x413D3180, -1, MIN, MAX, 0));
        is(-9, x.lens(20));
        is(3, x.fault());
        is(20, x.feed(0x413D31BB, 0, 0, 0, 0));
        is(-9, x.lens(4));
        is(3, x.fault());
    }

    @Says("how many there are; NONE, doing nothing, if there would be more than 400.")
    static void feedTillFull() {
        LedTables x = new LedTables();
        for (int many = 20; many <= 380; many += 20) {
            is(many, x.feed(0x20202020, 0x20202020, 0x20202020, 0x20202020, 0x20202020));
        }
        is(400, x.feed(0x20202020, 0x20202020, 0x20202020, 0x20202020, 0x413D613B));
        is(NONE, x.feed(0x423D623B, 0, 0, 0, 0));
        is(NONE, x.feed(0, 0, 0, 0, 0));
        is(400, x.count(12));
        is(1, x.lens(400));
        is(7, x.see(7, 0, 0, 0, 0));
        is(20, x.feed(0, 0, 0, 0, 0));
    }

    @Says("The first n bytes of the TAPE (empty then) are the LENS: how many CLAUSES")
    static void firstBytesOfTheTape() {
        LedTables x = new LedTables();
        feedText(x, "A=1;B=2;C=3;D=4;a=5;");
        is(2, x.lens(8));
        is(0, x.count(12));
        is(1, x.see(0, 0, 0, 0, 0));
        is(2, x.see(0, 0, 0, 0, 1));
        is(0, x.see(0, 0, 0, 0, 2));
        feedText(x, "A=1;B=2;C=3;D=4;a=5;");
        is(0, x.lens(0));
        is(0, x.count(12));
        is(0, x.see(0, 0, 0, 0, 0));
        feedText(x, "A=1;B=2;C=3;D=4;a=5;");
        is(5, x.lens(20));
        is(5, x.count(9));
        is(0, x.lens(0));
        is(0, x.count(9));
    }

    /** What stands on the tape behind the n bytes, or stood there once, is no part of the text. */
    @Says("The first n bytes of the TAPE")
    static void bytesBehindTheFirst() {
        String[] texts = {"A=1;", "A=10000;", "A=ab;", "keep a;", "law 1<2;", "A=1; B=2;", "A=1    ;",
            "A=1    ;"};
        int[] bytes = {3, 6, 3, 3, 2, 6, 3, 5};
        String[] due = {"-9 3", "-9 6", "-9 3", "-9 0", "-9 0", "-9 6", "-9 3", "-9 5"};
        for (int i = 0; i < texts.length; i++) {
            LedTables x = new LedTables();
            feedText(x, texts[i]);
            is(due[i], x.lens(bytes[i]) + " " + x.fault());
        }
        LedTables y = new LedTables();
        feedText(y, " ".repeat(20) + ";".repeat(20));
        is(0, y.lens(20));
        is(20, y.feed(0x20202020, 0x20202020, 0x20202020, 0x20202020, 0x20413D31));
        is(-9, y.lens(20));
        is(20, y.fault());
    }

    @Says("or the FAULT less 10 (the LENS stays).")
    static void faultLeavesTheLens() {
        LedTables x = with("A=a+1;keep b;law A<3;");
        is(-9, tell(x, "A=9;B=?;"));
        is(0, x.count(12));
        is(-8, tell(x, "A=9;B=10000;"));
        is(-7, tell(x, "A=9;B=(((((((1;"));
        is(3, x.count(9));
        is(6, x.see(5, 0, 0, 0, 0));
        is(5, x.put(0, 0, 0, 0, 5, 1));
        x.box(0, 5, 5);
        is(1, x.wrong());
        LedTables y = new LedTables();
        is(-9, tell(y, "A=9;B"));
        is(0, y.count(9));
        // nothing of a text with a fault is open in the next one, or counts as its clause
        is(-9, tell(y, "A=1;".repeat(15) + "A=((((((1"));
        is(-7, tell(y, "A=1;law [[[[[[[1<2"));
        is(1, tell(y, "A=((((((9))))));"));
        is(9, y.see(5, 0, 0, 0, 0));
        is(-8, tell(y, "law not not not not not 1<10000;"));
        is(16, tell(y, "A=1;".repeat(15) + "A=a+((((((0))))));"));
        is(5, y.see(5, 0, 0, 0, 0));
    }

    @Says("IllegalArgumentException: n is not 0 to the TAPE's bytes (it stays)")
    static void lensOfBytesThatAreNotThere() {
        LedTables x = with("A=a+1;");
        fails(BAD, () -> x.lens(1));
        fails(BAD, () -> x.lens(-1));
        feedText(x, "B=2;");
        fails(BAD, () -> x.lens(-1));
        fails(BAD, () -> x.lens(21));
        fails(BAD, () -> x.lens(400));
        fails(BAD, () -> x.lens(MIN));
        fails(BAD, () -> x.lens(MAX));
        is(20, x.count(12));
        is(1, x.count(9));
        is(6, x.see(5, 0, 0, 0, 0));
        is(1, x.lens(4));
        is(2, x.see(5, 0, 0, 0, 1));
    }

    @Says("IllegalStateException: the STAGE is not 0 or 1.")
    static void lensAtStages() {
        LedTables x = new LedTables();
        is(1, tell(x, "A=1;"));
        to(x, 1);
        is(1, tell(x, "A=2;"));
        feedText(x, "A=3;");
        for (int stage = 2; stage <= 5; stage++) {
            to(x, stage);
            fails(STATE, () -> x.lens(4));
            fails(STATE, () -> x.lens(0));
            fails(BAD, () -> x.lens(21));
            fails(BAD, () -> x.lens(-1));
            is(2, x.see(0, 0, 0, 0, 0));
        }
        LedTables y = new LedTables();
        to(y, 2);
        fails(STATE, () -> y.lens(0));
        y.back();
        is(0, y.lens(0));
        y.back();
        is(0, y.lens(0));
    }

    @Says("The place of the FAULT of the latest lens(); NONE without.")
    static void placeOfTheLatestFault() {
        LedTables x = new LedTables();
        is(NONE, x.fault());
        is(-9, tell(x, "?"));
        is(0, x.fault());
        is(0, x.fault());
        is(-9, tell(x, "A=1"));
        is(3, x.fault());
        is(1, tell(x, "A=1;"));
        is(NONE, x.fault());
        is(-9, tell(x, "A=" + "1+".repeat(199)));
        is(400, x.fault());
        is(0, x.lens(0));
        is(NONE, x.fault());
    }

    @Says({"A NEW LETTER (0 to 3) SEEN of OLD values.", "IllegalArgumentException: no such LETTER (so below)."})
    static void seeALetter() {
        LedTables x = with("A=a;B=b*2;C=c*3;D=d*4;");
        is(1, x.see(1, 1, 1, 1, 0));
        is(4, x.see(1, 1, 1, 1, 3));
        fails(BAD, () -> x.see(1, 1, 1, 1, -1));
        fails(BAD, () -> x.see(1, 1, 1, 1, 4));
        fails(BAD, () -> x.see(1, 1, 1, 1, MIN));
        fails(BAD, () -> x.see(1, 1, 1, 1, MAX));
    }

    @Says("An OLD LETTER PUT BACK from NEW values, LETTERS told with keep having that value BESIDE.")
    static void putALetter() {
        LedTables x = with("a=A+a+b;keep b;keep d;d=D*10+d;");
        is(1 + 9, x.put(1, 2, 3, 4, 9, 0));
        is(9, x.put(1, 2, 3, 4, 9, 1));
        is(0, x.put(1, 2, 3, 4, 9, 2));
        is(49, x.put(1, 2, 3, 4, 9, 3));
        is(MIN, x.put(1, 2, 3, 4, MIN, 1));
        fails(BAD, () -> x.put(1, 1, 1, 1, 1, -1));
        fails(BAD, () -> x.put(1, 1, 1, 1, 1, 4));
        fails(BAD, () -> x.put(1, 1, 1, 1, 1, MIN));
        fails(BAD, () -> x.put(1, 1, 1, 1, 1, MAX));
    }

    public static void main(String[] args) throws Exception {
        runAll(LensEdgesTest.class);
    }
}
