/** 'Terms' II, sentence by sentence, up to the laws: TEXTS, TOKENS, what both languages share, FAULT, BROKEN. */
public final class TermsTwoTests {
    private static final Due due = new Due("TermsTwoTests");
    private static final int NONE = SoleReader.NONE;

    public static void main(String[] args) {
        tape();
        tokens();
        clauses();
        tests();
        plain();
        sums();
        parts();
        fiftyParts();
        eightBrackets();
        fault();
        beyond();
        divided();
        onlyIfItMatters();
        noneOfShoes();
        due.quotesAllOf(Document.section("TEXTS are on a TAPE", "LAWS, 6 at most"));
        due.close();
    }

    private static void tape() {
        due.sentence("TEXTS are on a TAPE of at most 400 bytes.");
        SoleReader x = new SoleReader();
        due.is("empty at first", x.count(5), 0);
        for (int i = 1; i <= 20; i++) {
            due.is("feed " + i, x.feed(0x20202020, 0x20202020, 0x20202020, 0x20202020, 0x20202031), 20 * i);
        }
        due.is("one more", x.feed(0, 0, 0, 0, 0), NONE);
        due.is("400 bytes", x.count(5), 400);
        due.lawFault("wears " + " ".repeat(393) + "1", NONE);
        due.lawFault("wears " + " ".repeat(392) + "10", NONE);
        due.lawFault("wears 1" + " ".repeat(392) + "1", 399);
        due.lawFault(" ".repeat(395) + "bars;", 400);
        due.lawFault(" ".repeat(396) + "bars", NONE);
        due.orderFault(" ".repeat(396) + "pass", NONE);
        due.orderFault(" ".repeat(394) + "pass;", 399);
        due.orderFault("pass;" + " ".repeat(395), 400);
        manyTexts();
    }

    /** Each TEXT is read from its own beginning, however many were read ahead of it. */
    private static void manyTexts() {
        SoleReader x = Due.at(10, 0);
        x.image(0);
        for (int i = 0; i < 16; i++) {
            due.is("orders " + i, Due.orders(x, "pass if 1" + "+1".repeat(40) + "=41; pass"), 2);
            due.is("law " + i, Due.law(x, "wears " + i % 9 + "+x".repeat(48)), 0);
            due.is("by it", x.compare(0, 0, 0), i % 9);
            due.is("a shorter one", Due.orders(x, "pass"), 1);
            x.back(0);
        }
    }

    private static void tokens() {
        due.sentence("TOKENS: longest rows of letters a .. z, of digits, single other bytes, any blanks (32) between.");
        for (String good : new String[] {"wears1", "wears 1", "  wears   1  ", "wears[1]", "wears 1if 1=1", "wears 1;bars",
            "wears1if1<2and3>2or1=1", "wears x+y", "wears x +y", "bars if not(1=1)", "bars if((1=1))"}) {
            due.lawFault(good, NONE);
        }
        due.lawFault("wearsx", 0);
        due.lawFault("wears xy", 6);
        due.lawFault("wears x y", 8);
        due.lawFault("wears 1 0", 8);
        due.lawFault("wears 10", NONE);
        due.lawFault("wearsa 1", 0);
        due.lawFault("wearsz 1", 0);
        due.lawFault("wears 0a", 7);
        due.lawFault("wears 9z", 7);
        due.lawFault("we ars 1", 0);
        due.lawFault("barsif 1=1", 0);
        due.lawFault("bars if 1=1or2=2", NONE);
        due.lawFault("bars if notx=1", 8);
        due.lawFault("bars if x=1 andy=1", 12);
        due.lawFault("wears ++1", 6);
        due.lawFault("bars if 1<>1", 10);
        due.lawFault("bars if 1==1", 10);
        // beside a .. z and 0 .. 9 on both sides, and what other languages take for a blank
        for (char other : new char[] {0, 9, 10, 13, 31, 33, '/' - 1, ':', '@', 'A', 'Z', '`', '{', 127, 160, 255}) {
            due.lawFault("wears" + other + "1", 5);
            due.lawFault("wears 1" + other, 7);
            due.lawFault(other + "wears 1", 0);
        }
        due.orderFault("pass" + (char) 9, 4);
        due.orderFault("Pass", 0);
        due.orderFault("passpass", 0);
        due.orderFault("stepcell 0", 0);
        due.orderFault("pause cell0-12times2if1=1", NONE);
    }

    private static void clauses() {
        due.sentence("Of both languages: CLAUSE {\";\" CLAUSE}, 12 at most (FAULT at the 13th's first TOKEN).");
        for (int n = 1; n <= 12; n++) {
            due.lawFault("bars;".repeat(n - 1) + "bars", NONE);
            due.orderFault("pass;".repeat(n - 1) + "pass", NONE);
            due.lawFault("bars;".repeat(n), 5 * n);
            due.lawFault("bars;".repeat(n) + ";", 5 * n);
            due.orderFault("pass;".repeat(n), 5 * n);
        }
        due.lawFault("bars;".repeat(12) + "bars", 60);
        due.lawFault("bars;".repeat(12) + "  bars", 62);
        due.lawFault("bars;".repeat(12) + "  ", 62);
        due.lawFault("bars;".repeat(13) + "bars", 60);
        due.lawFault("bars;".repeat(11) + "bars bars", 60);
        due.orderFault("pass;".repeat(12) + "pass", 60);
        due.orderFault("pass;".repeat(12) + " pass", 61);
        due.orderFault("pass;".repeat(20), 60);
        SoleReader x = new SoleReader();
        due.is("all twelve are run", Due.orders(x, "pass;".repeat(11) + "pass"), 12);
        due.is("none of thirteen is", Due.orders(x, "pass;".repeat(12) + "pass"), -6);
        due.is("so many DAYS", x.count(12), 12);
        SoleReader y = Due.at(0, 0, "wears 2;".repeat(11) + "wears 7");
        due.is("the twelfth is asked", y.asks(0, 0, 0), 7);
    }

    private static void tests() {
        due.sentence("TEST: BOTH {\"or\" BOTH}. BOTH: PLAIN {\"and\" PLAIN}.");
        String[] plain = {"1=2", "1=1"};
        for (int bits = 0; bits < 8; bits++) {
            boolean a = (bits & 4) != 0;
            boolean b = (bits & 2) != 0;
            boolean c = (bits & 1) != 0;
            String p = plain[bits >> 2];
            String q = plain[bits >> 1 & 1];
            String r = plain[bits & 1];
            due.test(p + " or " + q + " and " + r, a || b && c);
            due.test(p + " and " + q + " or " + r, a && b || c);
            due.test(p + " or " + q + " or " + r, a || b || c);
            due.test(p + " and " + q + " and " + r, a && b && c);
        }
        for (String no : new String[] {"1<1", "2<1", "1>1", "1>2", "1=2"}) {
            for (String yes : new String[] {"1<2", "2>1", "1=1"}) {
                due.test(no + " and " + yes, false);
                due.test(yes + " and " + no, false);
                due.test(no + " or " + yes, true);
                due.test(yes + " or " + no, true);
                due.test("not " + no + " and " + yes, true);
                due.test("not " + yes + " or " + no, false);
                due.test(no + " or " + no, false);
                due.test(yes + " and " + yes, true);
            }
        }
        due.lawFault("bars if 1=1 or", 14);
        due.lawFault("bars if 1=1 and", 15);
        due.lawFault("bars if or 1=1", 8);
        due.lawFault("bars if 1=1 and and 1=1", 16);
        due.lawFault("bars if 1=1 or and 1=1", 15);
        due.lawFault("bars if 1=1 1=1", 12);
        due.lawFault("bars if 1=1 xor 1=1", 12);
    }

    private static void plain() {
        due.sentence("PLAIN: \"not\" PLAIN | \"(\" TEST \")\" | SUM (\"<\" | \">\" | \"=\") SUM.");
        for (int a = 0; a < 3; a++) {
            for (int b = 0; b < 3; b++) {
                due.test(a + "<" + b, a < b);
                due.test(a + ">" + b, a > b);
                due.test(a + "=" + b, a == b);
                due.test("0-" + a + "<0-" + b, -a < -b);
            }
        }
        for (int n = 0; n <= 96; n++) {
            due.test("not ".repeat(n) + "1=1", n % 2 == 0);
        }
        due.test("not 1=2 and 1=2", false);
        due.test("not (1=2 and 1=2)", true);
        due.test("not 1=1 or 1=1", true);
        due.test("not (1=1 or 1=1)", false);
        due.test("(1=1 or 1=1) and 1=2", false);
        due.test("1=2 and (1=1 or 1=1)", false);
        due.test("not not (1=1)", true);
        due.test("not (not (1=1))", true);
        due.lawFault("bars if 1", 9);
        due.lawFault("bars if (1)=1", 10);
        due.lawFault("bars if [1=1]", 10);
        due.lawFault("bars if (1=1)=1", 13);
        due.lawFault("bars if 1=1=1", 11);
        due.lawFault("bars if ()", 9);
        due.lawFault("bars if (1=1", 12);
        due.lawFault("bars if 1=1)", 11);
        due.lawFault("bars if 1=not 1=1", 10);
        due.lawFault("bars if not", 11);
    }

    private static void sums() {
        due.sentence("SUM: TERM {(\"+\" | \"-\") TERM}. TERM: PART {(\"*\" | \"/\" | \"%\") PART}.");
        due.sum("9-4-3", 2);
        due.sum("9-4+3", 8);
        due.sum("9+4-3", 10);
        due.sum("2+3*4", 14);
        due.sum("3*4+2", 14);
        due.sum("20-3*4", 8);
        due.sum("20-12/4", 17);
        due.sum("20-12%5", 18);
        due.sum("40/4/2", 5);
        due.sum("40/4*2", 20);
        due.sum("4*40/2", 80);
        due.sum("40%7*3", 15);
        due.sum("40*3%7", 1);
        due.sum("40/7%3", 2);
        due.sum("40%7/2", 2);
        due.sum("1-2+3", 2);
        due.lawFault("wears 1+", 8);
        due.lawFault("wears 1*", 8);
        due.lawFault("wears +1", 6);
        due.lawFault("wears -1", 6);
        due.lawFault("wears 1*-1", 8);
        due.lawFault("wears 1+*1", 8);
    }

    private static void parts() {
        due.sentence("PART: NUMBER (to 1,000) | \"[\" SUM \"]\" | a word, as told.");
        due.sum("1000-901", 99);
        due.sum("1000/1000", 1);
        due.sum("0", 0);
        due.sum("000000000000000000000000000007", 7);
        due.sum("0001000-999", 1);
        for (String much : new String[] {"1001", "01001", "9999", "2147483648", "4294967297", "18446744073709551617",
            "10000000000000000000000000000000000000000"}) {
            due.lawFault("wears " + much, 6);
            due.orderFault("step " + much, 5);
            due.lawFault("wears 1 if 2 > " + much, 15);
        }
        due.sum("[1+2]*3", 9);
        due.sum("9-[4-3]", 8);
        due.sum("2*[3+4]", 14);
        due.sum("[[7]]", 7);
        due.lawFault("wears []", 7);
        due.lawFault("wears [1", 8);
        due.lawFault("wears 1]", 7);
        due.lawFault("wears (1)", 6);
        due.lawFault("wears [1)", 8);
        due.lawFault("wears [1=1]", 8);
        due.lawFault("wears word", 6);
        due.lawFault("wears pai", 6);
        due.lawFault("wears pairs", 6);
        due.lawFault("wears if", 6);
    }

    private static void fiftyParts() {
        due.sentence("50 PARTS that are NUMBERS and words (FAULT at the 51st),");
        String fifty = "wears 0" + "+x+1".repeat(24) + "+y";
        due.lawFault(fifty, NONE);
        due.lawFault(fifty + "+1", fifty.length() + 1);
        due.lawFault(fifty + "+x", fifty.length() + 1);
        due.lawFault(fifty + " + [x", fifty.length() + 4);
        due.lawFault(fifty + "+?", fifty.length() + 1);
        due.lawFault(fifty + ";bars", NONE);
        due.lawFault(fifty + ";wears 1", fifty.length() + 7);
        due.lawFault(fifty + ";bars if x=1", fifty.length() + 9);
        String spread = "wears 1;".repeat(11) + "wears 1" + "+1".repeat(38);
        due.lawFault(spread, NONE);
        due.lawFault(spread + "+1", spread.length() + 1);
        String inTests = "bars if 1=1" + " or 1=1".repeat(24);
        due.lawFault(inTests, NONE);
        due.lawFault(inTests + " or 1=1", inTests.length() + 4);
        String orders = "pass if day=1" + " or done=1".repeat(24);
        due.orderFault(orders, NONE);
        due.orderFault(orders + " or day=1", orders.length() + 4);
        due.sum("1+".repeat(49) + "1", 50);
        due.sum("1+[".repeat(8) + "1" + "+1".repeat(41) + "]".repeat(8), 50);
    }

    private static void eightBrackets() {
        due.sentence("8 brackets of both kinds within one another (FAULT at the 9th) at most.");
        for (int round = 0; round <= 8; round++) {
            int square = 8 - round;
            String open = "bars if " + "(".repeat(round) + "[".repeat(square);
            String close = "]".repeat(square) + "=1" + ")".repeat(round);
            due.lawFault(open + "1" + close, NONE);
            due.lawFault(open + "[1]" + close, open.length());
        }
        due.lawFault("bars if " + "(".repeat(9), 16);
        due.lawFault("wears " + "[".repeat(9), 14);
        due.lawFault("wears " + "[".repeat(8), 14);
        due.lawFault("wears " + "[".repeat(390), 14);
        due.lawFault("bars if " + "(".repeat(390), 16);
        due.lawFault("bars if " + "not (".repeat(78), 8 + 8 * 5 + 4);
        String eight = "[".repeat(8) + "1" + "]".repeat(8);
        due.lawFault("wears " + eight + "+" + eight, NONE);
        due.lawFault("wears " + eight + " if " + eight + "=" + eight, NONE);
        due.orderFault("turn " + eight + " to " + eight + " if " + eight + "=" + eight, NONE);
        due.orderFault("turn 0 to [" + eight + "]", 18);
        due.sum("[".repeat(8) + "42" + "]".repeat(8), 42);
        due.test("(".repeat(8) + "1=1" + ")".repeat(8), true);
    }

    private static void fault() {
        due.sentence("FAULT: the first TOKEN that can't go on there (the end's: the TEXT's length).");
        due.lawFault("", 0);
        due.lawFault(" ", 1);
        due.lawFault("?", 0);
        due.lawFault("wears", 5);
        due.lawFault("wears   ", 8);
        due.lawFault("wears 1 if", 10);
        due.lawFault("wears 1 if   ", 13);
        due.lawFault("wears 1; ", 9);
        due.lawFault("wears [x+", 9);
        due.lawFault("wears 1 ? ?", 8);
        due.lawFault("wears 1 +   ?", 12);
        due.lawFault("? wears", 0);
        due.lawFault("wears 1001 ?", 6);
        due.lawFault("wears x if y < way and load > 1 or word", 35);
        due.orderFault("", 0);
        due.orderFault("    ", 4);
        due.orderFault("turn 0", 6);
        due.orderFault("turn 0  ", 8);
        due.orderFault("turn 0 to", 9);
        due.orderFault("pass times", 10);
        due.orderFault("step cell", 9);
        due.orderFault("step cell  ", 11);
        due.orderFault("pass; pass; pas", 12);
        SoleReader x = new SoleReader();
        due.is("bytes behind end(n) are none of the TEXT's", Due.law(x, "bars"), 0);
        Due.put(x, "bars if x = 1");
        x.end(8);
        due.is("cut", x.law(), -6);
        due.is("the TEXT's length", x.fault(), 8);
    }

    private static final String MOST = "1000*1000*1000";

    /** A SUM told by how its LAW leaves it: 7 if it is BROKEN. */
    private static void broken(String sum, int value) {
        due.sum("7;leaves " + sum, value);
    }

    private static void beyond() {
        due.sentence("Beyond 1,000,000,000 either way,");
        broken(MOST, 99);
        broken(MOST + "/1000/1000/100", 10);
        broken(MOST + "+1", 7);
        broken(MOST + "+1-1", 7);
        broken("[" + MOST + "+1]*0", 7);
        broken(MOST + "-1+1-" + MOST + "+5", 5);
        broken("0-" + MOST + "+" + MOST + "+6", 6);
        broken("0-" + MOST + "-1+" + MOST + "+8", 7);
        broken("1000*1000*1000*1000*1000*1000*1000*1000", 7);
        broken("[0-1000]*1000*1000*1000*1000*1000*1000*1000", 7);
        // what would come round to a small number in 32 or in 64 bits
        broken("1000*1000*1000*4/1000/1000/1000", 7);
        broken("[512*1000*1000+348*1000+640]*[512*1000*1000]", 7);
        broken("[" + MOST + "]*[" + MOST + "]", 7);
        due.test(MOST + "=" + MOST, true);
        due.test(MOST + "+1>1", false);
        due.test("not " + MOST + "+1>1", false);
        due.test("1<" + MOST + "+1", false);
        due.test("0-" + MOST + "<0", true);
        due.test("0-" + MOST + "-1<0", false);
    }

    private static void divided() {
        due.sentence("or divided by 0 (/ cut towards 0, % what is left then), a SUM, a TEST is BROKEN");
        broken("5/0", 7);
        broken("5%0", 7);
        broken("0/0", 7);
        broken("0%0", 7);
        broken("5/[2-2]", 7);
        broken("5%[2-2]", 7);
        broken("0*[5/0]", 7);
        broken("1+5/0", 7);
        broken("0/5", 0);
        broken("0%5", 0);
        int[] numbers = {7, -7, 8, -8, 1, -1};
        for (int a : numbers) {
            for (int b : new int[] {1, -1, 2, -2, 3, -3, 8, -8}) {
                String told = "[" + (a < 0 ? "0-" + -a : "" + a) + "]";
                String by = "[" + (b < 0 ? "0-" + -b : "" + b) + "]";
                due.sum("50+" + told + "/" + by, 50 + a / b);
                due.sum("50+" + told + "%" + by, 50 + a % b);
            }
        }
        due.sum("50+[0-7]/2", 47);
        due.sum("50+[0-7]%2", 49);
        due.sum("50+7/[0-2]", 47);
        due.sum("50+7%[0-2]", 51);
        due.test("5/0=1", false);
        due.test("not 5/0=1", false);
        due.test("1=5%0", false);
        due.test("not (5/0=1)", false);
        due.test("not not 5/0=1", false);
    }

    private static void onlyIfItMatters() {
        due.sentence("(\"or\", \"and\" ask what stands behind only if it can still matter).");
        due.test("1=1 or 1/0=1", true);
        due.test("1=2 or 1/0=1", false);
        due.test("not (1=2 or 1/0=1)", false);
        due.test("not (1=2 and 1/0=1)", true);
        due.test("not (1=1 and 1/0=1)", false);
        due.test("1/0=1 or 1=1", false);
        due.test("not (1/0=1 and 1=2)", false);
        due.test("1=1 or 1=1 and 1/0=1", true);
        due.test("1=2 and 1/0=1 or 1=1", true);
        due.test("1=1 or 1/0=1 or 1/0=1", true);
        due.test("1=2 or 1=1 or 1/0=1", true);
        due.test("not (1=2 and 1/0=1 and 1/0=1)", true);
        due.test("not (1=1 and 1=2 and 1/0=1)", true);
        due.test("1=1 and 1/0=1 or 1=1", false);
        due.test("(1=1 or 1/0=1) and 1=1", true);
        due.test("(1=1 or 1/0=1) and 1/0=1", false);
        due.test("not (1=2 and 1/0=1) and 2=2", true);
        due.test("not (1=1 or 1/0=1) or 2=2", true);
        SoleReader x = new SoleReader();
        due.is("in ORDERS, too", Due.orders(x, "pass if 1=1 or 1/0=1; pass if 1=2 and 1/0=1 or 1=1"), 2);
        due.is("in ORDERS, too", Due.orders(x, "pass if 1=2 or 1/0=1; pass if 1/0=1 or 1=1"), 0);
    }

    private static void noneOfShoes() {
        due.sentence("(PARTS of TEXTS are none of shoes.)");
        // more of them than shoes have, and NUMBERS beyond theirs
        due.sum("4+5+6+7+8+9", 39);
        due.sum("part+part+part+part+part+part+1", 1);
    }
}
