/** Promises 12 to 15: LAWS, ORDERS, FAULT, where ORDERS stopped; and both languages. */
public final class TextTests {
    private static final Due due = new Due("TextTests");
    private static final int NONE = SoleReader.NONE;

    public static void main(String[] args) {
        goodLaws();
        lawFaults();
        limits();
        lawRoom();
        manyTexts();
        sums();
        broken();
        tests();
        whichClauseHolds();
        lawWords();
        bars();
        goodOrders();
        orderFaults();
        ordersRun();
        ordersStop();
        orderWords();
        faultStays();
        due.close();
    }

    private static void goodLaws() {
        String[] good = {"bars", "wears 1", "leaves 0", " wears  1 ", "wears1", "wears[1]", "bars;bars ; bars",
            "wears pair+load-part*worn/x%y", "wears way if day<mood", "bars if not not not 1=1",
            "bars if(1=1)and(2>1)or(3<1)", "leaves [[[[[[[[1]]]]]]]]", "bars if ((((([[[1]]]=1)))))",
            "wears 1000", "wears 0001000", "wears 00000000000000000000000001", "bars if 1=1 and 1=1 or 1=1",
            "wears 1if 1=1", "wears 1 if x=1or y=2and not(way=3)", "wears x if x = x"};
        for (String text : good) {
            due.lawFault(text, NONE);
        }
    }

    private static void lawFaults() {
        due.lawFault("", 0);
        due.lawFault("   ", 3);
        due.lawFault("wears", 5);
        due.lawFault("wears  ", 7);
        due.lawFault("wear 1", 0);
        due.lawFault("wearss 1", 0);
        due.lawFault("wearsz 1", 0);
        due.lawFault("wearsa 1", 0);
        due.lawFault("wears`1", 5);
        due.lawFault("wears{1", 5);
        due.lawFault("wears/1", 5);
        due.lawFault("wears:1", 5);
        due.lawFault("Wears 1", 0);
        due.lawFault("wEars 1", 0);
        due.lawFault("  step 1", 2);
        due.lawFault("wears 1001", 6);
        due.lawFault("wears 99999999999999999999", 6);
        due.lawFault("wears -1", 6);
        due.lawFault("wears 1 1", 8);
        due.lawFault("wears 1 +", 9);
        due.lawFault("wears 1 + * 2", 10);
        due.lawFault("wears (1)", 6);
        due.lawFault("wears [1", 8);
        due.lawFault("wears [1)", 8);
        due.lawFault("wears []", 7);
        due.lawFault("bars 1", 5);
        due.lawFault("bars if", 7);
        due.lawFault("bars if x", 9);
        due.lawFault("bars if x+1", 11);
        due.lawFault("bars if x = 1 = 1", 14);
        due.lawFault("bars if x = ", 12);
        due.lawFault("bars if (x) = 1", 10);
        due.lawFault("bars if [x = 1]", 11);
        due.lawFault("bars if (x = 1", 14);
        due.lawFault("bars if (x = 1]", 14);
        due.lawFault("bars if x = 1)", 13);
        due.lawFault("bars if not", 11);
        due.lawFault("bars if not x", 13);
        due.lawFault("bars if notnot x = 1", 8);
        due.lawFault("bars if x = 1 and", 17);
        due.lawFault("bars if x = 1 and or", 18);
        due.lawFault("bars if x = 1 not", 14);
        due.lawFault("bars if x = 1 if", 14);
        due.lawFault("bars if x <= 1", 11);
        due.lawFault("bars;", 5);
        due.lawFault(";bars", 0);
        due.lawFault("bars;;bars", 5);
        due.lawFault("bars bars", 5);
        due.lawFault("bars times 2", 5);
        due.lawFault("wears done", 6);
        due.lawFault("wears cell 1", 6);
        due.lawFault("wears toe", 6);
        due.lawFault("wears 1 if day = 1;wears x if", 29);
        due.lawFault("wears 1\t", 7);
        due.lawFault("wears\n1", 5);
        due.lawFault("wears \u00e9", 6);
        due.lawFault("wears 1\u0000", 7);
        due.lawFault("wears 1,", 7);
        due.lawFault("wears if", 6);
        due.lawFault("wears 12x", 8);
        due.lawFault("wears x12", 7);
        due.lawFault("wears worn worn", 11);
    }

    private static void limits() {
        String twelve = "bars" + Due.times(";bars", 11);
        due.lawFault(twelve, NONE);
        due.lawFault(twelve + ";", twelve.length() + 1);
        due.lawFault(twelve + "; ", twelve.length() + 2);
        due.lawFault(twelve + "; bars", twelve.length() + 2);
        due.lawFault(twelve + "; ?", twelve.length() + 2);
        String fifty = "wears 1" + Due.times("+x", 49);
        due.lawFault(fifty, NONE);
        due.lawFault(fifty + "+1", fifty.length() + 1);
        due.lawFault(fifty + "+[1]", fifty.length() + 2);
        due.lawFault(fifty + "+", fifty.length() + 1);
        due.lawFault(fifty + ";bars", NONE);
        due.lawFault(fifty + ";bars if 1=1", fifty.length() + 9);
        due.lawFault("wears [[[[[[[[1]]]]]]]]", NONE);
        due.lawFault("wears [[[[[[[[[1]]]]]]]]]", 14);
        due.lawFault("bars if ((((((((1=1))))))))", NONE);
        due.lawFault("bars if (((((((((1=1)))))))))", 16);
        due.lawFault("bars if (((([[[[1]]]]=1))))", NONE);
        due.lawFault("bars if (((([[[[[1]]]]]=1))))", 16);
        due.lawFault("bars if (1=1) and ((((((((1=1))))))))", NONE);
        String nots = "bars if " + Due.times("not ", 96) + "1=1";
        due.lawFault(nots, NONE);
        due.orderFault("step cell 0" + Due.times("+cell 0", 49), NONE);
        due.orderFault("pass if cell 0" + Due.times("+cell 0", 48) + "=1", NONE);
        due.orderFault("pass times 2;".repeat(2) + "pass if cell 0" + Due.times("+cell 0", 49) + "=1",
            26 + 14 + 7 * 49 + 1);
        due.orderFault("pass;".repeat(11) + "pass", NONE);
        due.orderFault("pass;".repeat(12) + "pass", 60);
        due.orderFault("turn 0 to [[[[[[[[1]]]]]]]]", NONE);
        due.orderFault("turn 0 to [[[[[[[[[1]]]]]]]]]", 18);
        due.orderFault("turn [[[[[[[[0]]]]]]]] to 1", NONE);
        String longest = "wears 1" + Due.times(" ", 393);
        due.lawFault(longest, NONE);
        due.lawFault("wears 1 " + Due.times(" ", 391) + "?", 399);
    }

    private static void lawRoom() {
        SoleReader x = new SoleReader();
        for (int i = 0; i < 6; i++) {
            due.is("law", Due.law(x, "wears " + i), i);
        }
        x.pass();
        Due.law(x, "wears");
        due.is("seventh", x.status(), -5);
        due.is("it was not read", x.fault(), NONE);
        due.is("the TAPE is empty", x.count(5), 0);
        due.is("seventh", Due.law(x, "wears 1"), -5);
        due.is("seventh, empty", x.law(), -5);
        due.is("count(9)", x.count(9), 3);
        due.is("count(3)", x.count(3), 6);
        due.is("it leaves what can be undone", x.count(4), 1);
        x.pair(0, 0, 0);
        for (int i = 0; i < 6; i++) {
            due.is("compare", x.compare(i, 0, 0), i);
        }
    }

    private static void manyTexts() {
        SoleReader x = new SoleReader();
        x.image(0);
        for (int i = 0; i < 18; i++) {
            due.is("law " + i, Due.law(x, "wears " + i % 9 + "+x".repeat(49)), 0);
            due.is("orders " + i, Due.orders(x, "pass if 1" + "+1".repeat(40) + "=41"), 1);
            due.is("laws", x.count(3), 1);
            x.pair(10, 0, 0);
            due.is("by it", x.compare(0, 0, 0), i % 9);
            x.back(0);
        }
    }

    private static void sums() {
        due.sum("1+2*3", 7);
        due.sum("[1+2]*3", 9);
        due.sum("10-3-2", 5);
        due.sum("10-[3-2]", 9);
        due.sum("2*3+4*5", 26);
        due.sum("2*3-4/2", 4);
        due.sum("100/7/2", 7);
        due.sum("100%7", 2);
        due.sum("100-7%4*3", 91);
        due.sum("50+[0-7]/2", 47);
        due.sum("50+[0-7]%2", 49);
        due.sum("50+7/[0-2]", 47);
        due.sum("50+7%[0-2]", 51);
        due.sum("1000", 99);
        due.sum("0-1", 0);
        due.sum("100", 99);
        due.sum("98+1", 99);
        due.sum("x*10+y", 32);
        due.sum("load+way", 5);
        due.sum("1-2+3*4%5/2+7", 7);
        due.sum("8/4*2", 4);
        due.sum("8%5*2", 6);
        due.sum("0/5+3", 3);
    }

    private static void broken() {
        due.sum("1000*1000*1000/1000/1000/1000", 1);
        due.sum("1000*1000*1000+1", 0);
        due.sum("1000*1000*1000+1-1000*1000*1000", 0);
        due.sum("[0-1000]*1000*1000+5+1000*1000*1000", 5);
        due.sum("[0-1000]*1000*1000-1+2", 0);
        due.sum("7;leaves 1000*1000*1000*2", 7);
        due.sum("7;leaves 1/0", 7);
        due.sum("7;leaves 1%0", 7);
        due.sum("7;leaves 1%[x-x]", 7);
        due.sum("7;leaves 8 if 1/0=1", 7);
        due.sum("7;leaves 8 if not 1/0=1", 7);
        due.sum("7;leaves 8 if 1=1 or 1/0=1", 8);
        due.sum("7;leaves 8 if 1=2 or 1/0=1", 7);
        due.sum("7;leaves 8 if 1/0=1 or 1=1", 7);
        due.sum("7;leaves 8 if 1=2 and 1/0=1 or 1=1", 8);
        due.sum("7;leaves 8 if 1=1 and 1/0=1 or 1=1", 7);
        due.sum("7;leaves 8 if not(1=2 and 1/0=1)", 8);
        due.sum("7;leaves 8 if 1=1 or 1=1 and 1/0=1", 8);
        due.sum("7;leaves 8 if (1=1 or 1/0=1) and 2=2", 8);
        due.sum("7;leaves 8 if 1=2 and 1/0=1 and 1/0=1 or 1=2 or 3=3 or 1/0=1", 8);
    }

    private static void tests() {
        due.test("1<2", true);
        due.test("2<2", false);
        due.test("3<2", false);
        due.test("3>2", true);
        due.test("2>2", false);
        due.test("2=2", true);
        due.test("1=2", false);
        due.test("1+1=4/2", true);
        due.test("not 1=2", true);
        due.test("not not 1=2", false);
        due.test("not not not 1=2", true);
        due.test("not (1=1 and 1=2)", true);
        due.test("not 1=1 or 1=1", true);
        due.test("not (1=1 or 1=1)", false);
        due.test("1=1 or 1=1 and 1=2", true);
        due.test("(1=1 or 1=1) and 1=2", false);
        due.test("1=2 and 1=1 or 1=1", true);
        due.test("1=2 and (1=1 or 1=1)", false);
        due.test("1=2 or 1=2 or 1=1", true);
        due.test("1=1 and 1=1 and 1=2", false);
        due.test("1=1 and not 1=2 and 3>2", true);
        due.test("0-1<0", true);
        due.test("[1+1]*2>[2]+1", true);
        due.test("not (not (1=1))", true);
        due.test("not (not (1=2))", false);
        due.test("not (not (1=1)) and 1=1", true);
        due.test("not (1=1) or not (1=1)", false);
        due.test("not (1=1) and 1=1 or 1=2", false);
        due.test("1=2 or not (not (1=1) or 1=1)", false);
    }

    private static void whichClauseHolds() {
        SoleReader x = Due.under("wears 2; wears 3 if part = 1; wears 4 if part = 1 and worn > 2; leaves 5;"
            + "wears 5 / worn if part = 3; leaves 6 if 1 = 2");
        x.pair(0, 0, 0);
        due.is("the first", x.asks(0, 0, 0), 2);
        due.is("the last that HOLDS", x.asks(0, 1, 0), 3);
        x.pause(0);
        due.is("the last that HOLDS", x.asks(0, 1, 0), 4);
        due.is("BROKEN", x.asks(0, 3, 0), 2);
        due.is("leaves", x.asks(0, 0, 1), 5);
        SoleReader y = Due.under("wears 12; wears 0 - 3 if part = 1; wears 9 if part = 2; wears 1/0 if part = 3");
        y.pair(0, 0, 0);
        due.is("9 at most", y.asks(0, 0, 0), 9);
        due.is("0 at least", y.asks(0, 1, 0), 0);
        due.is("9", y.asks(0, 2, 0), 9);
        due.is("12, as 9", y.asks(0, 3, 0), 9);
        SoleReader z = Due.under("leaves 4; bars; wears 5 if 1 = 2");
        z.pair(0, 0, 0);
        due.is("without one that HOLDS", z.asks(0, 0, 0), 1);
    }

    private static void lawWords() {
        String[] words = {"pair", "load", "part", "worn", "x", "y", "way", "day", "mood"};
        int[] want = {1, 6, 2, 8, 3, 2, 1, 44, 5};
        for (int i = 0; i < words.length; i++) {
            SoleReader x = new SoleReader();
            Due.law(x, "wears 8");
            Due.law(x, "leaves " + words[i]);
            x.pair(0, 0, 0);
            x.pair(13, 2, 6);
            x.terms(0, 44);
            x.terms(2, 5);
            x.force(0);
            x.turn(1, 0);
            x.force(1);
            due.is("leaves " + words[i], x.asks(1, 2, 1), want[i]);
        }
    }

    private static void bars() {
        barred("bars", true);
        barred("bars if x = 2 and y = 3", true);
        barred("bars if x = 2 and y = 2", false);
        barred("bars if way = 0", true);
        barred("bars if way = 1", false);
        barred("bars if part = 0 - 1 and worn = 0 - 1", true);
        barred("bars if part > 0 - 1", false);
        barred("bars if pair = 0 and load = 5", true);
        barred("bars if day = 3 and mood = 4", true);
        barred("bars if 1/0 = 1", false);
        barred("bars; bars if 1 = 2", true);
        barred("bars if 1 = 2; bars; wears 3", true);
        barred("wears 3; leaves 4", false);
    }

    private static void barred(String law, boolean want) {
        SoleReader x = Due.under(law);
        x.pair(12, 0, 5);
        x.terms(0, 3);
        x.terms(2, 4);
        due.is(law, x.of(0, 7), want ? NONE : 17);
        due.is(law, x.step(0), want ? -3 : 17);
    }

    private static void goodOrders() {
        String[] good = {"pass", "pass times 1", "pass times 20", "pass times 007", "step 0", "turn 0 to 1", "pause 0",
            "mend 0 at 1", "pass if 1 = 1", "pass times 2 if day < 9", "turn cell 0 - 12 to toe 0", "pass;pass;pass",
            "pause heel 1 + 1", "step 0 times 2 if done = 0 or latest > pairs + walls", "pause cell0-12",
            "turn[0]to[1]", "pass if cell 5 = 0 - 1", "pass if toe 05 = 0"};
        for (String text : good) {
            due.orderFault(text, NONE);
        }
    }

    private static void orderFaults() {
        due.orderFault("", 0);
        due.orderFault("  ", 2);
        due.orderFault("wears 1", 0);
        due.orderFault("pass 1", 5);
        due.orderFault("step", 4);
        due.orderFault("step 0 1", 7);
        due.orderFault("turn 0", 6);
        due.orderFault("turn 0 at 1", 7);
        due.orderFault("turn 0 to", 9);
        due.orderFault("mend 0 to 1", 7);
        due.orderFault("mend 0 at", 9);
        due.orderFault("mend to 1", 5);
        due.orderFault("pause", 5);
        due.orderFault("pass times", 10);
        due.orderFault("pass times 0", 11);
        due.orderFault("pass times 21", 11);
        due.orderFault("pass times x", 11);
        due.orderFault("pass times [2]", 11);
        due.orderFault("pass times 1+1", 12);
        due.orderFault("pass times 2 times 2", 13);
        due.orderFault("pass if 1=1 times 2", 12);
        due.orderFault("step x", 5);
        due.orderFault("step pair", 5);
        due.orderFault("step cell", 9);
        due.orderFault("step cell 6", 10);
        due.orderFault("step cell day", 10);
        due.orderFault("step toe [1]", 9);
        due.orderFault("step heel 0 0", 12);
        due.orderFault("pass;", 5);
        due.orderFault("pass;step 0;turn", 16);
        due.orderFault("pass if done", 12);
    }

    private static void ordersRun() {
        SoleReader x = new SoleReader();
        x.pair(0, 0, 0);
        due.is("orders", Due.orders(x, "step 0 times 3; turn 0 to 1; step 0; pause 0 times 2; pass; mend 0 at 1"), 9);
        due.is("cell", x.of(0, 0), 16);
        due.is("toe", x.of(0, 3), 4);
        due.is("heel", x.of(0, 4), 0);
        due.is("right", x.of(0, 6), 1);
        due.is("day", x.count(12), 1);
        due.is("stopped", x.stopped(), NONE);
        due.is("undo", x.count(4), 9);
        due.is("the latest", x.undo(), 3);
        due.is("heel", x.of(0, 4), 2);
        due.is("none is run", Due.orders(x, "step 9 if 1 = 2; step 0 if 1/0 = 0; pass times 5 if day > 900"), 0);
        due.is("status", x.status(), 0);
        due.is("while it is so", Due.orders(x, "pass times 20 if day < 7"), 6);
        due.is("day", x.count(12), 7);
        due.is("undo", x.count(4), 14);
        SoleReader y = new SoleReader();
        y.pair(5, 2, 0);
        due.is("to CELL 0, to WAY 0", Due.orders(y, "step 0; turn 0 to 1; turn 0 to 1; pass if latest = 0"), 4);
        due.is("day", y.count(12), 1);
    }

    private static void ordersStop() {
        stops("pass; step 1", 1);
        stops("pass times 3; turn 0 to 2", 1);
        stops("turn 0 to 0 - 1", 0);
        stops("turn 1 to 1", 0);
        stops("pause 1", 0);
        stops("pause 0 - 1", 0);
        stops("mend 0 at 4", 0);
        stops("mend 0 at 0", 0);
        stops("pause 0; mend 0 at 1 times 2", 1);
        stops("step 0 times 3", 0);
        stops("step 1/0", 0);
        stops("turn 0 to 1/0", 0);
        stops("turn 1/0 to 0", 0);
        stops("pass if 1 = 2; pass; pass; step 5; pass", 3);
        stops("pass times 20;".repeat(11) + "step 6 if day = 220", 11);
        stops("step 1000*1000*1000", 0);
    }

    private static void stops(String text, int at) {
        SoleReader x = new SoleReader();
        x.pair(12, 0, 0);
        x.turn(0, 0);
        x.turn(0, 1);
        due.is(text, Due.orders(x, text), -3);
        due.is("stopped of " + text, x.stopped(), at);
        due.is("fault", x.fault(), NONE);
        due.is("status", x.status(), -3);
        due.is("day", x.count(12), 0);
        due.is("cell", x.of(0, 0), 12);
        due.is("toe", x.of(0, 3), 0);
        due.is("heel", x.of(0, 4), 0);
        due.is("way", x.of(0, 1), 0);
        due.is("undo", x.count(4), 2);
        due.is("undo", x.undo(), 1);
        due.is("way", x.of(0, 1), 3);
        due.is("count(8)", x.count(8), 1);
        due.is("count(7)", x.count(7), 0);
        due.is("count(6)", x.count(6), 0);
        Due.orders(x, "nonsense");
        due.is("stopped by the latest orders()", x.stopped(), NONE);
    }

    /** Whether a TEST of ORDERS is so behind some clauses: then one DAY more goes by. */
    private static void order(String ahead, String test, boolean want) {
        SoleReader x = new SoleReader();
        x.pair(12, 0, 0);
        x.pair(3, 1, 0);
        x.wall(8, 1);
        x.wall(24, 1);
        x.pause(1);
        x.terms(0, 500);
        Due.orders(x, ahead + "pass if " + test);
        due.is(ahead + "pass if " + test, x.count(12) == 501 ? 1 : 0, want ? 1 : 0);
    }

    private static void orderWords() {
        order("", "day = 500", true);
        order("", "done = 0 and latest = 0 - 1", true);
        order("pause 0 times 3;", "done = 3 and latest = 0 - 1", true);
        order("step 0; step 0;", "done = 2 and latest = 22", true);
        order("step 0; step 1;", "latest = 4", true);
        order("step 0; pause 1;", "latest = 17", true);
        order("pause 0 times 4 if done < 2;", "done = 2", true);
        order("", "pairs = 2 and walls = 2", true);
        order("", "cell 0 = 12 and cell 1 = 3", true);
        order("", "cell 2 = 0 - 1 and cell 5 = 0 - 1", true);
        order("", "toe 2 = 0 - 1 and heel 3 = 0 - 1", true);
        order("", "heel 1 = 1 and heel 0 = 0", true);
        order("step 0;", "toe 0 = 1 and toe 1 = 0 and cell 0 = 17", true);
        order("", "day = 499", false);
        SoleReader x = new SoleReader();
        x.pair(0, 0, 0);
        Due.orders(x, "step 0");
        due.is("latest is of this TEXT", Due.orders(x, "pass if latest = 0 - 1 and done = 0"), 1);
    }

    private static void faultStays() {
        SoleReader x = new SoleReader();
        Due.law(x, "bars 5");
        due.is("fault", x.fault(), 5);
        x.pass();
        x.row();
        due.is("fault", x.fault(), 5);
        Due.orders(x, "pass");
        due.is("fault", x.fault(), NONE);
        Due.orders(x, "pass pass");
        due.is("fault", x.fault(), 5);
        Due.law(x, "bars");
        due.is("fault", x.fault(), NONE);
        x.orders();
        due.is("fault of nothing", x.fault(), 0);
    }
}
