/** 'Terms' II, the ORDERS, sentence by sentence: their CLAUSES, their words, how they are run and what ends them. */
public final class TermsOrderTests {
    private static final Due due = new Due("TermsOrderTests");
    private static final int NONE = SoleReader.NONE;

    public static void main(String[] args) {
        clause();
        whatTheySay();
        times();
        words();
        whatCounts();
        clauseByClause();
        ifEachTime();
        done();
        latest();
        pairsAndWalls();
        cellToeHeel();
        oneThatCannotBe();
        asItWas();
        due.quotesAllOf(Document.section("ORDERS: CLAUSE", "III. To STEP"));
        due.close();
    }

    private static void clause() {
        due.sentence("ORDERS: CLAUSE: (\"step\" SUM | \"turn\" SUM \"to\" SUM | \"pause\" SUM | \"mend\" SUM \"at\" SUM |"
            + " \"pass\") [\"times\" TIMES] [\"if\" TEST].");
        for (String act : new String[] {"step 0", "turn 0 to 1", "pause 0", "mend 0 at 1", "pass"}) {
            int length = act.length();
            due.orderFault(act, NONE);
            due.orderFault(act + " times 1", NONE);
            due.orderFault(act + " if 1=2", NONE);
            due.orderFault(act + " times 2 if 1=2", NONE);
            due.orderFault(act + " if 1=2 times 2", length + 8);
            due.orderFault(act + " times 2 times 2", length + 9);
            due.orderFault(act + " if 1=2 if 1=2", length + 8);
            due.orderFault(act + " 1", length + 1);
            due.orderFault(act + " " + act, length + 1);
            due.orderFault(act + " if", length + 3);
        }
        due.orderFault("step", 4);
        due.orderFault("step times 2", 5);
        due.orderFault("turn 0", 6);
        due.orderFault("turn 0 1", 7);
        due.orderFault("turn 0 at 1", 7);
        due.orderFault("turn to 1", 5);
        due.orderFault("turn 0 to", 9);
        due.orderFault("turn 0 to 1 to 1", 12);
        due.orderFault("pause", 5);
        due.orderFault("pause if 1=1", 6);
        due.orderFault("mend 0", 6);
        due.orderFault("mend 0 to 1", 7);
        due.orderFault("mend 0 at", 9);
        due.orderFault("step 0 to 1", 7);
        due.orderFault("pass 0", 5);
        for (String law : new String[] {"wears 1", "leaves 1", "bars", "undo", "steps 0", "ste 0", "to", "if 1=1"}) {
            due.orderFault(law, 0);
        }
    }

    private static void whatTheySay() {
        due.sentence("(a PAIR; a PAIR, a side; a PAIR; a PAIR, a PART; a DAY.)");
        SoleReader x = new SoleReader();
        x.pair(0, 0, 0);
        x.pair(12, 0, 0);
        due.is("a STEP", Due.orders(x, "step 1"), 1);
        due.is("of PAIR 1", x.of(1, 0), 17);
        due.is("not of PAIR 0", x.of(0, 0), 0);
        due.is("a TURN", Due.orders(x, "turn 1 to 0"), 1);
        due.is("to the left", x.of(1, 1), 3);
        due.is("LEFT", x.of(1, 5), 1);
        due.is("two TURNS", Due.orders(x, "turn 1 to 1; turn 0 to 1"), 2);
        due.is("to the right", x.of(1, 1), 0);
        due.is("RIGHT", x.of(1, 6), 1);
        due.is("of PAIR 0, too", x.of(0, 1), 1);
        due.is("a PAUSE", Due.orders(x, "pause 1"), 1);
        due.is("HEEL", x.of(1, 4), 1);
        due.is("a mending", Due.orders(x, "mend 1 at 0 + 2 + 1"), 1);
        due.is("of RIGHT", x.of(1, 6), 0);
        due.is("LEFT is as it was", x.of(1, 5), 1);
        due.is("a DAY", Due.orders(x, "pass"), 1);
        due.is("DAY 1", x.count(12), 1);
        for (int want : new int[] {4, 3, 2, 1, 1, 1, 0}) {
            due.is("each can be undone", x.undo(), want);
        }
    }

    private static void times() {
        due.sentence("TIMES: a NUMBER 1 .. 20.");
        for (int n = 1; n <= 20; n++) {
            SoleReader x = new SoleReader();
            due.is("times " + n, Due.orders(x, "pass times " + n), n);
            due.is("DAY " + n, x.count(12), n);
        }
        for (String bad : new String[] {"0", "00", "21", "22", "1000", "1001", "4294967297", "x", "[2]", "day", "if", "-1"}) {
            due.orderFault("pass times " + bad, 11);
        }
        due.orderFault("pass times", 10);
        due.orderFault("pass times 020", NONE);
        due.orderFault("pass times 1+1", 12);
        due.orderFault("pass times 2 0", 13);
    }

    private static void words() {
        due.sentence("Words: \"day\" | \"done\" | \"latest\" | \"pairs\" | \"walls\" | \"cell\" P | \"toe\" P | \"heel\" P"
            + " (P: a NUMBER 0 .. 5).");
        for (String word : new String[] {"day", "done", "latest", "pairs", "walls"}) {
            due.orderFault("pass if " + word + "=" + word, NONE);
            due.orderFault("pass if " + word + " 0=0", 9 + word.length());
            due.orderFault("pass if " + word + "s=0", 8);
        }
        for (String word : new String[] {"cell", "toe", "heel"}) {
            int behind = 9 + word.length();
            for (int p = 0; p <= 5; p++) {
                due.orderFault("pass if " + word + " " + p + "=0", NONE);
            }
            due.orderFault("pass if " + word + "0=0", NONE);
            due.orderFault("pass if " + word + " 05=0", NONE);
            for (String bad : new String[] {"6", "06", "10", "1000", "4294967296", "day", "[0]", "=0", "+0", "-1"}) {
                due.orderFault("pass if " + word + " " + bad, behind);
            }
            due.orderFault("pass if " + word, behind - 1);
            due.orderFault("pass if " + word + " 0 0=0", behind + 2);
        }
        for (String other : new String[] {"pair", "load", "part", "worn", "x", "y", "way", "mood", "left 0", "right 0"}) {
            due.orderFault("pass if " + other + "=0", 8);
        }
    }

    private static void whatCounts() {
        due.sentence("P, TIMES aside, NUMBERS and words count as PARTS.");
        String fifty = "pass times 9 if toe 0" + "+toe 0".repeat(47) + "=1+1";
        due.orderFault(fifty, NONE);
        due.orderFault(fifty + "+1", fifty.length() + 1);
        due.orderFault(fifty + "+ toe 0", fifty.length() + 2);
        due.orderFault(fifty + ";pass times 9", NONE);
        due.orderFault(fifty + ";pass times 9;pass times 9", NONE);
        due.orderFault(fifty + ";step 0", fifty.length() + 6);
        String orders = "turn cell 0 to 0 times 3;".repeat(11) + "turn 0+0";
        due.orderFault(orders + "+0".repeat(25) + " to 0", NONE);
        due.orderFault(orders + "+0".repeat(26) + " to 0", orders.length() + 52 + 4);
    }

    private static void clauseByClause() {
        due.sentence("Run CLAUSE by CLAUSE, each as often as TIMES tell (once without);");
        SoleReader x = Due.at(0, 0);
        due.is("seven", Due.orders(x, "step 0 times 2; turn 0 to 1; step 0; pause 0 times 3"), 7);
        due.is("the CELL", x.of(0, 0), 11);
        due.is("the TOE", x.of(0, 3), 3);
        due.is("the HEEL", x.of(0, 4), 3);
        due.is("RIGHT", x.of(0, 6), 1);
        due.is("all the most", Due.orders(x, "pass times 20;".repeat(11) + "pass times 20"), 240);
        due.is("so many DAYS", x.count(12), 240);
        SoleReader y = Due.at(0, 0);
        due.is("in their order", Due.orders(y, "turn 0 to 1; step 0; step 0; turn 0 to 0; step 0"), 5);
        due.is("in their order", y.of(0, 0), 7);
        SoleReader z = Due.at(0, 0);
        due.is("in another one", Due.orders(z, "step 0; turn 0 to 1; step 0 times 3"), 5);
        due.is("in another one", z.of(0, 0), 8);
    }

    private static void ifEachTime() {
        due.sentence("each time its \"if\" is asked (not run, if it is not so or BROKEN), then its SUMS from the left.");
        SoleReader x = Due.at(0, 0);
        due.is("while it is so", Due.orders(x, "pass times 20 if day < 7"), 7);
        due.is("every other time", Due.orders(x, "pass times 5 if day % 2 = 1"), 1);
        due.is("not so", Due.orders(x, "pass if 1=2; step 9 if 1=2; turn 0 to 9 if 1=2; pass if day = 9"), 0);
        due.is("BROKEN", Due.orders(x, "pass if 1/0=0; pass if not 1/0=0; step 9 if 1/[day-8]=0"), 0);
        due.is("its SUMS are not asked then", Due.orders(x, "step 1/0 if 1=2; turn 0 to 1/0 if 1/0=1"), 0);
        due.is("none was REFUSED", x.status(), 0);
        due.is("none stopped", x.stopped(), NONE);
        due.is("DAY", x.count(12), 8);
        due.is("its SUMS are asked each time", Due.orders(x, "pause 0; pause heel 0 - 1; pause done - 2"), 3);
        due.is("HEEL", x.of(0, 4), 3);
        SoleReader y = Due.at(0, 0);
        due.is("each time", Due.orders(y, "turn 0 to day % 2 times 2; pass; turn 0 to day times 3"), 6);
        due.is("two to the left", y.of(0, 5), 2);
        due.is("three to the right", y.of(0, 6), 3);
        due.is("the WAY", y.of(0, 1), 1);
    }

    /** Whether a TEST is so behind some CLAUSES: then a DAY more goes by. */
    private static void so(String ahead, String test) {
        SoleReader x = new SoleReader();
        x.pair(12, 0, 0);
        x.pair(3, 1, 0);
        x.wall(8, 1);
        x.wall(24, 1);
        x.pause(1);
        x.pause(1);
        Due.orders(x, ahead + "pass if " + test);
        due.is(ahead + "pass if " + test, x.count(12), 1);
        x.undo();
        due.is("it was the latest", x.count(12), 0);
    }

    private static void done() {
        due.sentence("done: how many were run in this TEXT,");
        so("", "done = 0");
        so("pause 0;", "done = 1");
        so("pause 0 times 20; turn 0 to 1 times 5;", "done = 25");
        so("pause 0 times 9 if done < 4;", "done = 4");
        so("pause 0 if 1=2; pause 0 if 1/0=1;", "done = 0");
        SoleReader x = Due.at(0, 0);
        Due.orders(x, "pass times 3");
        due.is("in this TEXT", Due.orders(x, "pass if done = 0"), 1);
        Due.orders(x, "pass times 3; step 9");
        due.is("nothing of one that ended", Due.orders(x, "pass if done = 0"), 1);
    }

    private static void latest() {
        due.sentence("latest: what the latest step in it told (-1: none),");
        so("", "latest = 0-1");
        so("turn 0 to 1; pause 0;", "latest = 0-1");
        so("step 0;", "latest = 17");
        so("step 0 times 2;", "latest = 22");
        so("step 0; step 1;", "latest = 4");
        so("step 0; pause 1; turn 1 to 0; mend 1 at 1;", "latest = 17");
        so("step 0; step 1 if 1=2;", "latest = 17");
        SoleReader x = Due.at(5, 2);
        due.is("CELL 0", Due.orders(x, "step 0; pass if latest = 0"), 2);
        due.is("in this TEXT", Due.orders(x, "pass if latest = 0-1"), 1);
    }

    private static void pairsAndWalls() {
        due.sentence("pairs, walls: how many there are,");
        so("", "pairs = 2");
        so("", "walls = 2");
        SoleReader x = new SoleReader();
        due.is("none", Due.orders(x, "pass if pairs = 0; pass if walls = 0"), 2);
        for (int i = 0; i < 6; i++) {
            x.pair(0, 0, 0);
        }
        for (int cell = 0; cell < 25; cell++) {
            x.wall(cell, 1);
        }
        due.is("all", Due.orders(x, "pass if pairs = 6; pass if walls = 25"), 2);
    }

    private static void cellToeHeel() {
        due.sentence("cell, toe, heel: where a PAIR is, how its TOE, its HEEL is WORN; -1 without such a PAIR.");
        so("", "cell 0 = 12 and cell 1 = 3");
        so("", "toe 0 = 0 and toe 1 = 0");
        so("", "heel 0 = 0 and heel 1 = 2");
        so("step 0;", "cell 0 = 17 and toe 0 = 1 and toe 1 = 0");
        so("pause 0 times 3;", "heel 0 = 3 and toe 0 = 0");
        for (int p = 2; p <= 5; p++) {
            so("", "cell " + p + "=0-1 and toe " + p + "=0-1 and heel " + p + "=0-1");
        }
        SoleReader x = new SoleReader();
        for (int p = 0; p < 6; p++) {
            x.pair(4 * p, 0, 0);
        }
        for (int p = 0; p < 6; p++) {
            due.is("CELL of PAIR " + p, Due.orders(x, "pass if cell " + p + "=" + 4 * p), 1);
        }
        SoleReader y = new SoleReader();
        due.is("no PAIR at all", Due.orders(y, "pass if cell 0 = 0-1 and toe 0 = 0-1 and heel 0 = 0-1"), 1);
    }

    private static void ends(String text, int clause) {
        SoleReader x = Due.at(22, 0);
        due.is(text, Due.orders(x, text), -3);
        due.is("where it stopped: " + text, x.stopped(), clause);
        due.is("no FAULT: " + text, x.fault(), NONE);
    }

    private static void oneThatCannotBe() {
        due.sentence("One that can't be (a BROKEN SUM, as step(), turn(), pause(), mend(), pass() are REFUSED) ends it:");
        for (String sum : new String[] {"1/0", "1%0", "1000*1000*1000+1", "0-1000*1000*1000-1"}) {
            ends("step " + sum, 0);
            ends("turn " + sum + " to 0", 0);
            ends("turn 0 to " + sum, 0);
            ends("pause " + sum, 0);
            ends("mend " + sum + " at 0", 0);
            ends("pause 0; mend 0 at " + sum, 1);
        }
        for (String pair : new String[] {"1", "6", "1000", "0-1", "0-2", "1000*1000*1000"}) {
            ends("step " + pair, 0);
            ends("turn " + pair + " to 0", 0);
            ends("pause " + pair, 0);
            ends("mend " + pair + " at 0", 0);
        }
        for (String side : new String[] {"2", "0-1", "1000"}) {
            ends("turn 0 to " + side, 0);
        }
        for (String part : new String[] {"4", "0-1", "1000", "0", "1", "2", "3"}) {
            ends("mend 0 at " + part, 0);
        }
        ends("step 0", 0);
        ends("turn 0 to 1 times 2; step 0 times 20", 1);
        ends("pass times 20;".repeat(11) + "step 0", 11);
        ends("pass; pass if 1=2; step 9; step 8", 2);
        SoleReader x = new SoleReader();
        x.terms(0, 990);
        due.is("to DAY 999", Due.orders(x, "pass times 9"), 9);
        due.is("beyond it", Due.orders(x, "pass"), -3);
        x.terms(0, 990);
        due.is("beyond it", Due.orders(x, "pass times 10"), -3);
        due.is("DAY", x.count(12), 990);
    }

    private static void asItWas() {
        due.sentence("all is as it was ahead of it.");
        SoleReader x = Due.under("wears 2; leaves 1");
        x.pair(12, 0, 0);
        x.pair(0, 1, 0);
        x.turn(0, 1);
        x.pause(1);
        x.pass();
        due.is("the last can't be", Due.orders(x, "step 0; step 1; turn 0 to 0; pause 0; mend 0 at 3; mend 1 at 1;"
            + "pass times 9; pause 1 times 20; step 5"), -3);
        int[] first = {12, 1, 0, 0, 0, 0, 2};
        int[] second = {0, 1, 0, 0, 2, 0, 0};
        for (int what = 0; what < 7; what++) {
            due.is("PAIR 0, " + what, x.of(0, what), first[what]);
            due.is("PAIR 1, " + what, x.of(1, what), second[what]);
        }
        due.is("the DAY", x.count(12), 1);
        due.is("what can be undone", x.count(4), 3);
        for (int want : new int[] {4, 2, 1}) {
            due.is("what can be undone", x.undo(), want);
        }
        due.is("the WAY", x.of(0, 1), 0);
        due.is("no more", x.undo(), -3);
        due.is("but the TAPE is empty", x.count(5), 0);
        SoleReader y = Due.at(0, 0);
        for (int i = 0; i < 16; i++) {
            y.turn(0, i % 2);
        }
        due.is("one can't be", Due.orders(y, "pause 0 times 20; mend 0 at 0"), -3);
        due.is("sixteen are kept", y.count(4), 16);
        for (int i = 15; i >= 0; i--) {
            due.is("each of them", y.undo(), 1);
            due.is("LEFT", y.of(0, 5), (i + 1) / 2);
            due.is("RIGHT", y.of(0, 6), i / 2);
        }
    }
}
