/** 'Terms' II, the LAWS, sentence by sentence: their CLAUSES, their words, which CLAUSE tells. */
public final class TermsLawTests {
    private static final Due due = new Due("TermsLawTests");
    private static final int NONE = SoleReader.NONE;
    private static final String[] WORDS = {"pair", "load", "part", "worn", "x", "y", "way", "day", "mood"};

    public static void main(String[] args) {
        sixAtMost();
        inForce();
        clause();
        words();
        askedOfAPart();
        barsAskedOfACell();
        holds();
        wears();
        leaves();
        barred();
        due.quotesAllOf(Document.section("LAWS, 6 at most", "ORDERS: CLAUSE"));
        due.close();
    }

    private static void sixAtMost() {
        due.sentence("LAWS, 6 at most;");
        SoleReader x = Due.at(0, 0);
        for (int i = 0; i < 6; i++) {
            due.is("LAW " + i, Due.law(x, "wears " + (i + 2)), i);
            due.is("so many", x.count(3), i + 1);
            due.is("no LAW " + (i + 1), x.force(i + 1), -2);
        }
        due.is("the seventh", Due.law(x, "wears 9"), -5);
        due.is("six", x.count(3), 6);
        for (int i = 0; i < 6; i++) {
            due.is("LAW " + i + " is as it was", x.compare(i, 0, 0), i + 2);
        }
        due.is("no LAW 6", x.compare(6, 0, 0), NONE);
        due.is("no LAW 6", x.force(6), -2);
    }

    private static void inForce() {
        due.sentence("one is in FORCE (NONE at first: no CLAUSE):");
        SoleReader x = Due.at(12, 0);
        due.is("NONE at first", x.count(11), NONE);
        due.is("wears", x.asks(0, 0, 0), 1);
        due.is("leaves", x.asks(0, 0, 1), 0);
        due.is("bars not", x.of(0, 7), 17);
        Due.law(x, "wears 5; leaves 6; bars");
        due.is("a LAW that is not in FORCE", x.count(11), NONE);
        due.is("wears", x.asks(0, 0, 0), 1);
        due.is("leaves", x.asks(0, 0, 1), 0);
        due.is("bars not", x.of(0, 7), 17);
        x.force(0);
        due.is("in FORCE", x.count(11), 0);
        due.is("wears", x.asks(0, 0, 0), 5);
        due.is("leaves", x.asks(0, 0, 1), 6);
        due.is("bars", x.of(0, 7), NONE);
        Due.law(x, "wears 3");
        x.force(1);
        due.is("the other alone", x.asks(0, 0, 0), 3);
        due.is("the other alone", x.asks(0, 0, 1), 0);
        due.is("the other alone", x.of(0, 7), 17);
        x.force(NONE);
        due.is("none again", x.asks(0, 0, 0), 1);
    }

    private static void clause() {
        due.sentence("CLAUSE: ((\"wears\" | \"leaves\") SUM | \"bars\") [\"if\" TEST].");
        for (String good : new String[] {"wears 1", "leaves 1", "bars", "wears 1 if 1=1", "leaves 1 if 1=1", "bars if 1=1"}) {
            due.lawFault(good, NONE);
        }
        due.lawFault("wears", 5);
        due.lawFault("leaves", 6);
        due.lawFault("wears if 1=1", 6);
        due.lawFault("leaves if 1=1", 7);
        due.lawFault("bars 1", 5);
        due.lawFault("bars x if 1=1", 5);
        due.lawFault("bars if", 7);
        due.lawFault("bars if 1", 9);
        due.lawFault("bars if bars", 8);
        due.lawFault("wears 1 if 1=1 if 1=1", 15);
        due.lawFault("if 1=1 bars", 0);
        due.lawFault("wears 1 times 2", 8);
        due.lawFault("wears 1 to 2", 8);
        due.lawFault("wears wears", 6);
        due.lawFault("wears 1 leaves 1", 8);
        due.lawFault("bar", 0);
        due.lawFault("barss", 0);
        for (String order : new String[] {"step 0", "turn 0 to 1", "pause 0", "mend 0 at 0", "pass"}) {
            due.lawFault(order, 0);
        }
    }

    private static void words() {
        due.sentence("Words: \"pair\" | \"load\" | \"part\" | \"worn\" | \"x\" | \"y\" | \"way\" | \"day\" | \"mood\".");
        for (String word : WORDS) {
            due.lawFault("wears " + word, NONE);
            due.lawFault("leaves 2*" + word, NONE);
            due.lawFault("bars if " + word + "=" + word, NONE);
            due.lawFault("wears " + word + "s", 6);
            due.lawFault("wears " + word.substring(1), 6);
            due.lawFault("wears " + word + " 0", 7 + word.length());
        }
        for (String other : new String[] {"done", "latest", "pairs", "walls", "cell 0", "toe 0", "heel 0", "slips", "z", "if"}) {
            due.lawFault("wears " + other, 6);
        }
    }

    /** One PAIR, its number 1, of LOAD 6 in CELL 13 (x 3, y 2), that FACES 1, its LEFT WORN 8, on DAY 44, in MOOD 5. */
    private static SoleReader wornLeft(String law) {
        SoleReader x = new SoleReader();
        Due.law(x, "wears 8");
        Due.law(x, law);
        x.pair(0, 0, 0);
        x.pair(13, 2, 6);
        x.terms(0, 44);
        x.terms(2, 5);
        x.force(0);
        x.turn(1, 0);
        x.force(1);
        return x;
    }

    private static void askedOfAPart() {
        due.sentence("\"wears\", \"leaves\" are asked of a PAIR and a PART of it (worn: that PART's; x, y, way: where it is,"
            + " as it FACES),");
        int[] left = {1, 6, 2, 8, 3, 2, 1, 44, 5};
        int[] right = {1, 6, 3, 0, 3, 2, 1, 44, 5};
        int[] other = {0, 0, 2, 0, 0, 0, 0, 44, 5};
        for (int i = 0; i < WORDS.length; i++) {
            SoleReader x = wornLeft("leaves " + WORDS[i] + "; wears " + WORDS[i] + " % 10");
            due.is(WORDS[i] + " of LEFT", x.asks(1, 2, 1), left[i]);
            due.is(WORDS[i] + " of RIGHT", x.asks(1, 3, 1), right[i]);
            due.is(WORDS[i] + " of another PAIR's LEFT", x.asks(0, 2, 1), other[i]);
            due.is(WORDS[i] + " of LEFT, wears", x.asks(1, 2, 0), left[i] % 10);
            due.is(WORDS[i] + " of RIGHT, wears", x.asks(1, 3, 0), right[i] % 10);
        }
    }

    private static void barsAskedOfACell() {
        due.sentence("\"bars\" of a PAIR and a CELL to which it would STEP (x, y: of that; way: as it FACES; part, worn -1).");
        // PAIR 1 goes to CELL 14: x 4, y 2
        String[] so = {"1", "6", "0-1", "0-1", "4", "2", "1", "44", "5"};
        for (int i = 0; i < WORDS.length; i++) {
            due.is(WORDS[i] + " is " + so[i], wornLeft("bars if " + WORDS[i] + "=" + so[i]).of(1, 7), NONE);
            due.is(WORDS[i] + " is nothing else", wornLeft("bars if not " + WORDS[i] + "=" + so[i]).of(1, 7), 14);
        }
        for (int way = 0; way < 4; way++) {
            int to = new int[] {17, 13, 7, 11}[way];
            String law = "bars if x=" + to % 5 + " and y=" + to / 5 + " and way=" + way;
            due.is("WAY " + way, Due.at(12, way, law).of(0, 7), NONE);
            due.is("WAY " + way, Due.at(12, (way + 1) % 4, law).of(0, 7), new int[] {17, 13, 7, 11}[(way + 1) % 4]);
        }
    }

    private static void holds() {
        due.sentence("A CLAUSE HOLDS, if its \"if\" (if it has one) is so, and neither that nor its SUM is BROKEN.");
        due.sum("3;leaves 4", 4);
        due.sum("3;leaves 4 if 1=1", 4);
        due.sum("3;leaves 4 if 1=2", 3);
        due.sum("3;leaves 4 if 1/0=1", 3);
        due.sum("3;leaves 4 if not 1/0=1", 3);
        due.sum("3;leaves 1/0", 3);
        due.sum("3;leaves 1/0 if 1=1", 3);
        due.sum("3;leaves 1/0 if 1=2", 3);
        due.sum("3;leaves 1/0 if 1/0=1", 3);
        due.is("wears, BROKEN", Due.at(0, 0, "wears 3; wears 1/0; wears 1%0; wears 4 if 1/0=1").asks(0, 0, 0), 3);
        due.is("bars, BROKEN", Due.at(12, 0, "bars if 1/0=1; bars if 1=2").of(0, 7), 17);
        due.is("BROKEN for one PART alone", Due.at(0, 0, "wears 3; wears 8/part").asks(0, 0, 0), 3);
        due.is("BROKEN for one PART alone", Due.at(0, 0, "wears 3; wears 8/part").asks(0, 2, 0), 4);
    }

    private static void wears() {
        due.sentence("A PART WEARS by 0 .. 9 as the last \"wears\" that HOLDS tells (else the nearest), by 1 without;");
        for (int by = 0; by <= 9; by++) {
            SoleReader x = Due.at(0, 0, "wears " + by);
            due.is("by " + by, x.asks(0, 1, 0), by);
            due.is("by " + by, x.pause(0), by);
        }
        String[] far = {"10", "11", "99", "1000", "1000*1000*1000", "0-1", "0-9", "0-1000*1000*1000"};
        int[] nearest = {9, 9, 9, 9, 9, 0, 0, 0};
        for (int i = 0; i < far.length; i++) {
            SoleReader x = Due.at(0, 0, "wears " + far[i]);
            due.is("by " + far[i], x.asks(0, 1, 0), nearest[i]);
            due.is("by " + far[i], x.pause(0), nearest[i]);
        }
        due.is("the last", Due.at(0, 0, "wears 3; wears 4").asks(0, 0, 0), 4);
        due.is("the last, below 0", Due.at(0, 0, "wears 3; wears 0-4").asks(0, 0, 0), 0);
        due.is("the last that HOLDS", Due.at(0, 0, "wears 3; wears 4 if 1=2").asks(0, 0, 0), 3);
        due.is("others between", Due.at(0, 0, "wears 3; leaves 4; bars; leaves 5").asks(0, 0, 0), 3);
        due.is("none HOLDS", Due.at(0, 0, "wears 3 if 1=2").asks(0, 0, 0), 1);
        due.is("none at all", Due.at(0, 0, "leaves 4; bars").asks(0, 0, 0), 1);
        due.is("all BROKEN", Due.at(0, 0, "wears 1/0").asks(0, 0, 0), 1);
        due.is("no LAW", Due.at(0, 0).asks(0, 0, 0), 1);
    }

    private static void leaves() {
        due.sentence("mending LEAVES it WORN 0 .. 99, 0 without;");
        String[] sums = {"0", "1", "98", "99", "100", "1000", "1000*1000*1000", "0-1", "0-1000*1000*1000"};
        int[] want = {0, 1, 98, 99, 99, 99, 99, 0, 0};
        for (int i = 0; i < sums.length; i++) {
            SoleReader x = Due.at(0, 0, "leaves " + sums[i]);
            x.pause(0);
            due.is("leaves " + sums[i], x.asks(0, 1, 1), want[i]);
            due.is("how it was WORN", x.mend(0, 1), 1);
            due.is("leaves " + sums[i], x.of(0, 4), want[i]);
        }
        due.is("the last", Due.at(0, 0, "leaves 30; leaves 40").asks(0, 0, 1), 40);
        due.is("the last that HOLDS", Due.at(0, 0, "leaves 30; leaves 40 if 1=2").asks(0, 0, 1), 30);
        due.is("others between", Due.at(0, 0, "leaves 30; wears 4; bars; wears 5").asks(0, 0, 1), 30);
        due.is("none HOLDS", Due.at(0, 0, "leaves 30 if 1=2").asks(0, 0, 1), 0);
        due.is("none at all", Due.at(0, 0, "wears 4; bars").asks(0, 0, 1), 0);
        due.is("all BROKEN", Due.at(0, 0, "leaves 1/0").asks(0, 0, 1), 0);
        due.is("no LAW", Due.at(0, 0).asks(0, 0, 1), 0);
    }

    private static void barred() {
        due.sentence("a CELL is BARRED to it, if \"bars\" HOLDS.");
        String[] laws = {"bars", "bars; bars if 1=2", "bars if 1=2; bars", "bars if 1/0=1; bars", "bars; bars if 1/0=1",
            "bars if 1=2", "bars if 1/0=1", "wears 1", "bars if 1=2; bars if 2=3"};
        for (int i = 0; i < laws.length; i++) {
            SoleReader x = Due.at(12, 0, laws[i]);
            due.is(laws[i], x.of(0, 7), i < 5 ? NONE : 17);
            due.is(laws[i], x.step(0), i < 5 ? -3 : 17);
            due.is(laws[i], x.of(0, 3), i < 5 ? 0 : 1);
        }
        SoleReader x = Due.under("bars if load > 4");
        x.pair(12, 0, 4);
        x.pair(12, 0, 5);
        due.is("to one PAIR", x.step(1), -3);
        due.is("and not to another", x.step(0), 17);
    }
}
