/** 'Terms' IV, sentence by sentence: YEARS, ROWS, IMAGES; and the constants. */
public final class TermsFourTests {
    private static final Due due = new Due("TermsFourTests");
    private static final int NONE = SoleReader.NONE;

    public static void main(String[] args) {
        yearsOnPaper();
        seeds();
        draw();
        eachTime();
        whatTheDrawsDo();
        row();
        brads();
        imagesKeep();
        back();
        constants();
        due.quotesAllOf(Document.section("YEARS with a SEED", "## Promise 1:"));
        due.close();
    }

    private static void yearsOnPaper() {
        due.sentence("YEARS with a SEED, n 1 .. 60, on paper:");
        SoleReader x = Due.at(12, 0);
        x.pass();
        for (int n : new int[] {0, -1, 61, 1000, Integer.MIN_VALUE, Integer.MAX_VALUE}) {
            due.is("n " + n, x.years(5, n), -1);
        }
        due.is("none so far", x.drawn(0, 0), NONE);
        for (int n = 1; n <= 60; n++) {
            due.holds("n " + n, x.years(5, n) >= 0);
        }
        due.is("the CELL is as it was", x.of(0, 0), 12);
        due.is("the WAY is as it was", x.of(0, 1), 0);
        for (int part = 0; part < 4; part++) {
            due.is("not WORN", x.of(0, 3 + part), 0);
        }
        due.is("the DAY is as it was", x.count(12), 1);
        due.is("what can be undone is as it was", x.count(4), 1);
    }

    private static void seeds() {
        due.sentence("s is the SEED (0 .. 1,000,000);");
        SoleReader x = Due.at(12, 0);
        for (int seed : new int[] {-1, 1_000_001, Integer.MIN_VALUE, Integer.MAX_VALUE}) {
            due.is("SEED " + seed, x.years(seed, 1), -1);
        }
        for (int seed : new int[] {0, 1, 999_999, 1_000_000}) {
            due.holds("SEED " + seed, x.years(seed, 1) >= 0);
            drawnAsTold(seed, 60, 3, 0, "bars if x = 2 and y = 4");
        }
    }

    /** Lives the YEARS by hand, with step(), turn(), pause() and pass() of another object, and holds them against drawn(). */
    private static void drawnAsTold(int seed, int n, int pairs, int day, String law) {
        SoleReader x = Due.under(law);
        SoleReader hand = Due.under(law);
        for (int i = 0; i < pairs; i++) {
            x.pair(5 * i + 2, i % 4, i);
            hand.pair(5 * i + 2, i % 4, i);
        }
        x.terms(0, day);
        hand.terms(0, day);
        long s = seed;
        int steps = 0;
        for (int i = 0; i < n && hand.count(12) < 999; i++) {
            s = (s * 1103 + 12345) % 1_000_003;
            int pair = (int) (s % pairs);
            s = (s * 1103 + 12345) % 1_000_003;
            int act = (int) (s % 4);
            s = (s * 1103 + 12345) % 1_000_003;
            int side = (int) (s % 2);
            if (act < 2) {
                steps += hand.step(pair) >= 0 ? 1 : 0;
            } else if (act == 2) {
                hand.turn(pair, side);
            } else {
                hand.pause(pair);
            }
            hand.pass();
        }
        String told = "SEED " + seed + ", n " + n + ", DAY " + day + ": ";
        due.is(told + "STEPS", x.years(seed, n), steps);
        for (int pair = 0; pair < pairs; pair++) {
            due.is(told + "CELL", x.drawn(pair, 0), hand.of(pair, 0));
            due.is(told + "WAY", x.drawn(pair, 1), hand.of(pair, 1));
            for (int part = 0; part < 4; part++) {
                due.is(told + "PART " + part, x.drawn(pair, 2 + part), hand.of(pair, 3 + part));
            }
        }
        due.is(told + "no such PAIR", x.drawn(pairs, 0), NONE);
    }

    private static void draw() {
        due.sentence("a DRAW of m: s becomes (s times 1103 and 12345) modulo 1,000,003, it is s modulo m.");
        for (int pairs = 1; pairs <= 5; pairs++) {
            for (int seed = 0; seed < 1_000_000; seed += 98_765) {
                drawnAsTold(seed, 60, pairs, 0, "wears 2");
            }
        }
        // s: 12345, 628841, 621889; of 2: 1, of 4: 1: PAIR 1 STEPS
        SoleReader x = Due.at(12, 0);
        x.pair(0, 1, 0);
        due.is("SEED 0", x.years(0, 1), 1);
        due.is("PAIR 1", x.drawn(1, 0), 1);
        due.is("PAIR 0", x.drawn(0, 0), 12);
    }

    private static void eachTime() {
        due.sentence("Each time (at DAY 999 it ends) DRAWS of PAIRS, of 4, of 2, whatever comes of them:");
        for (int day : new int[] {900, 938, 939, 940, 990, 996, 997, 998, 999}) {
            drawnAsTold(7, 60, 3, day, "wears day - 990");
            drawnAsTold(7, 1, 3, day, "wears 3");
        }
        SoleReader x = Due.at(12, 0);
        x.terms(0, 999);
        due.is("at DAY 999", x.years(7, 60), 0);
        due.is("it is the latest", x.drawn(0, 0), 12);
        due.is("nothing WORN", x.drawn(0, 2) + x.drawn(0, 3) + x.drawn(0, 4) + x.drawn(0, 5), 0);
        x.terms(0, 998);
        x.years(7, 60);
        due.is("one DAY is left: one act", x.drawn(0, 2) + x.drawn(0, 3) + x.drawn(0, 4) + x.drawn(0, 5), 1);
        // whatever comes of them: the third DRAW is made, though no TURN asks for it, and though no STEP can be
        drawnAsTold(3, 40, 2, 0, "bars");
    }

    private static void whatTheDrawsDo() {
        due.sentence("at 0, 1 (the second DRAW) that PAIR STEPS, if it can, at 2 it TURNS to the side that is the third DRAW,"
            + " at 3 it PAUSES; then it is the next DAY.");
        int[] seen = new int[5];
        for (int seed = 0; seed < 40; seed++) {
            long second = ((seed * 1103L + 12345) % 1_000_003 * 1103 + 12345) % 1_000_003;
            long third = (second * 1103 + 12345) % 1_000_003;
            int act = (int) (second % 4);
            int side = (int) (third % 2);
            SoleReader x = Due.at(12, 0);
            due.is("STEPS of SEED " + seed, x.years(seed, 1), act < 2 ? 1 : 0);
            due.is("CELL", x.drawn(0, 0), act < 2 ? 17 : 12);
            due.is("WAY", x.drawn(0, 1), act != 2 ? 0 : side == 0 ? 3 : 1);
            due.is("TOE", x.drawn(0, 2), act < 2 ? 1 : 0);
            due.is("HEEL", x.drawn(0, 3), act == 3 ? 1 : 0);
            due.is("LEFT", x.drawn(0, 4), act == 2 && side == 0 ? 1 : 0);
            due.is("RIGHT", x.drawn(0, 5), act == 2 && side == 1 ? 1 : 0);
            seen[act == 2 ? 2 + 2 * side : act]++;
            SoleReader y = Due.at(12, 0, "bars");
            due.is("it can't STEP", y.years(seed, 1), 0);
            due.is("it can't STEP", y.drawn(0, 0), 12);
            due.is("it can't STEP", y.drawn(0, 2), 0);
        }
        for (int n : seen) {
            due.holds("each was drawn", n > 0);
        }
        for (int seed = 0; seed < 20; seed++) {
            drawnAsTold(seed, 60, 4, 10 * seed, "wears day % 7; bars if day % 3 = 1 and way = 2; wears 9 if worn > 20");
        }
    }

    private static void row() {
        due.sentence("A ROW: the TAPE's bytes by threes: a CELL, a WAY, a LOAD: a PAIR, not WORN;");
        SoleReader x = Due.worn(new int[] {9, 9, 9, 9});
        x.image(0);
        for (int part = 0; part < 3; part++) {
            x.pair(part, 0, 0);
            Due.orders(x, "pause " + (part + 1) + " times 5; turn " + (part + 1) + " to 1");
        }
        x.back(0);
        Due.put(x, "\u0018\u0003\u0009\u0000\u0000\u0000\u0007\u0001\u0005");
        due.is("three", x.row(), 3);
        int[][] want = {{24, 3, 9}, {0, 0, 0}, {7, 1, 5}};
        for (int i = 0; i < 3; i++) {
            for (int what = 0; what < 7; what++) {
                due.is("PAIR " + (i + 1) + ", " + what, x.of(i + 1, what), what < 3 ? want[i][what] : 0);
            }
        }
        due.is("the one that was there", x.of(0, 3), 9);
        due.is("no BRADS", x.brads(), 0);
    }

    private static void rowOf(String bytes, int came, int brads) {
        SoleReader x = new SoleReader();
        Due.put(x, bytes);
        due.is("came", x.row(), came);
        due.is("BRADS", x.brads(), brads);
        due.is("PAIRS", x.count(0), came);
        due.is("the TAPE", x.count(5), 0);
    }

    private static void brads() {
        due.sentence("one that can't be, one within which the TAPE ends, one for which there is no room is a BRAD: nothing.");
        rowOf("\u0019\u0000\u0000", 0, 1);
        rowOf("\u0000\u0004\u0000", 0, 1);
        rowOf("\u0000\u0000\n", 0, 1);
        rowOf("\u00ff\u0000\u0000", 0, 1);
        rowOf("\u0000\u0080\u0000", 0, 1);
        rowOf("\u0000\u0000\u00ff", 0, 1);
        rowOf("\u0018\u0003\u0009", 1, 0);
        rowOf("\u0001", 0, 1);
        rowOf("\u0001\u0001", 0, 1);
        rowOf("\u0001\u0001\u0001\u0001", 1, 1);
        rowOf("\u0001\u0001\u0001\u0001\u0001", 1, 1);
        rowOf("\u0001\u0001\u0001\u0001\u0001\u0001", 2, 0);
        rowOf("\u0019\u0000\u0000\u0001\u0001\u0001\u0019\u0000\u0000\u0002", 1, 3);
        rowOf("\u0001\u0001\u0001".repeat(6), 6, 0);
        rowOf("\u0001\u0001\u0001".repeat(7), 6, 1);
        rowOf("\u0001\u0001\u0001".repeat(7) + "\u0001", 6, 2);
        rowOf("\u0001\u0001\u0001".repeat(6) + "\u0019\u0000\u0000", 6, 1);
        rowOf("\u0001\u0001\u0001".repeat(133) + "\u0001", 6, 128);
        rowOf("\u0019\u0000\u0000".repeat(6) + "\u0001\u0001\u0001".repeat(2), 2, 6);
        SoleReader x = Due.at(0, 0);
        for (int i = 0; i < 4; i++) {
            x.pair(0, 0, 0);
        }
        Due.put(x, "\u0019\u0000\u0000\u0003\u0002\u0001\u0004\u0002\u0001");
        due.is("room for one", x.row(), 1);
        due.is("two BRADS", x.brads(), 2);
        due.is("it came behind a BRAD", x.of(5, 0), 3);
        Due.put(x, "\u0003\u0002\u0001");
        due.is("no room at all, not REFUSED", x.row(), 0);
        due.is("not REFUSED", x.status(), 0);
        due.is("a BRAD", x.brads(), 1);
        // what stood on the TAPE behind its end is no part of a ROW
        SoleReader y = new SoleReader();
        y.feed(0x01010101, 0x01010101, 0x01010101, 0x01010101, 0x01010101);
        y.end(5);
        due.is("one", y.row(), 1);
        due.is("a BRAD", y.brads(), 1);
    }

    /** A state with something of everything; PAIRS 0 and 1, LAWS 0 and 1. */
    private static SoleReader full() {
        SoleReader x = Due.worn(new int[] {1, 2, 3, 4}, new int[] {5, 6, 7, 8});
        Due.law(x, "wears 7");
        x.force(1);
        x.wall(3, 1);
        x.wall(24, 1);
        x.seen(2, 3);
        x.seen(3, 4);
        x.terms(0, 40);
        x.terms(1, 4);
        x.terms(2, 6);
        return x;
    }

    private static void fullTold(SoleReader x) {
        due.is("PAIRS", x.count(0), 2);
        for (int part = 0; part < 4; part++) {
            due.is("WORN", x.of(0, 3 + part), 1 + part);
            due.is("WORN", x.of(1, 3 + part), 5 + part);
        }
        for (int pair = 0; pair < 2; pair++) {
            for (int what = 0; what < 3; what++) {
                due.is("CELL, WAY, LOAD", x.of(pair, what), 0);
            }
        }
        due.is("WALLS", x.walls(), 1 << 3 | 1 << 24);
        due.is("SEEN", x.count(2), 2);
        due.is("IT CAN BE", x.canBe(), 1);
        due.is("LAWS", x.count(3), 2);
        due.is("in FORCE", x.count(11), 1);
        due.is("by LAW 1", x.asks(0, 0, 0), 7);
        due.is("DAY", x.count(12), 40);
        due.is("SLIPS", x.count(13), 4);
        due.is("MOOD", x.count(14), 6);
    }

    /** Changes all that full() has. */
    private static void change(SoleReader x) {
        Due.orders(x, "step 0; turn 1 to 1; pause 0; mend 1 at 2; pass times 3");
        x.pair(9, 2, 4);
        Due.law(x, "wears 2");
        x.force(2);
        x.wall(3, 0);
        x.wall(7, 1);
        x.forget();
        x.seen(0, 50);
        x.terms(0, 77);
        x.terms(1, 0);
        x.terms(2, 1);
    }

    private static void imagesKeep() {
        due.sentence("IMAGES 0, 1 keep all but the TAPE, FAULT, BRADS, where ORDERS stopped, what can be undone (nothing,"
            + " behind back()), the latest YEARS;");
        for (int k : new int[] {-1, 2, Integer.MIN_VALUE, Integer.MAX_VALUE}) {
            due.is("no IMAGE " + k, new SoleReader().image(k), -1);
            due.is("no IMAGE " + k, new SoleReader().back(k), -1);
        }
        for (int k = 0; k < 2; k++) {
            SoleReader x = full();
            x.pause(0);
            x.undo();
            due.is("image", x.image(k), 0);
            fullTold(x);
            change(x);
            due.is("back", x.back(k), 0);
            fullTold(x);
            due.is("the other was not kept", x.back(1 - k), -2);
        }
        SoleReader x = Due.at(12, 0);
        Due.orders(x, "pass; step 9");
        Due.law(x, "bars x");
        Due.put(x, "\u0019\u0000\u0000");
        x.row();
        x.years(0, 10);
        Due.put(x, "abc");
        x.pass();
        x.image(0);
        due.is("image() leaves what can be undone", x.count(4), 1);
        due.is("image() leaves the TAPE", x.count(5), 3);
        x.end(0);
        Due.orders(x, "pass; pass; step 9");
        Due.orders(x, "pass pass");
        due.is("FAULT", x.fault(), 5);
        Due.orders(x, "pass; pass; step 9");
        Due.put(x, "\u0019\u0000\u0000\u0019\u0000\u0000\u0003\u0000\u0000");
        x.row();
        x.years(0, 30);
        int[] latest = new int[6];
        for (int what = 0; what < 6; what++) {
            latest[what] = x.drawn(0, what);
        }
        Due.law(x, "bars  x");
        Due.put(x, "abcde");
        x.pass();
        x.back(0);
        due.is("the TAPE", x.count(5), 5);
        due.is("FAULT", x.fault(), 6);
        due.is("BRADS", x.brads(), 2);
        due.is("where ORDERS stopped", x.stopped(), 2);
        due.is("nothing can be undone", x.count(4), 0);
        due.is("nothing can be undone", x.undo(), -3);
        for (int what = 0; what < 6; what++) {
            due.is("the latest YEARS", x.drawn(0, what), latest[what]);
        }
        due.is("of two PAIRS", x.drawn(1, 0) != NONE ? 1 : 0, 1);
        due.is("PAIRS", x.count(0), 1);
    }

    private static void back() {
        due.sentence("BACK to one all that it keeps is as it was then (IMAGES stay).");
        SoleReader x = full();
        x.image(0);
        change(x);
        x.image(1);
        int cell = x.of(0, 0);
        for (int round = 0; round < 3; round++) {
            due.is("back to the first", x.back(0), 0);
            fullTold(x);
            change(x);
            Due.law(x, "wears 5");
            due.is("back to the second", x.back(1), 0);
            due.is("three PAIRS", x.count(0), 3);
            due.is("three LAWS", x.count(3), 3);
            due.is("LAW 2", x.asks(0, 0, 0), 2);
            due.is("the CELL", x.of(0, 0), cell);
            due.is("WALLS", x.walls(), 1 << 7 | 1 << 24);
            due.is("SEEN", x.count(2), 1);
            due.is("DAY", x.count(12), 77);
        }
        backToSix();
        x.back(0);
        x.image(1);
        change(x);
        x.back(1);
        fullTold(x);
        due.is("a new PAIR is not WORN", x.pair(1, 1, 1), 2);
        for (int part = 0; part < 4; part++) {
            due.is("a new PAIR is not WORN", x.of(2, 3 + part), 0);
        }
        due.is("a new LAW", Due.law(x, "wears 8"), 2);
        x.force(2);
        due.is("the new LAW", x.asks(0, 0, 0), 8);
        SoleReader y = new SoleReader();
        y.image(0);
        change(y);
        y.back(0);
        due.is("an empty YARD", y.count(0) + y.count(1) + y.count(2) + y.count(3) + y.count(12) + y.count(14), 0);
        due.is("SLIPS", y.count(13), 1);
        due.is("in FORCE", y.count(11), NONE);
    }

    private static void backToSix() {
        int[][] worn = new int[6][4];
        for (int i = 0; i < 24; i++) {
            worn[i / 4][i % 4] = 99 - 4 * i;
        }
        SoleReader x = Due.worn(worn);
        x.image(0);
        Due.orders(x, "step 0; step 1; step 2; step 3; step 4; step 5; turn 3 to 1; turn 5 to 0; mend 4 at 1; pause 5");
        x.back(0);
        for (int i = 0; i < 24; i++) {
            due.is("PAIR " + i / 4 + ", PART " + i % 4, x.of(i / 4, 3 + i % 4), worn[i / 4][i % 4]);
        }
        for (int pair = 0; pair < 6; pair++) {
            due.is("CELL", x.of(pair, 0), 0);
            due.is("WAY", x.of(pair, 1), 0);
        }
        SoleReader y = new SoleReader();
        y.image(0);
        y.pair(1, 1, 1);
        y.pair(2, 2, 2);
        y.image(1);
        y.back(0);
        y.pair(3, 3, 3);
        y.pair(4, 0, 4);
        y.back(1);
        for (int what = 0; what < 3; what++) {
            due.is("CELL, WAY, LOAD", y.of(0, what), 1);
            due.is("CELL, WAY, LOAD", y.of(1, what), 2);
        }
    }

    private static void constants() {
        due.sentence("The constants: `NONE = -1`: There is none.");
        due.is("NONE", SoleReader.NONE, -1);
    }
}
