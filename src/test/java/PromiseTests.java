/** Promises 1 to 22, sentence by sentence: the YARD, the TAPE, TEXTS, the acts. */
public final class PromiseTests {
    private static final Due due = new Due("PromiseTests");
    private static final int NONE = SoleReader.NONE;
    private static final int LEAST = Integer.MIN_VALUE;
    private static final int MOST = Integer.MAX_VALUE;

    public static void main(String[] args) {
        newObject();
        pair();
        of();
        wall();
        walls();
        asks();
        terms();
        feed();
        end();
        row();
        brads();
        law();
        orders();
        fault();
        stopped();
        force();
        step();
        turn();
        pause();
        mend();
        pass();
        undo();
        due.close();
    }

    private static void newObject() {
        due.sentence("An empty yard.");
        SoleReader x = new SoleReader();
        for (int what = 0; what <= 14; what++) {
            due.is("count(" + what + ")", x.count(what), what == 11 ? NONE : what == 13 ? 1 : 0);
        }
        due.is("walls()", x.walls(), 0);
        due.is("of(0, 0)", x.of(0, 0), NONE);
        due.is("brads()", x.brads(), 0);
        due.is("fault()", x.fault(), NONE);
        due.is("stopped()", x.stopped(), NONE);
        due.is("status()", x.status(), 0);
        due.is("canBe()", x.canBe(), 0);
        due.is("cutOff()", x.cutOff(), 0);
        due.is("drawn(0, 0)", x.drawn(0, 0), NONE);
        due.is("undo()", x.undo(), -3);
        due.is("back(0)", x.back(0), -2);
        due.is("back(1)", x.back(1), -2);
        due.is("forget()", x.forget(), 0);
        SoleReader y = new SoleReader();
        y.pair(0, 0, 0);
        y.wall(3, 1);
        Due.law(y, "bars");
        due.is("objects have nothing in common", new SoleReader().walls(), 0);
        due.is("objects have nothing in common", x.count(0) + x.count(3), 0);
        due.quotesAllOf(Document.promise(1));
    }

    private static void pair() {
        due.sentence("A PAIR: its number.");
        SoleReader x = new SoleReader();
        for (int i = 0; i < 6; i++) {
            due.is("its number", x.pair(4 * i, 3 - i % 4, 9 - i), i);
            due.is("CELL", x.of(i, 0), 4 * i);
            due.is("WAY", x.of(i, 1), 3 - i % 4);
            due.is("LOAD", x.of(i, 2), 9 - i);
            due.is("not WORN", x.of(i, 3) + x.of(i, 4) + x.of(i, 5) + x.of(i, 6), 0);
        }
        SoleReader y = new SoleReader();
        y.pair(25, 0, 0);
        due.is("one that was REFUSED takes no number", y.pair(24, 3, 9), 0);
        due.sentence("-1;");
        for (int[] bad : new int[][] {{-1, 0, 0}, {25, 0, 0}, {0, -1, 0}, {0, 4, 0}, {0, 0, -1}, {0, 0, 10}, {LEAST, 0, 0},
            {MOST, 0, 0}, {0, LEAST, 0}, {0, MOST, 0}, {0, 0, LEAST}, {0, 0, MOST}}) {
            SoleReader z = new SoleReader();
            due.refused("pair", z, z.pair(bad[0], bad[1], bad[2]), -1);
            due.is("no PAIR came", z.count(0), 0);
        }
        due.refused("full, and a number that can't be", x, x.pair(0, 0, 10), -1);
        due.sentence("-5.");
        due.refused("the seventh", x, x.pair(0, 0, 0), -5);
        due.refused("the seventh again", x, x.pair(24, 3, 9), -5);
        due.is("six", x.count(0), 6);
        due.quotesAllOf(Document.promise(2));
    }

    private static void of() {
        due.sentence("Of a PAIR the CELL (what 0), the WAY (1), LOAD (2), how PART p is WORN (3 + p), the CELL to which it"
            + " would STEP (7; NONE: it can't).");
        SoleReader x = Due.worn(new int[] {11, 12, 13, 14}, new int[] {21, 22, 23, 24});
        x.pair(13, 1, 6);
        int[][] want = {{0, 0, 0, 11, 12, 13, 14, 5}, {0, 0, 0, 21, 22, 23, 24, 5}, {13, 1, 6, 0, 0, 0, 0, 14}};
        for (int pair = 0; pair < 3; pair++) {
            for (int what = 0; what < 8; what++) {
                due.is("of(" + pair + ", " + what + ")", x.of(pair, what), want[pair][what]);
            }
        }
        x.step(2);
        due.is("it is at the edge", x.of(2, 7), NONE);
        x.wall(5, 1);
        due.is("a WALL", x.of(0, 7), NONE);
        due.is("BARRED", Due.at(12, 0, "bars").of(0, 7), NONE);
        due.is("CELL 0", Due.at(1, 3).of(0, 7), 0);
        due.is("of() does nothing", x.of(2, 0), 14);
        due.sentence("NONE.");
        for (int what : new int[] {-1, 8, 9, LEAST, MOST}) {
            due.is("what " + what, x.of(0, what), NONE);
        }
        for (int pair : new int[] {-1, 3, 6, LEAST, MOST}) {
            for (int what = 0; what < 8; what++) {
                due.is("PAIR " + pair, x.of(pair, what), NONE);
            }
        }
        due.is("it is not REFUSED", x.count(6) + x.count(7), 0);
        due.quotesAllOf(Document.promise(3));
    }

    private static void wall() {
        due.sentence("A CELL is a WALL or none (1, 0): what it was.");
        SoleReader x = new SoleReader();
        for (int cell = 0; cell < 25; cell++) {
            due.is("it was none", x.wall(cell, 0), 0);
            due.is("it was none", x.wall(cell, 1), 0);
            due.is("it was one", x.wall(cell, 1), 1);
            due.is("that one alone", x.walls(), 1 << cell);
            due.is("it was one", x.wall(cell, 0), 1);
            due.is("none", x.walls(), 0);
        }
        due.sentence("-1.");
        x.wall(0, 1);
        for (int[] bad : new int[][] {{-1, 0}, {25, 0}, {32, 0}, {0, -1}, {0, 2}, {LEAST, 1}, {MOST, 1}, {1, LEAST}, {1, MOST}}) {
            due.refused("wall", x, x.wall(bad[0], bad[1]), -1);
            due.is("as they were", x.walls(), 1);
        }
        due.sentence("It leaves what can be undone.");
        SoleReader y = Due.at(12, 0);
        y.step(0);
        y.turn(0, 1);
        y.wall(12, 1);
        y.wall(25, 1);
        due.is("two", y.count(4), 2);
        due.is("the TURN", y.undo(), 1);
        due.is("the STEP", y.undo(), 0);
        due.is("into the WALL", y.of(0, 0), 12);
        due.is("which stays", y.walls(), 1 << 12);
        due.quotesAllOf(Document.promise(4));
    }

    private static void walls() {
        due.sentence("WALLS, as bits.");
        SoleReader x = new SoleReader();
        int bits = 0;
        for (int cell = 24; cell >= 0; cell -= 3) {
            x.wall(cell, 1);
            bits |= 1 << cell;
            due.is("walls()", x.walls(), bits);
        }
        x.wall(24, 0);
        due.is("walls()", x.walls(), bits & ~(1 << 24));
        due.quotesAllOf(Document.promise(5));
    }

    private static void asks() {
        due.sentence("Of a PAIR and a PART by how much it WEARS (what 0), what mending LEAVES (1).");
        SoleReader x = Due.at(0, 0);
        x.pair(0, 0, 5);
        Due.law(x, "wears part + load; leaves 10 * part + load");
        for (int pair = 0; pair < 2; pair++) {
            for (int part = 0; part < 4; part++) {
                due.is("by none", x.asks(pair, part, 0), 1);
                due.is("by none", x.asks(pair, part, 1), 0);
            }
        }
        x.force(0);
        for (int pair = 0; pair < 2; pair++) {
            for (int part = 0; part < 4; part++) {
                due.is("wears", x.asks(pair, part, 0), part + 5 * pair);
                due.is("leaves", x.asks(pair, part, 1), 10 * part + 5 * pair);
            }
        }
        due.is("a PART that is not WORN, too", x.of(1, 3), 0);
        due.sentence("NONE.");
        for (int bad : new int[] {-1, 2, 3, LEAST, MOST}) {
            due.is("PAIR " + bad, x.asks(bad, 0, 0), NONE);
            due.is("what " + bad, x.asks(0, 0, bad), NONE);
        }
        for (int bad : new int[] {-1, 4, LEAST, MOST}) {
            due.is("PART " + bad, x.asks(0, bad, 0), NONE);
            due.is("PART " + bad, x.asks(0, bad, 1), NONE);
        }
        due.quotesAllOf(Document.promise(6));
    }

    private static void terms() {
        due.sentence("A TERM: what it was.");
        SoleReader x = new SoleReader();
        int[] first = {0, 1, 0};
        int[] most = {999, 10, 9};
        for (int what = 0; what < 3; what++) {
            due.is("at first", x.terms(what, most[what]), first[what]);
            due.is("the most", x.terms(what, most[what]), most[what]);
            due.is("the most", x.terms(what, 0), most[what]);
            due.is("0", x.terms(what, 5), 0);
            due.is("5", x.count(12 + what), 5);
        }
        due.sentence("-1.");
        for (int[] bad : new int[][] {{0, -1}, {0, 1000}, {1, -1}, {1, 11}, {2, -1}, {2, 10}, {-1, 0}, {3, 0}, {LEAST, 0},
            {MOST, 0}, {0, LEAST}, {0, MOST}}) {
            due.refused("terms", x, x.terms(bad[0], bad[1]), -1);
        }
        for (int what = 0; what < 3; what++) {
            due.is("as they were", x.count(12 + what), 5);
        }
        due.quotesAllOf(Document.promise(7));
    }

    private static void feed() {
        due.sentence("Twenty bytes come behind the TAPE, four of each number, the highest first: how many it has.");
        SoleReader x = new SoleReader();
        due.is("twenty", x.feed(0x00000001, 0x01010202, 0x02030303, 0x04000405, 0x01050600), 20);
        due.is("forty", x.feed(0x00000000, 0, 0, 0, 0), 40);
        due.is("one alone", x.end(21), 21);
        due.is("behind it", x.feed(-1, -1, -1, -1, -1), 41);
        due.is("cut", x.end(18), 18);
        due.is("six", x.row(), 6);
        int[][] want = {{0, 0, 0}, {1, 1, 1}, {2, 2, 2}, {3, 3, 3}, {4, 0, 4}, {5, 1, 5}};
        for (int pair = 0; pair < 6; pair++) {
            for (int what = 0; what < 3; what++) {
                due.is("PAIR " + pair + ", " + what, x.of(pair, what), want[pair][what]);
            }
        }
        SoleReader y = new SoleReader();
        y.feed(0x80000000, 0x00FF0000, 0x00010100, 0, 0);
        y.end(12);
        due.is("bytes above 127 are none below 0", y.row(), 2);
        due.is("two BRADS", y.brads(), 2);
        due.sentence("NONE, if there would be more than 400.");
        SoleReader z = new SoleReader();
        for (int i = 1; i <= 20; i++) {
            due.is("feed", z.feed(0, 0, 0, 0, 0), 20 * i);
        }
        due.is("420", z.feed(0, 0, 0, 0, 0), NONE);
        for (int n = 399; n > 380; n--) {
            z.end(n);
            due.is("from " + n, z.feed(0x01010101, 0, 0, 0, 0), NONE);
            due.is("as it was", z.count(5), n);
        }
        z.end(380);
        due.is("to 400", z.feed(0x01010101, 0, 0, 0, 0), 400);
        due.is("it is not REFUSED", z.count(6) + z.count(9), 0);
        due.quotesAllOf(Document.promise(8));
    }

    private static void end() {
        due.sentence("The TAPE has its first n bytes alone: n.");
        SoleReader x = new SoleReader();
        due.is("of nothing", x.end(0), 0);
        x.feed(0x62617273, 0x3B626172, 0x73202020, 0x20202020, 0x20202020);
        due.is("all", x.end(20), 20);
        due.is("nine", x.end(9), 9);
        due.is("nine", x.count(5), 9);
        due.is("four", x.end(4), 4);
        due.is("four: 'bars'", x.law(), 0);
        due.is("it is empty then", x.end(0), 0);
        due.sentence("NONE, if it has not so many, or n is below 0.");
        due.is("one of none", x.end(1), NONE);
        due.is("below 0", x.end(-1), NONE);
        x.feed(0, 0, 0, 0, 0);
        for (int bad : new int[] {21, 400, MOST, -1, -20, LEAST}) {
            due.is("end(" + bad + ")", x.end(bad), NONE);
            due.is("as it was", x.count(5), 20);
        }
        x.end(7);
        due.is("what was cut is gone", x.end(8), NONE);
        due.is("it is not REFUSED", x.count(6), 0);
        due.quotesAllOf(Document.promise(9));
    }

    private static void row() {
        due.sentence("A ROW, the TAPE is empty then: how many PAIRS came.");
        SoleReader x = new SoleReader();
        Due.put(x, "\u0001\u0001\u0001\u0002\u0002\u0002\u0019\u0000\u0000");
        due.is("two", x.row(), 2);
        due.is("the TAPE is empty", x.count(5), 0);
        due.is("PAIRS", x.count(0), 2);
        Due.put(x, "\u0019");
        due.is("none", x.row(), 0);
        due.is("the TAPE is empty", x.count(5), 0);
        due.is("not REFUSED", x.status(), 0);
        Due.put(x, "\u0003\u0003\u0003".repeat(9));
        due.is("four", x.row(), 4);
        due.is("PAIRS", x.count(0), 6);
        due.is("the TAPE is empty", x.count(5), 0);
        due.sentence("-6 the TAPE is empty.");
        due.refused("row of nothing", x, x.row(), -6);
        due.is("PAIRS", x.count(0), 6);
        Due.put(x, "abc");
        x.end(0);
        due.refused("row of what was cut", x, x.row(), -6);
        due.quotesAllOf(Document.promise(10));
    }

    private static void brads() {
        due.sentence("How many BRADS the latest row() had that was not REFUSED (0 ahead of any).");
        SoleReader x = new SoleReader();
        due.is("ahead of any", x.brads(), 0);
        x.row();
        due.is("ahead of any that was not REFUSED", x.brads(), 0);
        Due.put(x, "zzzzzzz");
        due.is("none came", x.row(), 0);
        due.is("three", x.brads(), 3);
        x.row();
        due.is("one that was REFUSED leaves it", x.brads(), 3);
        Due.put(x, "zz");
        x.law();
        due.is("so does law()", x.brads(), 3);
        Due.put(x, "\u0001\u0001\u0001");
        x.row();
        due.is("none", x.brads(), 0);
        due.quotesAllOf(Document.promise(11));
    }

    private static void law() {
        due.sentence("The TAPE, which is empty then, becomes a LAW: its number.");
        SoleReader x = Due.at(0, 0);
        for (int i = 0; i < 6; i++) {
            due.is("its number", Due.law(x, "wears " + i), i);
            due.is("the TAPE is empty", x.count(5), 0);
            due.is("it tells", x.compare(i, 0, 0), i);
        }
        due.is("none in FORCE", x.count(11), NONE);
        due.sentence("-5 (ahead of reading it; the TAPE is empty then, too);");
        Due.law(x, "wears");
        due.is("not read", x.fault(), NONE);
        due.refused("the seventh", x, Due.law(x, "wears 1"), -5);
        due.is("the TAPE is empty", x.count(5), 0);
        due.refused("one with a FAULT", x, Due.law(x, "wears"), -5);
        due.is("not read", x.fault(), NONE);
        due.refused("nothing", x, x.law(), -5);
        due.refused("blanks", x, Due.law(x, "   "), -5);
        due.is("the TAPE is empty", x.count(5), 0);
        due.sentence("-6 (blanks alone: FAULT at the end).");
        SoleReader y = new SoleReader();
        for (int n : new int[] {0, 1, 2, 20, 399, 400}) {
            due.refused(n + " blanks", y, Due.law(y, " ".repeat(n)), -6);
            due.is("FAULT at the end", y.fault(), n);
            due.is("the TAPE is empty", y.count(5), 0);
        }
        due.refused("a FAULT", y, Due.law(y, "bars bars"), -6);
        due.is("the TAPE is empty", y.count(5), 0);
        due.is("no LAW", y.count(3), 0);
        due.is("the next takes its number", Due.law(y, "bars"), 0);
        due.sentence("It leaves what can be undone.");
        y.pass();
        y.pass();
        Due.law(y, "bars");
        due.is("a LAW", y.count(4), 2);
        Due.law(y, "bars bars");
        due.is("a FAULT", y.count(4), 2);
        due.is("undo", y.undo(), 4);
        due.is("the LAW stays", y.count(3), 2);
        due.quotesAllOf(Document.promise(12));
    }

    private static void orders() {
        due.sentence("ORDERS, the TAPE is empty then: how many were run.");
        SoleReader x = Due.at(12, 0);
        due.is("none", Due.orders(x, "pass if 1 = 2"), 0);
        due.is("not REFUSED", x.status(), 0);
        due.is("the TAPE is empty", x.count(5), 0);
        due.is("one", Due.orders(x, "pass"), 1);
        due.is("five", Due.orders(x, "pass times 2; step 0; turn 0 to 1; pause 0; step 0 if 1 = 2"), 5);
        due.is("the TAPE is empty", x.count(5), 0);
        due.is("the most", Due.orders(x, "pass times 20;".repeat(11) + "pass times 20"), 240);
        due.sentence("-3 one can't be;");
        due.refused("one can't be", x, Due.orders(x, "pass; step 3"), -3);
        due.is("the TAPE is empty", x.count(5), 0);
        due.is("the DAY", x.count(12), 243);
        due.is("it counts once", x.count(8), 1);
        due.is("and as nothing else", x.count(7), 0);
        due.sentence("-6 (as for law()).");
        for (int n : new int[] {0, 1, 400}) {
            due.refused(n + " blanks", x, Due.orders(x, " ".repeat(n)), -6);
            due.is("FAULT at the end", x.fault(), n);
            due.is("the TAPE is empty", x.count(5), 0);
        }
        due.refused("a FAULT at its end", x, Due.orders(x, "pass; pass; pass ?"), -6);
        due.is("nothing was run", x.count(12), 243);
        due.is("the TAPE is empty", x.count(5), 0);
        for (int i = 0; i < 6; i++) {
            Due.law(x, "bars");
        }
        due.is("room for LAWS does not matter", Due.orders(x, "pass"), 1);
        due.quotesAllOf(Document.promise(13));
    }

    private static void fault() {
        due.sentence("FAULT of the latest law(), orders() that read a TEXT: its place;");
        SoleReader x = new SoleReader();
        Due.law(x, "bars 1");
        due.is("of law()", x.fault(), 5);
        Due.orders(x, "pass; pas");
        due.is("of orders()", x.fault(), 6);
        x.pass();
        x.row();
        x.back(0);
        Due.put(x, "zzz");
        x.row();
        due.is("others leave it", x.fault(), 6);
        due.is("it can be asked again", x.fault(), 6);
        x.law();
        due.is("of an empty TAPE", x.fault(), 0);
        Due.law(x, "bars?");
        for (int i = 0; i < 6; i++) {
            Due.law(x, "bars");
        }
        Due.orders(x, "pass?");
        due.is("the latest", x.fault(), 4);
        Due.law(x, "bars");
        due.is("a law() that reads none leaves it", x.fault(), 4);
        due.sentence("NONE without.");
        due.is("at first", new SoleReader().fault(), NONE);
        Due.orders(x, "pass");
        due.is("a good one", x.fault(), NONE);
        Due.orders(x, "pass?");
        Due.orders(x, "step 9");
        due.is("one that can't be has no FAULT", x.fault(), NONE);
        SoleReader y = new SoleReader();
        Due.orders(y, "?");
        due.is("place 0", y.fault(), 0);
        Due.law(y, "bars");
        due.is("a good one", y.fault(), NONE);
        due.quotesAllOf(Document.promise(14));
    }

    private static void stopped() {
        due.sentence("Which CLAUSE of the latest orders() could not be.");
        SoleReader x = Due.at(12, 0);
        for (int n = 0; n < 12; n++) {
            Due.orders(x, "pass;".repeat(n) + "step 1");
            due.is("CLAUSE " + n, x.stopped(), n);
        }
        Due.orders(x, "pass times 5; step 0 times 3; pass");
        due.is("at its third time", x.stopped(), 1);
        x.step(9);
        x.law();
        due.is("others leave it", x.stopped(), 1);
        due.sentence("NONE.");
        due.is("at first", new SoleReader().stopped(), NONE);
        Due.orders(x, "pass");
        due.is("all could be", x.stopped(), NONE);
        Due.orders(x, "step 9");
        due.is("the first", x.stopped(), 0);
        Due.orders(x, "pass pass");
        due.is("a FAULT: none was run", x.stopped(), NONE);
        Due.orders(x, "step 9");
        x.orders();
        due.is("nothing: none was run", x.stopped(), NONE);
        due.quotesAllOf(Document.promise(15));
    }

    private static void force() {
        due.sentence("A LAW is in FORCE (NONE: none): which was.");
        SoleReader x = Due.at(0, 0);
        due.is("none was", x.force(NONE), NONE);
        due.is("not REFUSED", x.status(), 0);
        for (int i = 0; i < 6; i++) {
            Due.law(x, "wears " + (i + 2));
        }
        for (int i = 0; i < 6; i++) {
            due.is("which was", x.force(i), i - 1);
            due.is("which is", x.count(11), i);
            due.is("it tells", x.asks(0, 0, 0), i + 2);
        }
        due.is("the same", x.force(5), 5);
        due.is("none", x.force(NONE), 5);
        due.is("none", x.asks(0, 0, 0), 1);
        due.is("none was", x.force(2), NONE);
        due.sentence("-2.");
        for (int bad : new int[] {-2, 6, LEAST, MOST}) {
            due.refused("force(" + bad + ")", x, x.force(bad), -2);
            due.is("as it was", x.count(11), 2);
        }
        SoleReader y = new SoleReader();
        due.refused("no LAWS", y, y.force(0), -2);
        due.sentence("It leaves what can be undone.");
        x.pass();
        x.force(3);
        due.is("one", x.count(4), 1);
        due.is("it", x.undo(), 4);
        due.is("in FORCE still", x.count(11), 3);
        due.quotesAllOf(Document.promise(16));
    }

    private static void step() {
        due.sentence("To STEP: the CELL then.");
        SoleReader x = Due.at(7, 3);
        x.pair(0, 0, 0);
        due.is("the CELL", x.step(0), 6);
        due.is("the CELL", x.step(0), 5);
        due.is("the other one", x.step(1), 5);
        due.is("CELL 0", Due.at(5, 2).step(0), 0);
        due.sentence("-2;");
        for (int bad : new int[] {-1, 2, 6, LEAST, MOST}) {
            due.refused("PAIR " + bad, x, x.step(bad), -2);
        }
        due.sentence("-3.");
        due.refused("the edge", x, x.step(0), -3);
        x.wall(10, 1);
        due.refused("a WALL", x, x.step(1), -3);
        SoleReader y = Due.at(12, 0, "bars");
        due.refused("BARRED", y, y.step(0), -3);
        due.is("nothing is WORN", x.of(0, 3), 2);
        due.is("nothing more can be undone", x.count(4), 3);
        due.quotesAllOf(Document.promise(17));
    }

    private static void turn() {
        due.sentence("To TURN to a side 0, 1: the WAY then.");
        SoleReader x = Due.at(12, 0);
        for (int way : new int[] {3, 2, 1, 0, 3}) {
            due.is("left", x.turn(0, 0), way);
        }
        for (int way : new int[] {0, 1, 2, 3, 0}) {
            due.is("right", x.turn(0, 1), way);
        }
        due.sentence("-1;");
        for (int bad : new int[] {-1, 2, LEAST, MOST}) {
            due.refused("side " + bad, x, x.turn(0, bad), -1);
            due.refused("side " + bad + " of no PAIR", x, x.turn(1, bad), -1);
        }
        due.sentence("-2.");
        for (int bad : new int[] {-1, 1, 6, LEAST, MOST}) {
            due.refused("PAIR " + bad, x, x.turn(bad, 0), -2);
            due.refused("PAIR " + bad, x, x.turn(bad, 1), -2);
        }
        due.is("the WAY", x.of(0, 1), 0);
        due.is("LEFT", x.of(0, 5), 5);
        due.is("RIGHT", x.of(0, 6), 5);
        due.quotesAllOf(Document.promise(18));
    }

    private static void pause() {
        due.sentence("To PAUSE: how its HEEL is WORN then.");
        SoleReader x = Due.worn(new int[] {0, 97, 0, 0}, new int[4]);
        due.is("98", x.pause(0), 98);
        due.is("99", x.pause(0), 99);
        due.is("99 at most", x.pause(0), 99);
        due.is("it can be undone, too", x.count(4), 3);
        due.is("the other one", x.pause(1), 1);
        due.is("by 0", Due.at(0, 0, "wears 0").pause(0), 0);
        due.sentence("-2.");
        for (int bad : new int[] {-1, 2, 6, LEAST, MOST}) {
            due.refused("PAIR " + bad, x, x.pause(bad), -2);
        }
        due.is("none more can be undone", x.count(4), 4);
        due.quotesAllOf(Document.promise(19));
    }

    private static void mend() {
        due.sentence("To MEND a PART: how it was WORN.");
        SoleReader x = Due.worn(new int[] {1, 33, 66, 99}, new int[4]);
        int[] worn = {1, 33, 66, 99};
        for (int part = 0; part < 4; part++) {
            due.is("PART " + part, x.mend(0, part), worn[part]);
            due.is("none is left", x.of(0, 3 + part), 0);
        }
        due.sentence("-1;");
        for (int bad : new int[] {-1, 4, LEAST, MOST}) {
            due.refused("PART " + bad, x, x.mend(0, bad), -1);
            due.refused("PART " + bad + " of no PAIR", x, x.mend(2, bad), -1);
        }
        due.sentence("-2;");
        for (int bad : new int[] {-1, 2, 6, LEAST, MOST}) {
            due.refused("PAIR " + bad, x, x.mend(bad, 0), -2);
        }
        due.sentence("-3 it is not.");
        for (int part = 0; part < 4; part++) {
            due.refused("PART " + part, x, x.mend(0, part), -3);
            due.refused("PART " + part, x, x.mend(1, part), -3);
        }
        due.is("four can be undone", x.count(4), 4);
        SoleReader y = Due.at(0, 0, "leaves 50");
        due.refused("not WORN, whatever it would leave", y, y.mend(0, 1), -3);
        due.is("not WORN", y.of(0, 4), 0);
        due.quotesAllOf(Document.promise(20));
    }

    private static void pass() {
        due.sentence("A DAY: its number.");
        SoleReader x = new SoleReader();
        for (int day = 1; day <= 50; day++) {
            due.is("DAY " + day, x.pass(), day);
            due.is("DAY " + day, x.count(12), day);
        }
        x.terms(0, 998);
        due.is("the last", x.pass(), 999);
        due.sentence("-3.");
        due.refused("behind it", x, x.pass(), -3);
        due.is("DAY 999", x.count(12), 999);
        due.is("one can be undone", x.count(4), 1);
        due.quotesAllOf(Document.promise(21));
    }

    private static void undo() {
        due.sentence("The latest step(), turn(), pause(), mend(), pass() (by ORDERS, too; 16 are kept) is undone (where PAIRS"
            + " are, FACE, how they are WORN, DAY are as they were): 0 .. 4.");
        SoleReader x = Due.worn(new int[] {1, 2, 3, 4}, new int[] {5, 6, 7, 8});
        x.step(0);
        x.turn(1, 0);
        x.turn(1, 1);
        x.pause(0);
        x.mend(1, 3);
        x.pass();
        due.is("six", x.count(4), 6);
        for (int want : new int[] {4, 3, 2, 1, 1, 0}) {
            due.is("undo", x.undo(), want);
            due.is("not REFUSED", x.status(), 0);
        }
        for (int part = 0; part < 4; part++) {
            due.is("WORN", x.of(0, 3 + part), 1 + part);
            due.is("WORN", x.of(1, 3 + part), 5 + part);
        }
        due.is("where they are", x.of(0, 0) + x.of(1, 0), 0);
        due.is("as they FACE", x.of(0, 1) + x.of(1, 1), 0);
        due.is("DAY", x.count(12), 0);
        undoAllTold();
        undoByOrders();
        undoSixteen();
        due.sentence("-3 there is none (nothing that was ahead of a pair(), terms(), row(), back() that was not REFUSED can be"
            + " undone).");
        due.refused("there is none", x, x.undo(), -3);
        undoLeft();
        undoCleared();
        due.quotesAllOf(Document.promise(22));
    }

    /** All that undo() brings back, asked ahead of each act and again behind its undo(). */
    private static void undoAllTold() {
        SoleReader x = Due.worn(new int[] {1, 2, 3, 4});
        x.pair(13, 2, 7);
        Due.law(x, "wears part + 2; leaves 20 + part");
        x.force(1);
        String[] acts = {"turn 1 to 1", "step 1", "pass", "turn 0 to 0", "mend 0 at 2", "pass", "pause 1", "step 1", "pass",
            "turn 1 to 0", "mend 1 at 3", "pause 0"};
        int[] kinds = {1, 0, 4, 1, 3, 4, 2, 0, 4, 1, 3, 2};
        String[] ahead = new String[acts.length];
        for (int i = 0; i < acts.length; i++) {
            ahead[i] = told(x);
            due.holds("the act did something", i == 0 || !ahead[i].equals(ahead[i - 1]));
            due.is(acts[i], Due.orders(x, acts[i]), 1);
            x.step(9);
        }
        for (int i = acts.length - 1; i >= 0; i--) {
            due.is("undo of " + acts[i], x.undo(), kinds[i]);
            String then = told(x);
            due.holds("as ahead of " + acts[i] + " (" + ahead[i] + "): " + then, then.equals(ahead[i]));
        }
    }

    private static String told(SoleReader x) {
        StringBuilder all = new StringBuilder("DAY " + x.count(12));
        for (int i = 0; i < 14; i++) {
            all.append(i % 7 == 0 ? "; " : " ").append(x.of(i / 7, i % 7));
        }
        return all.toString();
    }

    private static void undoByOrders() {
        SoleReader x = Due.at(12, 0);
        Due.orders(x, "step 0; turn 0 to 0; pause 0 times 2; mend 0 at 1; pass");
        due.is("each by itself", x.count(4), 6);
        due.is("the DAY", x.undo(), 4);
        due.is("the mending", x.undo(), 3);
        due.is("HEEL", x.of(0, 4), 2);
        due.is("a PAUSE", x.undo(), 2);
        due.is("HEEL", x.of(0, 4), 1);
        due.is("a PAUSE", x.undo(), 2);
        due.is("the TURN", x.undo(), 1);
        due.is("WAY", x.of(0, 1), 0);
        due.is("the STEP", x.undo(), 0);
        due.is("CELL", x.of(0, 0), 12);
        SoleReader y = Due.worn(new int[] {0, 97, 0, 0});
        y.pause(0);
        y.pause(0);
        y.pause(0);
        for (int worn : new int[] {99, 98, 97}) {
            due.is("a PAUSE", y.undo(), 2);
            due.is("as it was, though 99 had cut", y.of(0, 4), worn);
        }
    }

    private static void undoSixteen() {
        for (int n = 15; n <= 40; n++) {
            SoleReader x = Due.at(12, 0);
            for (int i = 0; i < n; i++) {
                x.pause(0);
            }
            due.is("16 at most", x.count(4), Math.min(16, n));
            for (int i = 0; i < Math.min(16, n); i++) {
                due.is("a PAUSE", x.undo(), 2);
                due.is("how many can be undone still", x.count(4), Math.min(16, n) - 1 - i);
            }
            due.is("HEEL", x.of(0, 4), Math.max(0, n - 16));
            due.is("no more", x.undo(), -3);
        }
        SoleReader y = Due.at(12, 0);
        Due.orders(y, "pass times 20; pause 0 times 5");
        due.is("16 by ORDERS", y.count(4), 16);
        Due.orders(y, "undo");
        for (int i = 0; i < 16; i++) {
            due.is("the latest first", y.undo(), i < 5 ? 2 : 4);
        }
        due.is("the DAY", y.count(12), 9);
        for (int i = 0; i < 3; i++) {
            y.pass();
        }
        due.is("kept anew", y.count(4), 3);
        due.is("the DAY", y.count(12), 12);
    }

    private static void undoLeft() {
        SoleReader x = Due.at(12, 0);
        x.pass();
        x.pass();
        x.pair(25, 0, 0);
        x.terms(0, 1000);
        x.row();
        x.back(0);
        x.back(2);
        due.is("calls that were REFUSED leave it", x.count(4), 2);
        x.wall(3, 1);
        x.seen(0, 0);
        x.forget();
        Due.law(x, "bars if x = 3");
        x.force(0);
        x.years(4, 9);
        x.image(0);
        x.step(9);
        Due.orders(x, "step 9");
        Due.orders(x, "nonsense");
        Due.orders(x, "pass if 1 = 2");
        Due.put(x, "abc");
        due.is("these leave it, too", x.count(4), 2);
        due.is("DAY", x.undo(), 4);
        due.is("DAY", x.count(12), 1);
        due.is("an undone one is gone", x.count(4), 1);
    }

    private static void undoCleared() {
        SoleReader x = Due.at(12, 0);
        x.image(1);
        for (int i = 0; i < 5; i++) {
            x.pass();
            x.pause(0);
            switch (i) {
                case 0: x.pair(0, 0, 0); break;
                case 1: x.terms(1, 1); break;
                case 2: Due.put(x, "\u0001\u0001\u0001"); x.row(); break;
                case 3: Due.put(x, "zzz"); x.row(); break;
                default: x.back(1); break;
            }
            due.is("nothing, " + i, x.count(4), 0);
            due.refused("nothing, " + i, x, x.undo(), -3);
        }
        due.is("behind it again", x.pass(), 1);
        due.is("behind it again", x.undo(), 4);
    }
}
