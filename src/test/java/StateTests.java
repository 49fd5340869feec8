/** Promises 1 to 11, 16 to 22, 32 to 34 and 39 to 44: the YARD, its PAIRS, the acts, YEARS, IMAGES, counts. */
public final class StateTests {
    private static final Due due = new Due("StateTests");
    private static final int NONE = SoleReader.NONE;

    public static void main(String[] args) {
        newObject();
        pair();
        of();
        wallAndWalls();
        asks();
        terms();
        feedAndEnd();
        rowAndBrads();
        force();
        step();
        turnAndPause();
        mend();
        pass();
        undo();
        undoIsCleared();
        undoKeepsSixteen();
        seenForgetCanBe();
        years();
        yearsEnd();
        drawn();
        images();
        imagesKeepNotAll();
        count();
        status();
        due.close();
    }

    private static void newObject() {
        SoleReader x = new SoleReader();
        due.is("NONE", SoleReader.NONE, -1);
        for (int what = -2; what < 20; what++) {
            int want = what == 11 || what < 0 || what > 14 ? -1 : what == 13 ? 1 : 0;
            due.is("new count(" + what + ")", x.count(what), want);
        }
        due.is("new walls()", x.walls(), 0);
        due.is("new brads()", x.brads(), 0);
        due.is("new fault()", x.fault(), NONE);
        due.is("new stopped()", x.stopped(), NONE);
        due.is("new status()", x.status(), 0);
        due.is("new cutOff()", x.cutOff(), 0);
        due.is("new canBe()", x.canBe(), 0);
        due.is("new back(0)", x.back(0), -2);
        due.is("new drawn(0, 0)", x.drawn(0, 0), NONE);
    }

    private static void pair() {
        SoleReader x = new SoleReader();
        int[][] bad = {{-1, 0, 0}, {25, 0, 0}, {0, -1, 0}, {0, 4, 0}, {0, 0, -1}, {0, 0, 10},
            {Integer.MIN_VALUE, 0, 0}, {0, Integer.MAX_VALUE, 0}, {0, 0, Integer.MIN_VALUE}};
        for (int[] b : bad) {
            due.is("pair of a bad number", x.pair(b[0], b[1], b[2]), -1);
        }
        due.is("count(6)", x.count(6), bad.length);
        for (int i = 0; i < 6; i++) {
            due.is("pair " + i, x.pair(i * 4, i % 4, 9 - i), i);
            due.is("cell", x.of(i, 0), i * 4);
            due.is("way", x.of(i, 1), i % 4);
            due.is("load", x.of(i, 2), 9 - i);
            for (int part = 0; part < 4; part++) {
                due.is("worn", x.of(i, 3 + part), 0);
            }
        }
        due.is("seventh", x.pair(0, 0, 0), -5);
        due.is("seventh, bad", x.pair(25, 0, 0), -1);
        due.is("count(9)", x.count(9), 1);
        due.is("count(0)", x.count(0), 6);
        SoleReader w = new SoleReader();
        w.wall(7, 1);
        due.is("pair in a WALL", w.pair(7, 0, 0), 0);
        due.is("two in a CELL", w.pair(7, 1, 0), 1);
    }

    private static void of() {
        SoleReader x = new SoleReader();
        x.pair(12, 0, 5);
        int[] want = {17, 13, 7, 11};
        for (int way = 0; way < 4; way++) {
            due.is("of(0, 7)", x.of(0, 7), want[way]);
            x.turn(0, 1);
        }
        int[][] edges = {{20, 0}, {24, 1}, {4, 2}, {0, 3}, {9, 1}, {15, 3}, {2, 2}, {22, 0}};
        for (int[] e : edges) {
            SoleReader y = new SoleReader();
            y.pair(e[0], e[1], 0);
            due.is("at the edge, of(0, 7)", y.of(0, 7), NONE);
        }
        x.wall(17, 1);
        due.is("into a WALL", x.of(0, 7), NONE);
        for (int what : new int[] {-1, 8, 100, Integer.MIN_VALUE, Integer.MAX_VALUE}) {
            due.is("of a bad what", x.of(0, what), NONE);
        }
        for (int pair : new int[] {-1, 1, 6, Integer.MIN_VALUE, Integer.MAX_VALUE}) {
            due.is("of no such pair", x.of(pair, 0), NONE);
        }
        SoleReader b = Due.under("bars if x = 2 and y = 3");
        b.pair(12, 0, 0);
        due.is("BARRED", b.of(0, 7), NONE);
        b.turn(0, 1);
        due.is("not BARRED", b.of(0, 7), 13);
    }

    private static void wallAndWalls() {
        SoleReader x = new SoleReader();
        due.is("wall(3, 1)", x.wall(3, 1), 0);
        due.is("wall(3, 1) again", x.wall(3, 1), 1);
        due.is("wall(24, 1)", x.wall(24, 1), 0);
        due.is("wall(0, 1)", x.wall(0, 1), 0);
        due.is("walls()", x.walls(), 1 << 3 | 1 << 24 | 1);
        due.is("count(1)", x.count(1), 3);
        due.is("wall(3, 0)", x.wall(3, 0), 1);
        due.is("wall(3, 0) again", x.wall(3, 0), 0);
        due.is("walls()", x.walls(), 1 << 24 | 1);
        for (int[] bad : new int[][] {{-1, 0}, {25, 1}, {0, 2}, {0, -1}, {32, 1}}) {
            due.is("bad wall", x.wall(bad[0], bad[1]), -1);
            due.is("status", x.status(), -1);
        }
        due.is("walls()", x.walls(), 1 << 24 | 1);
        SoleReader y = new SoleReader();
        y.pair(12, 0, 0);
        y.wall(12, 1);
        y.wall(17, 1);
        y.step(0);
        y.turn(0, 0);
        due.is("out of a WALL", y.step(0), 11);
        y.turn(0, 0);
        y.turn(0, 0);
        due.is("back into it", y.step(0), -3);
        due.is("can be undone", y.count(4), 4);
        y.wall(12, 0);
        due.is("wall() leaves that", y.count(4), 4);
        due.is("back, no WALL", y.step(0), 12);
    }

    private static void asks() {
        SoleReader x = new SoleReader();
        x.pair(0, 0, 0);
        for (int part = 0; part < 4; part++) {
            due.is("wears without a LAW", x.asks(0, part, 0), 1);
            due.is("leaves without a LAW", x.asks(0, part, 1), 0);
        }
        for (int[] bad : new int[][] {{1, 0, 0}, {-1, 0, 0}, {0, 4, 0}, {0, -1, 0}, {0, 0, 2}, {0, 0, -1}}) {
            due.is("bad asks", x.asks(bad[0], bad[1], bad[2]), NONE);
        }
        due.is("it is not REFUSED", x.count(6), 0);
        SoleReader y = Due.under("wears part * 2; leaves worn / 2 + part");
        y.pair(0, 0, 0);
        y.turn(0, 1);
        y.turn(0, 1);
        due.is("worn", y.of(0, 6), 12);
        due.is("wears", y.asks(0, 3, 0), 6);
        due.is("leaves", y.asks(0, 3, 1), 9);
        due.is("leaves", y.asks(0, 2, 1), 2);
    }

    private static void terms() {
        SoleReader x = new SoleReader();
        due.is("day", x.terms(0, 999), 0);
        due.is("slips", x.terms(1, 10), 1);
        due.is("mood", x.terms(2, 9), 0);
        due.is("day", x.terms(0, 0), 999);
        due.is("slips", x.terms(1, 0), 10);
        due.is("mood", x.terms(2, 0), 9);
        int[][] bad = {{0, 1000}, {0, -1}, {1, 11}, {1, -1}, {2, 10}, {2, -1}, {3, 0}, {-1, 0}};
        for (int[] b : bad) {
            due.is("bad term", x.terms(b[0], b[1]), -1);
        }
        due.is("count(6)", x.count(6), bad.length);
        due.is("count(12)", x.count(12), 0);
        due.is("count(13)", x.count(13), 0);
        due.is("count(14)", x.count(14), 0);
        SoleReader y = Due.under("wears mood; leaves day");
        y.pair(0, 0, 0);
        y.terms(2, 7);
        due.is("mood in a LAW", y.asks(0, 0, 0), 7);
        y.terms(0, 55);
        due.is("day in a LAW", y.asks(0, 0, 1), 55);
    }

    private static void feedAndEnd() {
        SoleReader x = new SoleReader();
        due.is("end(0)", x.end(0), 0);
        due.is("end(1)", x.end(1), NONE);
        due.is("end(-1)", x.end(-1), NONE);
        for (int i = 1; i <= 20; i++) {
            due.is("feed", x.feed(i, i, i, i, i), 20 * i);
        }
        due.is("feed beyond 400", x.feed(0, 0, 0, 0, 0), NONE);
        due.is("count(5)", x.count(5), 400);
        due.is("end(401)", x.end(401), NONE);
        due.is("end(400)", x.end(400), 400);
        due.is("end(381)", x.end(381), 381);
        due.is("feed to 401", x.feed(0, 0, 0, 0, 0), NONE);
        due.is("count(5)", x.count(5), 381);
        due.is("end(382)", x.end(382), NONE);
        due.is("end(380)", x.end(380), 380);
        due.is("feed to 400", x.feed(0, 0, 0, 0, 0), 400);
        due.is("no refusals", x.count(6), 0);
        SoleReader y = new SoleReader();
        y.feed(0x01020304, 0x05060000, 0, 0, 0x18030909);
        y.end(6);
        due.is("the highest byte first", y.row(), 1);
        due.is("cell", y.of(0, 0), 1);
        due.is("way", y.of(0, 1), 2);
        due.is("load", y.of(0, 2), 3);
        SoleReader z = new SoleReader();
        z.feed(0xFFFFFFFF, 0x80808080, 0, 0, 0);
        z.end(6);
        due.is("bytes above 127", z.row(), 0);
        due.is("are BRADS", z.brads(), 2);
    }

    private static void rowAndBrads() {
        SoleReader x = new SoleReader();
        due.is("row of nothing", x.row(), -6);
        due.is("status", x.status(), -6);
        Due.put(x, "\u0000\u0000\u0000\u0018\u0003\u0009\u0019\u0000\u0000\u0000\u0004\u0000\u0000\u0000\n\u0001");
        due.is("row", x.row(), 2);
        due.is("brads", x.brads(), 4);
        due.is("the TAPE is empty", x.count(5), 0);
        due.is("second cell", x.of(1, 0), 24);
        due.is("second way", x.of(1, 1), 3);
        due.is("second load", x.of(1, 2), 9);
        due.is("refused", x.row(), -6);
        due.is("brads stay", x.brads(), 4);
        Due.put(x, "\u0001\u0001\u0001".repeat(6) + "\u0001\u0001");
        due.is("row with no room", x.row(), 4);
        due.is("brads", x.brads(), 3);
        due.is("count(0)", x.count(0), 6);
        x.pass();
        Due.put(x, "\u0001\u0001\u0001");
        due.is("row, full", x.row(), 0);
        SoleReader y = new SoleReader();
        Due.put(y, "\u0001\u0001\u0001");
        due.is("three bytes", y.row(), 1);
        due.is("no BRAD", y.brads(), 0);
        Due.put(y, "\u0002\u0002");
        due.is("what was on the TAPE earlier is gone", y.row(), 0);
        due.is("a BRAD", y.brads(), 1);
        y.feed(0x02020202, 0x02020202, 0, 0, 0);
        y.end(1);
        due.is("what was on the TAPE earlier is gone", y.row(), 0);
        y.feed(0x02020202, 0x02020202, 0, 0, 0);
        y.end(5);
        due.is("a PAIR", y.row(), 1);
        due.is("and a BRAD", y.brads(), 1);
        due.is("brads", x.brads(), 1);
        due.is("nothing can be undone", x.undo(), -3);
    }

    private static void force() {
        SoleReader x = new SoleReader();
        x.pair(0, 0, 0);
        due.is("force(0)", x.force(0), -2);
        due.is("force(-2)", x.force(-2), -2);
        due.is("force(NONE)", x.force(NONE), NONE);
        due.is("status", x.status(), 0);
        Due.law(x, "wears 3");
        Due.law(x, "wears 4");
        due.is("not in FORCE at once", x.asks(0, 0, 0), 1);
        x.pass();
        due.is("force(0)", x.force(0), NONE);
        due.is("by 0", x.asks(0, 0, 0), 3);
        due.is("force(1)", x.force(1), 0);
        due.is("by 1", x.asks(0, 0, 0), 4);
        due.is("count(11)", x.count(11), 1);
        due.is("force(2)", x.force(2), -2);
        due.is("force(NONE)", x.force(NONE), 1);
        due.is("by none", x.asks(0, 0, 0), 1);
        due.is("it leaves what can be undone", x.undo(), 4);
        due.is("count(7)", x.count(7), 3);
    }

    private static void step() {
        SoleReader x = new SoleReader();
        x.pair(22, 0, 0);
        due.is("step out of the YARD", x.step(0), -3);
        due.is("nothing WORN", x.of(0, 3), 0);
        for (int pair : new int[] {-1, 1, 6, Integer.MAX_VALUE}) {
            due.is("no such PAIR", x.step(pair), -2);
        }
        SoleReader y = Due.under("wears x + 1; bars if load > 2 and x = 3");
        y.pair(10, 1, 2);
        y.pair(10, 1, 3);
        due.is("step", y.step(0), 11);
        due.is("WORN by where it was", y.of(0, 3), 1);
        due.is("step", y.step(0), 12);
        due.is("WORN", y.of(0, 3), 3);
        due.is("step", y.step(0), 13);
        due.is("step", y.step(0), 14);
        due.is("WORN", y.of(0, 3), 10);
        y.step(1);
        y.step(1);
        due.is("BARRED", y.step(1), -3);
        due.is("there", y.of(1, 0), 12);
        due.is("WORN", y.of(1, 3), 3);
        SoleReader z = Due.under("wears 9");
        z.pair(0, 0, 0);
        for (int i = 0; i < 12; i++) {
            z.pause(0);
        }
        due.is("WORN 99 at most", z.of(0, 4), 99);
        due.is("pause at 99", z.pause(0), 99);
    }

    private static void turnAndPause() {
        SoleReader x = new SoleReader();
        x.pair(0, 0, 0);
        due.is("left", x.turn(0, 0), 3);
        due.is("left", x.turn(0, 0), 2);
        due.is("right", x.turn(0, 1), 3);
        due.is("right", x.turn(0, 1), 0);
        due.is("right", x.turn(0, 1), 1);
        due.is("LEFT", x.of(0, 5), 2);
        due.is("RIGHT", x.of(0, 6), 3);
        due.is("TOE", x.of(0, 3), 0);
        due.is("HEEL", x.of(0, 4), 0);
        due.is("pause", x.pause(0), 1);
        due.is("pause", x.pause(0), 2);
        due.is("no side", x.turn(0, 2), -1);
        due.is("no side", x.turn(0, -1), -1);
        due.is("no side ahead of no PAIR", x.turn(3, 2), -1);
        due.is("no PAIR", x.turn(1, 1), -2);
        due.is("no PAIR", x.pause(1), -2);
        due.is("no PAIR", x.pause(-1), -2);
        SoleReader y = Due.under("wears way * 2 + 1");
        y.pair(0, 1, 0);
        y.turn(0, 1);
        due.is("as it FACED", y.of(0, 6), 3);
        y.turn(0, 0);
        due.is("as it FACED", y.of(0, 5), 5);
        y.pause(0);
        due.is("as it FACES", y.of(0, 4), 3);
    }

    private static void mend() {
        SoleReader x = new SoleReader();
        x.pair(0, 0, 0);
        due.is("not WORN", x.mend(0, 1), -3);
        x.pause(0);
        x.pause(0);
        due.is("mend", x.mend(0, 1), 2);
        due.is("none left", x.of(0, 4), 0);
        due.is("no part", x.mend(0, 4), -1);
        due.is("no part", x.mend(5, -1), -1);
        due.is("no pair", x.mend(1, 0), -2);
        SoleReader y = Due.under("leaves worn + 40; leaves 1000 if part = 0; leaves 0 - 5 if part = 2");
        y.pair(0, 0, 0);
        y.pause(0);
        due.is("mend", y.mend(0, 1), 1);
        due.is("more than it was", y.of(0, 4), 41);
        y.step(0);
        y.mend(0, 0);
        due.is("99 at most", y.of(0, 3), 99);
        y.turn(0, 0);
        y.mend(0, 2);
        due.is("0 at least", y.of(0, 5), 0);
    }

    private static void pass() {
        SoleReader x = new SoleReader();
        due.is("pass", x.pass(), 1);
        due.is("pass", x.pass(), 2);
        x.terms(0, 998);
        due.is("pass", x.pass(), 999);
        due.is("pass", x.pass(), -3);
        due.is("day", x.count(12), 999);
        due.is("undo", x.undo(), 4);
        due.is("day", x.count(12), 998);
    }

    private static void undo() {
        SoleReader x = Due.under("wears 2; leaves 1");
        x.pair(0, 0, 0);
        x.pair(12, 1, 0);
        due.is("none", x.undo(), -3);
        x.step(0);
        x.turn(1, 0);
        x.pause(0);
        x.mend(0, 0);
        x.pass();
        x.step(5);
        due.is("count(4)", x.count(4), 5);
        x.wall(0, 1);
        x.force(NONE);
        x.seen(0, 0);
        Due.law(x, "bars");
        x.forget();
        x.years(1, 5);
        x.image(0);
        due.is("these leave it", x.count(4), 5);
        due.is("pass", x.undo(), 4);
        due.is("day", x.count(12), 0);
        due.is("it undoes no more", x.of(0, 3), 1);
        due.is("mend", x.undo(), 3);
        due.is("toe", x.of(0, 3), 2);
        due.is("pause", x.undo(), 2);
        due.is("heel", x.of(0, 4), 0);
        due.is("turn", x.undo(), 1);
        due.is("way", x.of(1, 1), 1);
        due.is("left", x.of(1, 5), 0);
        due.is("step", x.undo(), 0);
        due.is("cell, a WALL now", x.of(0, 0), 0);
        due.is("toe", x.of(0, 3), 0);
        due.is("none", x.undo(), -3);
        due.is("count(8)", x.count(8), 2);
    }

    private static void undoIsCleared() {
        SoleReader x = new SoleReader();
        x.pair(0, 0, 0);
        x.pass();
        x.pair(25, 0, 0);
        x.terms(0, -1);
        x.row();
        x.back(0);
        x.back(2);
        due.is("refused calls leave it", x.count(4), 1);
        x.pair(0, 0, 0);
        due.is("pair()", x.count(4), 0);
        x.pass();
        x.terms(2, 0);
        due.is("terms()", x.count(4), 0);
        x.pass();
        Due.put(x, "!!");
        due.is("feed()", x.count(4), 1);
        x.row();
        due.is("row()", x.count(4), 0);
        x.image(1);
        x.pass();
        x.back(1);
        due.is("back()", x.count(4), 0);
        due.is("undo()", x.undo(), -3);
    }

    private static void undoKeepsSixteen() {
        SoleReader x = new SoleReader();
        x.pair(0, 0, 0);
        for (int i = 0; i < 20; i++) {
            x.pause(0);
            due.is("count(4)", x.count(4), Math.min(16, i + 1));
        }
        for (int i = 0; i < 16; i++) {
            due.is("undo", x.undo(), 2);
            due.is("heel", x.of(0, 4), 19 - i);
        }
        due.is("undo", x.undo(), -3);
        due.is("orders", Due.orders(x, "pause 0 times 20"), 20);
        due.is("count(4)", x.count(4), 16);
        due.is("undo", x.undo(), 2);
        due.is("orders", Due.orders(x, "pass times 20; step 5"), -3);
        due.is("count(4)", x.count(4), 15);
        due.is("undo", x.undo(), 2);
        due.is("heel", x.of(0, 4), 22);
    }

    private static void seenForgetCanBe() {
        SoleReader x = new SoleReader();
        due.is("none", x.canBe(), 0);
        for (int i = 0; i < 4; i++) {
            x.pair(0, 0, 0);
        }
        due.is("all", x.canBe(), 15);
        x.pause(1);
        x.pause(2);
        x.turn(2, 0);
        x.pause(3);
        x.pause(3);
        due.is("seen", x.seen(1, 1), 1);
        due.is("canBe", x.canBe(), 6);
        due.is("seen", x.seen(2, 1), 2);
        due.is("canBe", x.canBe(), 4);
        due.is("again", x.seen(2, 1), 3);
        due.is("canBe", x.canBe(), 4);
        due.is("against it", x.seen(2, 0), 4);
        due.is("canBe", x.canBe(), 0);
        due.is("seen", x.seen(3, 99), 5);
        due.is("seen", x.seen(0, 0), 6);
        due.is("seventh", x.seen(0, 0), -5);
        due.is("seventh, bad", x.seen(4, 0), -1);
        for (int[] bad : new int[][] {{-1, 0}, {4, 0}, {0, -1}, {0, 100}}) {
            due.is("bad", x.seen(bad[0], bad[1]), -1);
        }
        due.is("count(2)", x.count(2), 6);
        due.is("it leaves what can be undone", x.count(4), 5);
        due.is("forget", x.forget(), 6);
        due.is("forget", x.forget(), 0);
        due.is("canBe", x.canBe(), 15);
        due.is("count(2)", x.count(2), 0);
    }

    private static void years() {
        SoleReader x = new SoleReader();
        due.is("no PAIRS", x.years(0, 1), -3);
        due.is("bad ahead of no PAIRS", x.years(0, 0), -1);
        for (int[] bad : new int[][] {{-1, 1}, {1000001, 1}, {0, 0}, {0, 61}, {0, -5}}) {
            due.is("bad", x.years(bad[0], bad[1]), -1);
        }
        x.pair(12, 0, 0);
        x.pair(0, 1, 0);
        x.pass();
        // s: 12345, 628841, 621889; so PAIR 1 (of 2), 1 (of 4), 1 (of 2): it STEPS
        due.is("years", x.years(0, 1), 1);
        due.is("it stepped", x.drawn(1, 0), 1);
        due.is("its TOE", x.drawn(1, 2), 1);
        due.is("the other one stays", x.drawn(0, 0), 12);
        due.is("on paper", x.of(1, 0), 0);
        due.is("on paper, day", x.count(12), 1);
        due.is("on paper, undo", x.count(4), 1);
        // s by seed 1: 13448, 845447, 537590; 845447 % 4 = 3: PAIR 0 PAUSES
        due.is("no STEP", x.years(1, 1), 0);
        due.is("its HEEL", x.drawn(0, 3), 1);
        // s by seed 11: 24478, 11498, 694603; 11498 % 4 = 2, 694603 % 2 = 1: PAIR 0 TURNS right
        due.is("no STEP", x.years(11, 1), 0);
        due.is("its WAY", x.drawn(0, 1), 1);
        due.is("its RIGHT", x.drawn(0, 5), 1);
        due.is("the other's WAY", x.drawn(1, 1), 1);
        // s by seed 31: 46538, 343606, 8626; 343606 % 4 = 2, 8626 % 2 = 0: PAIR 0 TURNS left
        due.is("no STEP", x.years(31, 1), 0);
        due.is("its WAY", x.drawn(0, 1), 3);
        due.is("its LEFT", x.drawn(0, 4), 1);
        SoleReader y = new SoleReader();
        y.pair(5, 2, 0);
        due.is("a STEP to CELL 0 is one, too", y.years(7, 1), 1);
        due.is("CELL 0", y.drawn(0, 0), 0);
        due.is("largest seed", x.years(1000000, 60) >= 0 ? 1 : 0, 1);
    }

    private static void yearsEnd() {
        SoleReader x = Due.under("wears day - 990");
        x.pair(12, 0, 0);
        x.terms(0, 999);
        due.is("at DAY 999", x.years(7, 60), 0);
        due.is("cell", x.drawn(0, 0), 12);
        x.terms(0, 996);
        // draws of 4 by seed 7: 145077 % 4 = 1, 812556 % 4 = 0, 169136 % 4 = 0; the third STEP leaves the YARD
        due.is("three days are left", x.years(7, 60), 2);
        due.is("cell", x.drawn(0, 0), 22);
        due.is("WORN 6 and 7, the DAY on paper", x.drawn(0, 2), 13);
        due.is("HEEL", x.drawn(0, 3), 0);
        x.wall(17, 1);
        x.wall(13, 1);
        x.wall(7, 1);
        x.wall(11, 1);
        due.is("no STEP can be", x.years(3, 60), 0);
        due.is("cell", x.drawn(0, 0), 12);
    }

    private static void drawn() {
        SoleReader x = new SoleReader();
        x.pair(12, 0, 0);
        x.years(42, 60);
        int total = 0;
        for (int part = 0; part < 4; part++) {
            total += x.drawn(0, 2 + part);
        }
        due.holds("WORN on paper", total > 0 && total <= 60);
        int cell = x.drawn(0, 0);
        x.pair(3, 0, 0);
        due.is("a later PAIR", x.drawn(1, 0), NONE);
        x.years(42, 0);
        x.step(0);
        due.is("the latest stays", x.drawn(0, 0), cell);
        for (int[] bad : new int[][] {{0, -1}, {0, 6}, {-1, 0}, {6, 0}}) {
            due.is("bad", x.drawn(bad[0], bad[1]), NONE);
        }
        x.image(0);
        x.years(43, 60);
        int then = x.drawn(1, 0);
        x.back(0);
        due.is("IMAGES do not keep it", x.drawn(1, 0), then);
    }

    private static void images() {
        SoleReader x = Due.under("wears 3");
        for (int bad : new int[] {-1, 2, Integer.MAX_VALUE}) {
            due.is("image", x.image(bad), -1);
            due.is("back", x.back(bad), -1);
        }
        due.is("back", x.back(1), -2);
        x.pair(12, 0, 4);
        x.pause(0);
        x.wall(3, 1);
        x.terms(1, 5);
        x.seen(2, 2);
        due.is("image(0)", x.image(0), 0);
        x.step(0);
        x.pair(1, 1, 1);
        x.pause(1);
        x.step(1);
        x.turn(1, 0);
        x.wall(3, 0);
        x.wall(4, 1);
        x.terms(0, 9);
        x.terms(1, 6);
        x.terms(2, 7);
        x.forget();
        Due.law(x, "wears 5");
        x.force(1);
        due.is("image(1)", x.image(1), 0);
        due.is("back(0)", x.back(0), 0);
        due.is("pairs", x.count(0), 1);
        due.is("cell", x.of(0, 0), 12);
        due.is("heel", x.of(0, 4), 3);
        due.is("toe", x.of(0, 3), 0);
        due.is("walls", x.walls(), 8);
        due.is("day", x.count(12), 0);
        due.is("slips", x.count(13), 5);
        due.is("mood", x.count(14), 0);
        due.is("seen", x.count(2), 1);
        due.is("laws", x.count(3), 1);
        due.is("force", x.count(11), 0);
        due.is("a new PAIR is not WORN", x.pair(2, 2, 2), 1);
        due.is("heel", x.of(1, 4), 0);
        due.is("toe", x.of(1, 3), 0);
        due.is("left", x.of(1, 5), 0);
        due.is("a new LAW", Due.law(x, "wears 7"), 1);
        x.force(1);
        due.is("by the new LAW", x.asks(0, 0, 0), 7);
        due.is("back(1)", x.back(1), 0);
        due.is("by the old LAW", x.asks(0, 0, 0), 5);
        due.is("heel", x.of(1, 4), 3);
        due.is("load", x.of(1, 2), 1);
        due.is("back(0) again", x.back(0), 0);
        due.is("pairs", x.count(0), 1);
        due.is("canBe", x.canBe(), 0);
        x.forget();
        x.seen(1, 3);
        x.image(0);
        x.forget();
        x.seen(2, 50);
        due.is("canBe", x.canBe(), 0);
        x.back(0);
        due.is("what was SEEN then", x.canBe(), 1);
        imagesOfSix();
    }

    private static void imagesOfSix() {
        SoleReader x = new SoleReader();
        for (int i = 0; i < 6; i++) {
            x.pair(12, 0, i);
            x.turn(i, 1);
        }
        x.image(0);
        for (int i = 0; i < 6; i++) {
            x.turn(i, 1);
            x.step(i);
        }
        x.back(0);
        for (int i = 0; i < 6; i++) {
            due.is("right", x.of(i, 6), 1);
            due.is("toe", x.of(i, 3), 0);
            due.is("cell", x.of(i, 0), 12);
            due.is("way", x.of(i, 1), 1);
            due.is("load", x.of(i, 2), i);
        }
    }

    private static void imagesKeepNotAll() {
        SoleReader x = new SoleReader();
        x.image(0);
        Due.put(x, "zzzz");
        x.row();
        Due.law(x, "wears");
        due.is("fault", x.fault(), 5);
        Due.orders(x, "pass; step 0");
        Due.put(x, "tape");
        x.back(0);
        due.is("brads", x.brads(), 2);
        due.is("fault", x.fault(), NONE);
        due.is("stopped", x.stopped(), 1);
        due.is("tape", x.count(5), 4);
        due.is("refusals", x.count(10), 1);
        due.is("refusals", x.count(8), 1);
        due.is("the IMAGE stays", x.back(0), 0);
    }

    private static void count() {
        SoleReader x = new SoleReader();
        x.pair(-1, 0, 0);
        x.step(0);
        x.undo();
        x.row();
        x.force(3);
        x.turn(0, 9);
        x.of(-1, -1);
        x.way(-1, -1, -1);
        x.feed(0, 0, 0, 0, 0);
        x.end(-1);
        due.is("count(6)", x.count(6), 2);
        due.is("count(7)", x.count(7), 2);
        due.is("count(8)", x.count(8), 1);
        due.is("count(9)", x.count(9), 0);
        due.is("count(10)", x.count(10), 1);
        due.is("count(5)", x.count(5), 20);
        due.is("count(15)", x.count(15), NONE);
        due.is("count(-1)", x.count(-1), NONE);
        due.is("count of most", x.count(Integer.MAX_VALUE), NONE);
        x.pass();
        Due.orders(x, "step 0");
        due.is("ORDERS count once, the rest of the TAPE a FAULT", x.count(10), 2);
        Due.orders(x, "step 0");
        due.is("count(8)", x.count(8), 2);
        due.is("what ORDERS try is no call", x.count(7), 2);
    }

    private static void status() {
        SoleReader x = new SoleReader();
        x.pair(0, 0, 12);
        due.is("pair", x.status(), -1);
        x.of(0, 0);
        x.feed(0, 0, 0, 0, 0);
        x.end(-1);
        x.walls();
        x.forget();
        x.canBe();
        x.few(0, 0);
        due.is("others leave it", x.status(), -1);
        x.pair(0, 0, 1);
        due.is("pair", x.status(), 0);
        x.step(1);
        due.is("step", x.status(), -2);
        x.force(NONE);
        due.is("force answers NONE, not REFUSED", x.status(), 0);
        x.undo();
        due.is("undo", x.status(), -3);
        x.image(0);
        due.is("image", x.status(), 0);
        x.back(1);
        due.is("back", x.status(), -2);
        x.back(0);
        due.is("back", x.status(), 0);
        x.law();
        due.is("law", x.status(), -6);
        x.pass();
        due.is("pass", x.status(), 0);
        x.orders();
        due.is("orders", x.status(), -6);
        x.turn(0, 0);
        x.mend(0, 0);
        due.is("mend", x.status(), -3);
        x.seen(0, 0);
        due.is("seen", x.status(), 0);
        x.years(-1, 0);
        due.is("years", x.status(), -1);
        x.wall(0, 0);
        due.is("wall", x.status(), 0);
        x.terms(0, -1);
        due.is("terms", x.status(), -1);
        x.pause(0);
        due.is("pause", x.status(), 0);
        x.row();
        due.is("row", x.status(), -6);
    }
}
