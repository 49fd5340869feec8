/** Promises 23 to 31 and 35 to 38: what is reckoned on paper. */
public final class PaperTests {
    private static final Due due = new Due("PaperTests");
    private static final int NONE = SoleReader.NONE;
    private static final long WHOLE = 1_000_000_000_000L;

    public static void main(String[] args) {
        waysAndEnds();
        way();
        least();
        chance();
        within();
        couples();
        likest();
        lasts();
        look();
        cutOff();
        few();
        compare();
        nothingIsDone();
        due.close();
    }

    private static void waysAndEnds() {
        SoleReader x = new SoleReader();
        x.pair(12, 0, 0);
        for (int[] bad : new int[][] {{1, 0, 0, 0}, {-1, 0, 0, 0}, {0, 7, 0, 0}, {0, 0, 7, 0}, {0, 0, 0, 7},
            {0, -1, 0, 0}, {0, 0, -1, 0}, {0, 0, 0, -1}}) {
            due.is("bad ways", x.ways(bad[0], bad[1], bad[2], bad[3]), NONE);
            due.is("bad ends", x.ends(bad[0], bad[1], bad[2], bad[3]), NONE);
        }
        due.is("no act", x.ways(0, 0, 0, 0), 1);
        due.is("no act ends", x.ends(0, 0, 0, 0), 1 << 12);
        due.is("TURNS alone", x.ways(0, 0, 6, 6), 924);
        due.is("TURNS alone end", x.ends(0, 0, 6, 6), 1 << 12);
        due.is("a STEP and a TURN", x.ends(0, 1, 1, 0), 1 << 17 | 1 << 11);
        due.is("two STEPS", x.ways(0, 2, 0, 0), 1);
        due.is("three STEPS", x.ways(0, 3, 0, 0), 0);
        due.is("three STEPS end", x.ends(0, 3, 0, 0), 0);
        // LSS, SLS, SSL
        due.is("two STEPS, a TURN", x.ways(0, 2, 1, 0), 3);
        due.is("their ends", x.ends(0, 2, 1, 0), 1 << 10 | 1 << 16 | 1 << 22);
        x.wall(17, 1);
        due.is("with a WALL", x.ways(0, 2, 1, 0), 1);
        due.is("with a WALL", x.ends(0, 2, 1, 0), 1 << 10);
        SoleReader y = Due.under("bars if way = 1");
        y.pair(0, 0, 0);
        due.is("BARRED to the right", y.ends(0, 1, 0, 1), 1 << 5);
        due.is("by hand", y.ways(0, 1, 0, 1), 1);
        SoleReader z = new SoleReader();
        z.pair(0, 0, 0);
        z.wall(0, 1);
        due.is("out of a WALL, and not back", z.ways(0, 2, 2, 0), 1);
        z.wall(0, 0);
        due.is("back to where no WALL is", z.ways(0, 2, 2, 0), 2);
    }

    private static void acts(SoleReader x, int pair, int cell, String want) {
        due.is("way to " + cell, x.way(pair, cell, NONE), want.length());
        for (int i = 0; i < want.length(); i++) {
            due.is("way to " + cell + ", act " + i, x.way(pair, cell, i), want.charAt(i) - '0');
        }
        due.is("way to " + cell + ", behind", x.way(pair, cell, want.length()), NONE);
        due.is("way to " + cell + ", ahead", x.way(pair, cell, -2), NONE);
    }

    private static void way() {
        SoleReader x = new SoleReader();
        x.pair(12, 0, 0);
        acts(x, 0, 12, "");
        acts(x, 0, 22, "00");
        acts(x, 0, 11, "10");
        acts(x, 0, 13, "20");
        acts(x, 0, 7, "110");
        acts(x, 0, 24, "00200");
        acts(x, 0, 6, "1010");
        acts(x, 0, 8, "2020");
        x.wall(17, 1);
        acts(x, 0, 22, "1020020");
        due.is("into a WALL", x.way(0, 17, NONE), NONE);
        due.is("into a WALL", x.way(0, 17, 0), NONE);
        for (int[] bad : new int[][] {{1, 0}, {-1, 0}, {0, 25}, {0, -1}}) {
            due.is("bad way", x.way(bad[0], bad[1], NONE), NONE);
        }
        due.is("far i", x.way(0, 22, Integer.MAX_VALUE), NONE);
        due.is("far i", x.way(0, 22, Integer.MIN_VALUE), NONE);
        SoleReader y = Due.under("bars if way = 3");
        y.pair(12, 3, 0);
        due.is("never left", y.way(0, 11, NONE), NONE);
        acts(y, 0, 13, "110");
        SoleReader z = new SoleReader();
        z.pair(12, 0, 0);
        z.wall(12, 1);
        acts(z, 0, 12, "");
        acts(z, 0, 17, "0");
    }

    private static void least() {
        SoleReader x = new SoleReader();
        x.pair(12, 0, 0);
        due.is("there", x.least(0, 12), 0);
        due.is("acts each 1", x.least(0, 24), 5);
        x.wall(17, 1);
        due.is("into a WALL", x.least(0, 17), NONE);
        for (int[] bad : new int[][] {{1, 0}, {-1, 0}, {0, 25}, {0, -1}}) {
            due.is("bad least", x.least(bad[0], bad[1]), NONE);
        }
        SoleReader y = Due.under("wears 9 if part = 3; wears 1 if part = 2; wears 2 if part = 0");
        y.pair(12, 0, 0);
        due.is("three left for one right", y.least(0, 13), 5);
        due.is("left", y.least(0, 11), 3);
        SoleReader z = Due.under("wears 0; wears 5 if part = 0 and y = 3");
        z.pair(12, 0, 0);
        due.is("around", z.least(0, 22), 5);
        z.wall(17, 1);
        due.is("around", z.least(0, 22), 5);
        SoleReader w = Due.under("wears worn + 1");
        w.pair(0, 0, 0);
        due.is("WORN as now", w.least(0, 20), 4);
        w.step(0);
        due.is("WORN as now", w.least(0, 20), 6);
        SoleReader v = Due.under("wears 9");
        v.pair(0, 0, 0);
        for (int i = 0; i < 11; i++) {
            v.turn(0, 1);
        }
        due.is("WORN 99", v.of(0, 6), 99);
        due.is("99 does not cut", v.least(0, 20), 45);
    }

    private static void chance() {
        SoleReader x = new SoleReader();
        x.pair(12, 0, 0);
        due.is("no act", x.chance(0, 12, 0), WHOLE);
        due.is("no act", x.chance(0, 17, 0), 0);
        due.is("one act", x.chance(0, 17, 1), WHOLE / 3);
        due.is("one act", x.chance(0, 12, 1), 2 * (WHOLE / 3));
        long ninth = WHOLE / 3 / 3;
        due.is("two acts", x.chance(0, 22, 2), ninth);
        due.is("two acts", x.chance(0, 17, 2), 2 * ninth);
        due.is("two acts", x.chance(0, 11, 2), ninth);
        due.is("two acts", x.chance(0, 13, 2), ninth);
        due.is("two acts", x.chance(0, 12, 2), 4 * ninth);
        for (int[] bad : new int[][] {{1, 0, 0}, {-1, 0, 0}, {0, 25, 0}, {0, -1, 0}, {0, 0, -1}, {0, 0, 31}}) {
            due.is("bad chance", x.chance(bad[0], bad[1], bad[2]), NONE);
        }
        SoleReader y = Due.under("bars");
        y.pair(12, 0, 0);
        long all = y.chance(0, 12, 30);
        due.holds("it stays, less what is lost", all < WHOLE && all > WHOLE - 100_000);
        due.is("nowhere else", y.chance(0, 17, 30), 0);
        long sum = 0;
        for (int cell = 0; cell < 25; cell++) {
            sum += x.chance(0, cell, 30);
        }
        due.holds("over all CELLS, less what is lost", sum < WHOLE && sum > WHOLE - 100_000);
    }

    private static void within() {
        SoleReader x = new SoleReader();
        due.is("no PAIRS", x.within(0, 0), 0);
        x.pair(0, 0, 0);
        x.pair(12, 0, 0);
        x.pair(12, 2, 0);
        x.pair(24, 1, 0);
        due.is("there", x.within(12, 0), 6);
        due.is("to 22", x.within(22, 2), 2);
        due.is("to 22", x.within(22, 4), 6 | 8);
        due.is("all", x.within(22, 100), 15);
        due.is("n too much", x.within(22, 101), NONE);
        due.is("n too few", x.within(22, -1), NONE);
        due.is("no CELL", x.within(25, 0), NONE);
        due.is("no CELL", x.within(-1, 0), NONE);
        x.wall(12, 1);
        due.is("a WALL", x.within(12, 100), 6);
    }

    private static void couples() {
        SoleReader x = new SoleReader();
        due.is("none", x.couples(0), 0);
        due.is("none", x.couples(1), NONE);
        x.pair(0, 0, 0);
        due.is("one", x.couples(0), 0);
        due.is("one, alone", x.couples(1), 0);
        for (int i = 1; i < 6; i++) {
            x.pair(0, 0, 0);
        }
        int[] heels = {0, 5, 9, 1, 6, 12};
        for (int pair = 0; pair < 6; pair++) {
            for (int i = 0; i < heels[pair]; i++) {
                x.pause(pair);
            }
        }
        int[] want = {1 + 1 + 3, 3, 4, 5, 0, 1, 2};
        for (int what = 0; what <= 6; what++) {
            due.is("couples(" + what + ")", x.couples(what), want[what]);
        }
        due.is("couples(7)", x.couples(7), NONE);
        due.is("couples(-1)", x.couples(-1), NONE);
        SoleReader y = new SoleReader();
        for (int i = 0; i < 4; i++) {
            y.pair(0, 0, 0);
        }
        int[] first = {0, 1, 0, 3, 2};
        for (int what = 1; what <= 4; what++) {
            due.is("alike, the first row", y.couples(what), first[what]);
        }
        y.pair(0, 0, 0);
        int[] odd = {0, 0, 2, 1, 4, 3};
        for (int what = 1; what <= 5; what++) {
            due.is("odd, the first row", y.couples(what), odd[what]);
        }
        y.turn(2, 0);
        y.turn(2, 1);
        int[] other = {0, 1, 0, 2, 4, 3};
        for (int what = 0; what <= 5; what++) {
            due.is("one is unlike", y.couples(what), other[what]);
        }
    }

    private static void likest() {
        SoleReader x = new SoleReader();
        due.is("no PAIR", x.likest(0), NONE);
        x.pair(0, 0, 0);
        due.is("no other", x.likest(0), NONE);
        x.pair(0, 0, 0);
        x.pair(0, 0, 0);
        due.is("the lowest", x.likest(2), 0);
        due.is("the lowest", x.likest(0), 1);
        x.pause(0);
        x.turn(2, 0);
        due.is("by each PART", x.likest(2), 1);
        due.is("by each PART", x.likest(0), 1);
        x.pause(1);
        x.pause(1);
        x.turn(1, 1);
        due.is("nearer", x.likest(1), 0);
        due.is("nearer", x.likest(0), 1);
        SoleReader y = new SoleReader();
        for (int i = 0; i < 3; i++) {
            y.pair(0, 0, 0);
        }
        y.step(0);
        y.step(2);
        due.is("by the TOE", y.likest(0), 2);
        due.is("by the TOE", y.couples(1), 2);
        due.is("by RIGHT, too", y.turn(2, 1) >= 0 && y.turn(2, 1) >= 0 && y.likest(0) == 1 ? 1 : 0, 1);
        due.is("no such PAIR", x.likest(3), NONE);
        due.is("no such PAIR", x.likest(-1), NONE);
    }

    private static void lasts() {
        SoleReader x = new SoleReader();
        x.pair(0, 0, 0);
        due.is("99 times 1", x.lasts(0, 0), 99);
        x.pause(0);
        due.is("98", x.lasts(0, 1), 98);
        for (int[] bad : new int[][] {{1, 0}, {-1, 0}, {0, 4}, {0, -1}}) {
            due.is("bad lasts", x.lasts(bad[0], bad[1]), NONE);
        }
        SoleReader y = Due.under("wears 9; wears 0 if part = 1; wears worn / 10 + 1 if part = 2;"
            + "wears 5 if part = 3; wears 0 if part = 3 and worn > 97");
        y.pair(0, 0, 0);
        due.is("11 times 9", y.lasts(0, 0), 11);
        due.is("never", y.lasts(0, 1), NONE);
        int worn = 0;
        int times = 0;
        while (worn < 99) {
            worn += Math.min(9, worn / 10 + 1);
            times++;
        }
        due.is("as it is then", y.lasts(0, 2), times);
        due.is("5 times 20 is past 99", y.lasts(0, 3), 20);
        for (int i = 0; i < times; i++) {
            y.turn(0, 0);
        }
        due.is("99 now", y.of(0, 5), 99);
        due.is("99 now", y.lasts(0, 2), 0);
    }

    private static void look() {
        SoleReader x = new SoleReader();
        due.is("none", x.look(0), NONE);
        due.is("none", x.look(1), NONE);
        for (int i = 0; i < 4; i++) {
            x.pair(0, 0, 0);
        }
        due.is("alike: the lowest", x.look(0), 0);
        due.is("alike", x.look(1), 4);
        x.turn(0, 0);
        x.turn(1, 0);
        x.turn(3, 1);
        due.is("2 and 2 at LEFT", x.look(0), 2);
        due.is("2 left", x.look(1), 2);
        x.turn(2, 1);
        x.turn(2, 1);
        due.is("still LEFT, the lowest", x.look(0), 2);
        x.turn(0, 1);
        x.turn(0, 1);
        x.turn(0, 1);
        due.is("all unlike at RIGHT", x.look(0), 3);
        due.is("1 left", x.look(1), 1);
        x.seen(3, 1);
        due.is("but one", x.look(0), 0);
        due.is("but one", x.look(1), 1);
        x.seen(3, 2);
        due.is("it can be none", x.look(0), NONE);
        due.is("it can be none", x.look(1), NONE);
        x.forget();
        SoleReader y = new SoleReader();
        for (int i = 0; i < 3; i++) {
            y.pair(0, 0, 0);
        }
        y.step(2);
        due.is("the most that are alike", y.look(1), 2);
        y.seen(0, 0);
        due.is("of those it can be", y.look(1), 2);
        y.step(1);
        due.is("of those it can be", y.look(1), 1);
        due.is("of those it can be", y.look(0), 0);
        due.is("bad what", x.look(2), NONE);
        due.is("bad what", x.look(-1), NONE);
    }

    private static void cutOff() {
        SoleReader x = new SoleReader();
        due.is("none", x.cutOff(), 0);
        for (int cell = 4; cell <= 20; cell += 4) {
            x.wall(cell, 1);
        }
        int beyond = 0;
        for (int cell = 0; cell < 25; cell++) {
            beyond |= cell % 5 + cell / 5 > 4 ? 1 << cell : 0;
        }
        due.is("aslant", x.cutOff(), beyond);
        x.wall(12, 0);
        due.is("a gap", x.cutOff(), 0);
        x.wall(12, 1);
        x.wall(0, 1);
        due.is("CELL 0 a WALL", x.cutOff(), 0x1FFFFFF & ~x.walls());
        SoleReader y = Due.under("bars");
        due.is("laws aside", y.cutOff(), 0);
        // a wall along x = 2 but for y = 4: and no way around the edge from x = 4 to the next row's x = 0
        for (int yy = 0; yy < 5; yy++) {
            y.wall(5 * yy + 2, 1);
        }
        due.is("both right columns", y.cutOff(), 0x18C6318);
        y.wall(22, 0);
        due.is("through y = 4", y.cutOff(), 0);
        SoleReader z = new SoleReader();
        for (int cell = 0; cell < 25; cell++) {
            z.wall(cell, 1);
        }
        due.is("all WALLS", z.cutOff(), 0);
        z.wall(0, 0);
        due.is("but CELL 0", z.cutOff(), 0);
    }

    private static void few() {
        SoleReader x = new SoleReader();
        due.is("no step", x.few(1, 0), WHOLE);
        due.is("one", x.few(1, 1), 900_000_000_000L);
        due.is("one, fewer than 2", x.few(2, 1), WHOLE);
        due.is("three, fewer than 2", x.few(2, 3), 972_000_000_000L);
        due.is("three, fewer than 20", x.few(20, 3), WHOLE);
        for (int[] bad : new int[][] {{0, 1}, {21, 1}, {1, -1}, {1, 100}, {-1, 1}}) {
            due.is("bad few", x.few(bad[0], bad[1]), NONE);
        }
        long part = WHOLE;
        for (int i = 0; i < 99; i++) {
            part = part * 9 / 10;
        }
        due.is("cut step by step", x.few(1, 99), part);
        x.terms(1, 0);
        due.is("none slips", x.few(1, 99), WHOLE);
        x.terms(1, 10);
        due.is("each slips", x.few(20, 19), WHOLE);
        due.is("each slips", x.few(20, 20), 0);
        x.terms(1, 3);
        due.is("3 of ten", x.few(2, 2), 910_000_000_000L);
    }

    private static void compare() {
        SoleReader x = new SoleReader();
        Due.law(x, "wears 4");
        Due.law(x, "wears part + load; bars");
        x.pair(0, 0, 2);
        x.force(0);
        due.is("in FORCE", x.asks(0, 3, 0), 4);
        due.is("another", x.compare(1, 0, 3), 5);
        due.is("the same", x.compare(0, 0, 3), 4);
        due.is("none", x.compare(NONE, 0, 3), 1);
        due.is("still in FORCE", x.count(11), 0);
        for (int[] bad : new int[][] {{2, 0, 0}, {-2, 0, 0}, {0, 1, 0}, {0, -1, 0}, {0, 0, 4}, {0, 0, -1}}) {
            due.is("bad compare", x.compare(bad[0], bad[1], bad[2]), NONE);
        }
    }

    private static void nothingIsDone() {
        SoleReader x = Due.under("wears 3; bars if x = 4");
        x.pair(12, 0, 0);
        x.pair(3, 1, 0);
        x.step(0);
        x.ways(0, 6, 6, 6);
        x.ends(0, 6, 6, 6);
        x.way(0, 0, 3);
        x.least(0, 0);
        x.chance(0, 0, 30);
        x.within(0, 9);
        x.couples(1);
        x.likest(0);
        x.lasts(0, 0);
        x.look(0);
        x.cutOff();
        x.few(3, 3);
        x.compare(NONE, 0, 0);
        due.is("cell", x.of(0, 0), 17);
        due.is("toe", x.of(0, 3), 3);
        due.is("undo", x.count(4), 1);
        due.is("day", x.count(12), 0);
        due.is("status", x.status(), 0);
    }
}
