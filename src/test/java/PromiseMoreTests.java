/** Promises 23 to 44, sentence by sentence: what is reckoned on paper, SEEN, YEARS, IMAGES, counts, status. */
public final class PromiseMoreTests {
    private static final Due due = new Due("PromiseMoreTests");
    private static final int NONE = SoleReader.NONE;
    private static final int LEAST = Integer.MIN_VALUE;
    private static final int MOST = Integer.MAX_VALUE;
    private static final long WHOLE = 1_000_000_000_000L;

    public static void main(String[] args) {
        ways();
        ends();
        way();
        least();
        chance();
        within();
        couples();
        likest();
        lasts();
        seen();
        forget();
        canBe();
        look();
        cutOff();
        few();
        compare();
        years();
        drawn();
        image();
        back();
        count();
        status();
        due.close();
    }

    private static final int[][] NO_WAYS = {{-1, 0, 0, 0}, {1, 0, 0, 0}, {6, 0, 0, 0}, {0, -1, 0, 0}, {0, 7, 0, 0}, {0, 0, -1, 0},
        {0, 0, 7, 0}, {0, 0, 0, -1}, {0, 0, 0, 7}, {LEAST, 0, 0, 0}, {MOST, 0, 0, 0}, {0, LEAST, 0, 0}, {0, MOST, 0, 0},
        {0, 0, LEAST, 0}, {0, 0, MOST, 0}, {0, 0, 0, LEAST}, {0, 0, 0, MOST}};

    private static void ways() {
        due.sentence("WAYS of a PAIR: how many.");
        SoleReader x = Due.at(12, 0);
        due.is("no act: one", x.ways(0, 0, 0, 0), 1);
        due.is("a STEP", x.ways(0, 1, 0, 0), 1);
        due.is("three STEPS", x.ways(0, 3, 0, 0), 0);
        due.is("TURNS", x.ways(0, 0, 6, 6), 924);
        due.is("six left", x.ways(0, 0, 6, 0), 1);
        due.is("a STEP among TURNS", x.ways(0, 1, 6, 6), 13 * 924);
        due.is("two STEPS among TURNS", x.ways(0, 2, 6, 6), 91 * 924);
        due.is("LSS, SLS, SSL", x.ways(0, 2, 1, 0), 3);
        due.is("it does nothing", x.of(0, 0) + x.of(0, 3) + x.count(4), 12);
        due.sentence("NONE (no such PAIR; steps, left, right not 0 .. 6).");
        due.holds("the most of each", x.ways(0, 6, 6, 6) > 0);
        for (int[] bad : NO_WAYS) {
            due.is("ways", x.ways(bad[0], bad[1], bad[2], bad[3]), NONE);
        }
        due.quotesAllOf(Document.promise(23));
    }

    private static void ends() {
        due.sentence("CELLS at which they can end, as bits.");
        SoleReader x = Due.at(12, 0);
        due.is("no act", x.ends(0, 0, 0, 0), 1 << 12);
        due.is("TURNS", x.ends(0, 0, 6, 6), 1 << 12);
        due.is("a STEP", x.ends(0, 1, 0, 0), 1 << 17);
        due.is("three STEPS", x.ends(0, 3, 0, 0), 0);
        due.is("a STEP, a TURN", x.ends(0, 1, 1, 0), 1 << 17 | 1 << 11);
        due.is("LSS, SLS, SSL", x.ends(0, 2, 1, 0), 1 << 10 | 1 << 16 | 1 << 22);
        due.is("CELL 24", Due.at(19, 0).ends(0, 1, 0, 0), 1 << 24);
        due.is("CELL 0", Due.at(1, 3).ends(0, 1, 0, 0), 1);
        due.sentence("NONE (as for ways()).");
        due.holds("the most of each", x.ends(0, 6, 6, 6) > 0);
        for (int[] bad : NO_WAYS) {
            due.is("ends", x.ends(bad[0], bad[1], bad[2], bad[3]), NONE);
        }
        due.quotesAllOf(Document.promise(24));
    }

    private static void way() {
        due.sentence("A WAY of a PAIR to a CELL: how many acts (i NONE; there: 0), the i-th.");
        SoleReader x = Due.at(12, 0);
        due.is("there", x.way(0, 12, NONE), 0);
        due.is("one", x.way(0, 17, NONE), 1);
        due.is("five", x.way(0, 24, NONE), 5);
        int[] acts = {0, 0, 2, 0, 0};
        for (int i = 0; i < 5; i++) {
            due.is("act " + i, x.way(0, 24, i), acts[i]);
        }
        due.is("left", x.way(0, 11, 0), 1);
        due.is("right", x.way(0, 13, 0), 2);
        due.sentence("NONE (it does not come there; not so many; no such PAIR, CELL).");
        x.wall(17, 1);
        due.is("a WALL", x.way(0, 17, NONE), NONE);
        due.is("a WALL", x.way(0, 17, 0), NONE);
        for (int cell = 0; cell < 25; cell++) {
            due.is("BARRED", Due.at(12, 0, "bars").way(0, cell, NONE), cell == 12 ? 0 : NONE);
            due.is("BARRED", Due.at(12, 0, "bars").way(0, cell, 0), NONE);
        }
        due.is("there: no act", x.way(0, 12, 0), NONE);
        for (int i : new int[] {-2, 5, 6, 100, LEAST, MOST}) {
            due.is("act " + i, Due.at(12, 0).way(0, 24, i), NONE);
        }
        for (int bad : new int[] {-1, 1, 6, LEAST, MOST}) {
            due.is("PAIR " + bad, x.way(bad, 12, NONE), NONE);
            due.is("PAIR " + bad, x.way(bad, 13, 0), NONE);
        }
        for (int bad : new int[] {-1, 25, LEAST, MOST}) {
            due.is("CELL " + bad, x.way(0, bad, NONE), NONE);
            due.is("CELL " + bad, x.way(0, bad, 0), NONE);
        }
        due.quotesAllOf(Document.promise(25));
    }

    private static void least() {
        due.sentence("LEAST (there: 0).");
        SoleReader x = Due.at(12, 0, "wears 3; wears 2 if part = 2; wears 9 if part = 3");
        due.is("there", x.least(0, 12), 0);
        due.is("a STEP", x.least(0, 17), 3);
        due.is("a TURN, a STEP", x.least(0, 11), 5);
        due.is("three TURNS, a STEP", x.least(0, 13), 9);
        due.sentence("NONE (it does not come there; no such PAIR, CELL).");
        x.wall(17, 1);
        due.is("a WALL", x.least(0, 17), NONE);
        for (int cell = 0; cell < 25; cell++) {
            due.is("BARRED", Due.at(12, 0, "bars").least(0, cell), cell == 12 ? 0 : NONE);
        }
        for (int bad : new int[] {-1, 1, 6, LEAST, MOST}) {
            due.is("PAIR " + bad, x.least(bad, 12), NONE);
        }
        for (int bad : new int[] {-1, 25, LEAST, MOST}) {
            due.is("CELL " + bad, x.least(0, bad), NONE);
        }
        due.quotesAllOf(Document.promise(26));
    }

    private static void chance() {
        due.sentence("BY CHANCE behind n acts 0 .. 30.");
        SoleReader x = Due.at(12, 0);
        due.is("no act", x.chance(0, 12, 0), WHOLE);
        due.is("no act", x.chance(0, 17, 0), 0);
        due.is("one", x.chance(0, 17, 1), 333_333_333_333L);
        due.is("two", x.chance(0, 22, 2), 111_111_111_111L);
        for (int n = 0; n <= 30; n++) {
            long all = 0;
            for (int cell = n % 2; cell < 25; cell += 2) {
                all += x.chance(0, cell, n);
            }
            due.holds("n " + n, all >= 0 && all <= WHOLE);
        }
        due.sentence("NONE (no such PAIR, CELL; others).");
        for (int bad : new int[] {-1, 1, 6, LEAST, MOST}) {
            due.is("PAIR " + bad, x.chance(bad, 12, 0), NONE);
        }
        for (int bad : new int[] {-1, 25, LEAST, MOST}) {
            due.is("CELL " + bad, x.chance(0, bad, 0), NONE);
        }
        for (int bad : new int[] {-1, 31, LEAST, MOST}) {
            due.is("n " + bad, x.chance(0, 12, bad), NONE);
        }
        due.quotesAllOf(Document.promise(27));
    }

    private static void within() {
        due.sentence("WITHIN n 0 .. 100 acts of a CELL, as bits.");
        SoleReader x = Due.at(12, 0);
        x.pair(12, 1, 0);
        x.pair(17, 0, 0);
        due.is("0", x.within(17, 0), 4);
        due.is("1", x.within(17, 1), 5);
        due.is("2", x.within(17, 2), 7);
        due.is("100", x.within(17, 100), 7);
        due.is("none", x.within(0, 0), 0);
        due.is("no PAIRS", new SoleReader().within(0, 100), 0);
        due.sentence("NONE.");
        for (int bad : new int[] {-1, 101, LEAST, MOST}) {
            due.is("n " + bad, x.within(17, bad), NONE);
        }
        for (int bad : new int[] {-1, 25, LEAST, MOST}) {
            due.is("CELL " + bad, x.within(bad, 0), NONE);
            due.is("CELL " + bad, new SoleReader().within(bad, 0), NONE);
        }
        due.quotesAllOf(Document.promise(28));
    }

    private static void couples() {
        due.sentence("COUPLES: by how much they differ together (what 0), the PARTNER of PAIR p (1 + p).");
        SoleReader x = Due.worn(new int[] {0, 0, 0, 0}, new int[] {9, 0, 0, 0}, new int[] {0, 1, 1, 0}, new int[] {9, 0, 0, 3});
        int[] want = {2 + 3, 2, 3, 0, 1};
        for (int what = 0; what <= 4; what++) {
            due.is("couples(" + what + ")", x.couples(what), want[what]);
        }
        x.pause(3);
        x.mend(1, 0);
        int[] then = {9 + 0 + 1 + 3, 1, 0, 3, 2};
        for (int what = 0; what <= 4; what++) {
            due.is("as they are WORN now, couples(" + what + ")", x.couples(what), then[what]);
        }
        due.is("no PAIRS", new SoleReader().couples(0), 0);
        due.is("one PAIR", Due.at(0, 0).couples(0), 0);
        due.is("one PAIR, alone", Due.at(0, 0).couples(1), 0);
        due.sentence("NONE.");
        for (int bad : new int[] {-1, 5, 6, 7, LEAST, MOST}) {
            due.is("couples(" + bad + ")", x.couples(bad), NONE);
        }
        due.is("no PAIRS", new SoleReader().couples(1), NONE);
        due.quotesAllOf(Document.promise(29));
    }

    private static void likest() {
        due.sentence("LIKEST.");
        SoleReader x = Due.worn(new int[] {0, 0, 0, 0}, new int[] {9, 0, 0, 0}, new int[] {0, 4, 4, 0}, new int[] {9, 0, 0, 1});
        int[] want = {2, 3, 0, 1};
        for (int pair = 0; pair < 4; pair++) {
            due.is("likest(" + pair + ")", x.likest(pair), want[pair]);
        }
        due.sentence("NONE (no such PAIR; no other one).");
        for (int bad : new int[] {-1, 4, 6, LEAST, MOST}) {
            due.is("PAIR " + bad, x.likest(bad), NONE);
        }
        due.is("no other one", Due.at(0, 0).likest(0), NONE);
        due.is("no PAIRS", new SoleReader().likest(0), NONE);
        due.quotesAllOf(Document.promise(30));
    }

    private static void lasts() {
        due.sentence("LASTS (WORN 99 now: 0).");
        SoleReader x = Due.worn(new int[] {99, 98, 1, 0});
        int[] want = {0, 1, 98, 99};
        for (int part = 0; part < 4; part++) {
            due.is("PART " + part, x.lasts(0, part), want[part]);
        }
        Due.law(x, "wears 0; wears 4 if part > 1");
        x.force(1);
        due.is("99, by 0", x.lasts(0, 0), 0);
        due.is("98 in fours", x.lasts(0, 2), 25);
        due.is("99 in fours", x.lasts(0, 3), 25);
        due.sentence("NONE (not in 200; no such PAIR, PART).");
        due.is("98, by 0", x.lasts(0, 1), NONE);
        for (int bad : new int[] {-1, 1, 6, LEAST, MOST}) {
            due.is("PAIR " + bad, x.lasts(bad, 0), NONE);
        }
        for (int bad : new int[] {-1, 4, LEAST, MOST}) {
            due.is("PART " + bad, x.lasts(0, bad), NONE);
        }
        due.quotesAllOf(Document.promise(31));
    }

    private static void seen() {
        due.sentence("SEEN: how often there was.");
        SoleReader x = Due.at(0, 0);
        for (int i = 1; i <= 6; i++) {
            due.is("seen " + i, x.seen(i % 4, 99 * (i % 2)), i);
            due.is("so often", x.count(2), i);
        }
        due.sentence("-1 (a PART, WORN 0 .. 99);");
        for (int[] bad : new int[][] {{-1, 0}, {4, 0}, {0, -1}, {0, 100}, {LEAST, 0}, {MOST, 0}, {0, LEAST}, {0, MOST}}) {
            SoleReader y = new SoleReader();
            due.refused("seen", y, y.seen(bad[0], bad[1]), -1);
            due.is("nothing is SEEN", y.count(2), 0);
            due.refused("full, and seen", x, x.seen(bad[0], bad[1]), -1);
        }
        due.sentence("-5.");
        due.refused("the seventh", x, x.seen(0, 0), -5);
        due.is("six", x.count(2), 6);
        due.sentence("It leaves what can be undone.");
        SoleReader z = Due.at(0, 0);
        z.pass();
        z.seen(0, 0);
        z.seen(0, 100);
        due.is("one", z.count(4), 1);
        due.is("it", z.undo(), 4);
        due.is("SEEN still", z.count(2), 1);
        due.quotesAllOf(Document.promise(32));
    }

    private static void forget() {
        due.sentence("SEEN is nothing then: how often there was.");
        SoleReader x = Due.at(0, 0);
        due.is("nothing", x.forget(), 0);
        x.seen(0, 5);
        x.seen(1, 5);
        due.is("it can't be", x.canBe(), 0);
        x.pass();
        x.step(9);
        due.is("two", x.forget(), 2);
        due.is("it can be", x.canBe(), 1);
        due.is("nothing", x.count(2), 0);
        due.is("nothing", x.forget(), 0);
        due.is("what can be undone", x.count(4), 1);
        due.is("status() is of others", x.status(), -2);
        for (int i = 1; i <= 6; i++) {
            due.is("room again", x.seen(0, 0), i);
        }
        due.is("six", x.forget(), 6);
        due.quotesAllOf(Document.promise(33));
    }

    private static void canBe() {
        due.sentence("IT CAN BE, as bits.");
        SoleReader x = new SoleReader();
        due.is("no PAIRS", x.canBe(), 0);
        for (int i = 0; i < 6; i++) {
            x.pair(0, 0, 0);
            due.is("all", x.canBe(), (1 << i + 1) - 1);
        }
        x.pause(5);
        x.seen(1, 1);
        due.is("PAIR 5", x.canBe(), 32);
        x.seen(0, 1);
        due.is("none", x.canBe(), 0);
        due.quotesAllOf(Document.promise(34));
    }

    private static void look() {
        due.sentence("To LOOK at: the PART (what 0), how many are left at most (1).");
        SoleReader x = Due.worn(new int[] {0, 0, 0, 0}, new int[] {0, 0, 1, 0}, new int[] {0, 0, 2, 0}, new int[] {0, 1, 2, 0});
        due.is("LEFT", x.look(0), 2);
        due.is("two at most", x.look(1), 2);
        x.seen(2, 2);
        due.is("HEEL", x.look(0), 1);
        due.is("one", x.look(1), 1);
        due.is("alike in all: the TOE", Due.worn(new int[4], new int[4]).look(0), 0);
        due.is("alike in all: both", Due.worn(new int[4], new int[4]).look(1), 2);
        due.is("what 2", x.look(2), NONE);
        due.is("what -1", x.look(-1), NONE);
        due.is("what", x.look(LEAST), NONE);
        due.is("what", x.look(MOST), NONE);
        due.sentence("NONE (it can be none).");
        x.seen(2, 1);
        due.is("none", x.look(0), NONE);
        due.is("none", x.look(1), NONE);
        due.is("no PAIRS", new SoleReader().look(0), NONE);
        due.is("no PAIRS", new SoleReader().look(1), NONE);
        due.quotesAllOf(Document.promise(35));
    }

    private static void cutOff() {
        due.sentence("CUT off, as bits.");
        SoleReader x = new SoleReader();
        due.is("none", x.cutOff(), 0);
        x.wall(19, 1);
        x.wall(23, 1);
        due.is("CELL 24", x.cutOff(), 1 << 24);
        x.wall(3, 1);
        x.wall(9, 1);
        due.is("CELL 4, too", x.cutOff(), 1 << 24 | 1 << 4);
        x.wall(4, 1);
        due.is("a WALL is not", x.cutOff(), 1 << 24);
        x.wall(0, 1);
        due.is("CELL 0 a WALL", x.cutOff(), 0x1FFFFFF & ~x.walls());
        due.quotesAllOf(Document.promise(36));
    }

    private static void few() {
        due.sentence("FEW, k 1 .. 20, n 0 .. 99.");
        SoleReader x = new SoleReader();
        for (int k = 1; k <= 20; k++) {
            due.is("no steps", x.few(k, 0), WHOLE);
        }
        due.is("k 1, n 2", x.few(1, 2), 810_000_000_000L);
        due.is("k 2, n 2", x.few(2, 2), 990_000_000_000L);
        due.is("k 3, n 2", x.few(3, 2), WHOLE);
        due.holds("k 20, n 99", x.few(20, 99) > 990_000_000_000L && x.few(20, 99) < WHOLE);
        due.holds("k 1, n 99", x.few(1, 99) > 0 && x.few(1, 99) < 30_000_000L);
        due.sentence("NONE.");
        for (int bad : new int[] {0, -1, 21, LEAST, MOST}) {
            due.is("k " + bad, x.few(bad, 5), NONE);
        }
        for (int bad : new int[] {-1, 100, LEAST, MOST}) {
            due.is("n " + bad, x.few(5, bad), NONE);
        }
        due.quotesAllOf(Document.promise(37));
    }

    private static void compare() {
        due.sentence("COMPARED.");
        SoleReader x = Due.at(0, 0, "wears 4");
        Due.law(x, "wears part * 2");
        due.is("by that in FORCE", x.compare(0, 0, 3), 4);
        due.is("by another", x.compare(1, 0, 3), 6);
        due.is("by none", x.compare(NONE, 0, 3), 1);
        due.sentence("NONE (no such LAW, PAIR, PART).");
        for (int bad : new int[] {-2, 2, 6, LEAST, MOST}) {
            due.is("LAW " + bad, x.compare(bad, 0, 0), NONE);
        }
        for (int bad : new int[] {-1, 1, 6, LEAST, MOST}) {
            due.is("PAIR " + bad, x.compare(0, bad, 0), NONE);
            due.is("PAIR " + bad, x.compare(NONE, bad, 0), NONE);
        }
        for (int bad : new int[] {-1, 4, LEAST, MOST}) {
            due.is("PART " + bad, x.compare(0, 0, bad), NONE);
            due.is("PART " + bad, x.compare(NONE, 0, bad), NONE);
        }
        due.quotesAllOf(Document.promise(38));
    }

    private static void years() {
        due.sentence("YEARS, kept as the latest: how many STEPS there were.");
        SoleReader x = Due.at(5, 2);
        due.is("a STEP to CELL 0 is one", x.years(7, 1), 1);
        due.is("the latest", x.drawn(0, 0), 0);
        due.is("a PAUSE is none", x.years(1, 1), 0);
        due.is("the latest", x.drawn(0, 0), 5);
        due.is("the latest", x.drawn(0, 3), 1);
        due.is("none can be", Due.at(12, 0, "bars").years(7, 60), 0);
        due.sentence("-1;");
        for (int[] bad : new int[][] {{-1, 1}, {1_000_001, 1}, {0, 0}, {0, 61}, {0, -1}, {LEAST, 1}, {MOST, 1}, {0, LEAST},
            {0, MOST}}) {
            due.refused("years", x, x.years(bad[0], bad[1]), -1);
            due.is("the latest stays", x.drawn(0, 3), 1);
            SoleReader y = new SoleReader();
            due.refused("years, no PAIRS", y, y.years(bad[0], bad[1]), -1);
        }
        due.sentence("-3 there are no PAIRS.");
        SoleReader z = new SoleReader();
        due.refused("no PAIRS", z, z.years(0, 1), -3);
        due.refused("no PAIRS", z, z.years(1_000_000, 60), -3);
        z.image(0);
        z.pair(12, 0, 0);
        z.years(1, 1);
        z.back(0);
        due.refused("no PAIRS again", z, z.years(0, 1), -3);
        due.is("the latest stays", z.drawn(0, 3), 1);
        due.quotesAllOf(Document.promise(39));
    }

    private static void drawn() {
        due.sentence("Behind the latest YEARS of a PAIR the CELL (what 0), the WAY (1), how PART p is WORN (2 + p).");
        SoleReader x = Due.worn(new int[] {11, 12, 13, 14}, new int[] {21, 22, 23, 24});
        x.turn(1, 1);
        // SEED 0: PAIR 1 STEPS
        due.is("SEED 0", x.years(0, 1), 1);
        int[][] want = {{0, 0, 11, 12, 13, 14}, {1, 1, 22, 22, 23, 25}};
        for (int pair = 0; pair < 2; pair++) {
            for (int what = 0; what < 6; what++) {
                due.is("drawn(" + pair + ", " + what + ")", x.drawn(pair, what), want[pair][what]);
            }
        }
        x.step(0);
        x.pause(1);
        x.pair(20, 0, 0);
        x.wall(1, 1);
        due.is("what is done since leaves it", x.drawn(0, 0), 0);
        due.is("what is done since leaves it", x.drawn(1, 0), 1);
        due.is("a PAIR that came since", x.drawn(2, 0), NONE);
        due.sentence("NONE.");
        for (int bad : new int[] {-1, 6, 7, LEAST, MOST}) {
            due.is("what " + bad, x.drawn(0, bad), NONE);
        }
        for (int bad : new int[] {-1, 2, 6, LEAST, MOST}) {
            for (int what = 0; what < 6; what++) {
                due.is("PAIR " + bad, x.drawn(bad, what), NONE);
            }
        }
        due.is("ahead of any YEARS", Due.at(0, 0).drawn(0, 0), NONE);
        SoleReader y = Due.at(0, 0);
        y.years(0, 61);
        due.is("behind YEARS that were REFUSED", y.drawn(0, 0), NONE);
        due.quotesAllOf(Document.promise(40));
    }

    private static void image() {
        due.sentence("IMAGE k is kept: 0;");
        SoleReader x = Due.at(3, 0);
        due.is("IMAGE 0", x.image(0), 0);
        x.step(0);
        due.is("IMAGE 1", x.image(1), 0);
        x.step(0);
        due.is("it does nothing else", x.of(0, 0), 13);
        due.is("it does nothing else", x.count(4), 2);
        due.is("kept anew", x.image(0), 0);
        x.step(0);
        x.back(0);
        due.is("the later one", x.of(0, 0), 13);
        x.back(1);
        due.is("the other one", x.of(0, 0), 8);
        due.sentence("-1.");
        for (int bad : new int[] {-1, 2, LEAST, MOST}) {
            due.refused("image(" + bad + ")", x, x.image(bad), -1);
        }
        due.quotesAllOf(Document.promise(41));
    }

    private static void back() {
        due.sentence("BACK to IMAGE k: 0.");
        SoleReader x = Due.at(3, 0);
        x.image(1);
        x.step(0);
        due.is("back", x.back(1), 0);
        due.is("as it was", x.of(0, 0), 3);
        due.is("not WORN", x.of(0, 3), 0);
        due.is("again", x.back(1), 0);
        due.sentence("-1;");
        x.pass();
        for (int bad : new int[] {-1, 2, LEAST, MOST}) {
            due.refused("back(" + bad + ")", x, x.back(bad), -1);
        }
        due.sentence("-2 it was not kept.");
        due.refused("back(0)", x, x.back(0), -2);
        due.is("nothing is gone back to", x.count(12), 1);
        due.is("what can be undone stays", x.count(4), 1);
        SoleReader y = new SoleReader();
        due.refused("back(0)", y, y.back(0), -2);
        due.refused("back(1)", y, y.back(1), -2);
        due.quotesAllOf(Document.promise(42));
    }

    private static void count() {
        due.sentence("0 PAIRS, 1 how many WALLS, 2 SEEN, 3 LAWS, 4 how many can be undone, 5 bytes of the TAPE,");
        SoleReader x = Due.at(0, 0);
        x.pair(0, 0, 0);
        x.wall(3, 1);
        x.wall(4, 1);
        x.wall(5, 1);
        x.seen(0, 0);
        for (int i = 0; i < 5; i++) {
            Due.law(x, "bars");
        }
        x.pass();
        x.pass();
        x.pass();
        x.pass();
        Due.put(x, "abcdefg");
        int[] want = {2, 3, 1, 5, 4, 7};
        for (int what = 0; what < 6; what++) {
            due.is("count(" + what + ")", x.count(what), want[what]);
        }
        countRefused();
        due.sentence("11 the LAW in FORCE, 12 .. 14 TERMS 0 .. 2.");
        due.is("NONE in FORCE", x.count(11), NONE);
        x.force(3);
        due.is("LAW 3 in FORCE", x.count(11), 3);
        x.terms(0, 321);
        x.terms(1, 8);
        x.terms(2, 7);
        due.is("DAY", x.count(12), 321);
        due.is("SLIPS", x.count(13), 8);
        due.is("MOOD", x.count(14), 7);
        due.sentence("NONE for others.");
        for (int what : new int[] {-1, -6, 15, 16, LEAST, MOST}) {
            due.is("count(" + what + ")", x.count(what), NONE);
        }
        due.quotesAllOf(Document.promise(43));
    }

    private static void countRefused() {
        due.sentence("6 .. 10 how many calls were REFUSED by -1, -2, -3, -5, -6 (IMAGES do not keep that),");
        SoleReader x = new SoleReader();
        x.image(0);
        for (int i = 0; i < 6; i++) {
            x.pair(24, 0, 0);
        }
        x.image(1);
        x.wall(25, 0);
        x.step(6);
        x.step(7);
        x.step(0);
        x.step(1);
        x.step(2);
        for (int i = 0; i < 4; i++) {
            x.pair(0, 0, 0);
        }
        for (int i = 0; i < 5; i++) {
            x.row();
        }
        for (int round = 0; round < 3; round++) {
            for (int by = 0; by < 5; by++) {
                due.is("count(" + (6 + by) + ")", x.count(6 + by), by + 1);
            }
            due.is("BACK leaves that", x.back(round % 2), 0);
        }
        x.of(-1, 0);
        x.asks(-1, 0, 0);
        x.end(-1);
        x.way(-1, 0, 0);
        x.few(0, 0);
        x.couples(-1);
        x.drawn(-1, 0);
        x.count(-1);
        due.is("an answer NONE is not REFUSED", x.count(6), 1);
        x.force(NONE);
        due.is("nor is one that tells NONE", x.count(6), 1);
        Due.orders(x, "step 9; step 9");
        due.is("ORDERS are one call", x.count(8), 4);
        due.is("what they try is none", x.count(7), 2);
    }

    private static void status() {
        due.sentence("What the latest call of pair, wall, terms, row, law, orders, force, step, turn, pause, mend, pass, undo,"
            + " seen, years, image, back was REFUSED by;");
        SoleReader x = Due.at(24, 0);
        due.refused("pair", x, x.pair(0, 0, 10), -1);
        x.wall(0, 0);
        due.refused("row", x, x.row(), -6);
        due.refused("wall", x, x.wall(0, 2), -1);
        due.refused("law", x, x.law(), -6);
        due.refused("terms", x, x.terms(0, -1), -1);
        due.refused("orders", x, x.orders(), -6);
        due.refused("orders", x, Due.orders(x, "step 0"), -3);
        due.refused("force", x, x.force(0), -2);
        due.refused("step", x, x.step(0), -3);
        due.refused("turn", x, x.turn(0, 2), -1);
        due.refused("pause", x, x.pause(1), -2);
        due.refused("mend", x, x.mend(0, 0), -3);
        due.refused("seen", x, x.seen(4, 0), -1);
        due.refused("undo", x, x.undo(), -3);
        due.refused("years", x, x.years(0, 0), -1);
        due.refused("back", x, x.back(0), -2);
        due.refused("image", x, x.image(2), -1);
        x.terms(0, 999);
        due.refused("pass", x, x.pass(), -3);
        othersLeaveStatus(x);
        due.sentence("0 if it was not, or ahead of any.");
        due.is("ahead of any", new SoleReader().status(), 0);
        statusZero();
        due.quotesAllOf(Document.promise(44));
    }

    private static void othersLeaveStatus(SoleReader x) {
        x.of(0, 0);
        x.of(-1, 0);
        x.walls();
        x.asks(0, 0, 0);
        x.feed(0, 0, 0, 0, 0);
        x.end(0);
        x.end(-1);
        x.brads();
        x.fault();
        x.stopped();
        x.ways(0, 0, 0, 0);
        x.ends(0, 0, 0, 0);
        x.way(0, 0, NONE);
        x.least(0, 0);
        x.chance(0, 0, 0);
        x.within(0, 0);
        x.couples(0);
        x.likest(0);
        x.lasts(0, 0);
        x.forget();
        x.canBe();
        x.look(0);
        x.cutOff();
        x.few(1, 1);
        x.compare(NONE, 0, 0);
        x.drawn(0, 0);
        x.count(0);
        x.status();
        due.is("others leave it", x.status(), -3);
    }

    /** Each of the calls, one that can be, behind one that was REFUSED. */
    private static void statusZero() {
        for (int call = 0; call < 17; call++) {
            SoleReader x = Due.at(12, 0);
            x.image(0);
            x.pause(0);
            x.step(9);
            due.is("REFUSED", x.status(), -2);
            Due.put(x, call == 4 ? "bars" : "pass");
            switch (call) {
                case 0: x.pair(0, 0, 0); break;
                case 1: x.wall(0, 0); break;
                case 2: x.terms(0, 0); break;
                case 3: x.row(); break;
                case 4: x.law(); break;
                case 5: x.orders(); break;
                case 6: x.force(NONE); break;
                case 7: x.step(0); break;
                case 8: x.turn(0, 0); break;
                case 9: x.pause(0); break;
                case 10: x.mend(0, 1); break;
                case 11: x.pass(); break;
                case 12: x.undo(); break;
                case 13: x.seen(0, 0); break;
                case 14: x.years(0, 1); break;
                case 15: x.image(1); break;
                default: x.back(0); break;
            }
            due.is("not REFUSED, call " + call, x.status(), 0);
        }
    }
}
