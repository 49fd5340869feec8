/** 'Terms' III, sentence by sentence, first half: the acts, and ways through the YARD on paper. */
public final class TermsThreeTests {
    private static final Due due = new Due("TermsThreeTests");
    private static final int NONE = SoleReader.NONE;
    private static final long WHOLE = 1_000_000_000_000L;
    private static final int[] NEXT = {17, 13, 7, 11};

    public static void main(String[] args) {
        step();
        toe();
        turn();
        edges();
        pause();
        askedAhead();
        mend();
        day();
        due.quotesAllOf(Document.section("To STEP: a PAIR goes", "(On paper, WORN"));
        onPaper();
        severalInOneCell();
        inAWall();
        ways();
        wayToACell();
        least();
        byChance();
        within();
        due.quotesAllOf(Document.section("(On paper, WORN", "COUPLES: PAIRS parted"));
        due.close();
    }

    private static void step() {
        due.sentence("To STEP: a PAIR goes to the next CELL the WAY it FACES, if that is in the YARD, no WALL and not BARRED"
            + " to it;");
        for (int cell = 0; cell < 25; cell++) {
            for (int way = 0; way < 4; way++) {
                int x = cell % 5 + new int[] {0, 1, 0, -1}[way];
                int y = cell / 5 + new int[] {1, 0, -1, 0}[way];
                boolean in = x >= 0 && x < 5 && y >= 0 && y < 5;
                SoleReader z = Due.at(cell, way);
                due.is("from " + cell + " by WAY " + way, z.step(0), in ? 5 * y + x : -3);
                due.is("the CELL then", z.of(0, 0), in ? 5 * y + x : cell);
                due.is("the WAY then", z.of(0, 1), way);
            }
        }
        for (int way = 0; way < 4; way++) {
            SoleReader z = Due.at(12, way);
            z.wall(NEXT[way], 1);
            due.is("a WALL by WAY " + way, z.step(0), -3);
            z.wall(NEXT[way], 0);
            due.is("no WALL by WAY " + way, z.step(0), NEXT[way]);
            String law = "bars if x=" + NEXT[way] % 5 + " and y=" + NEXT[way] / 5;
            due.is("BARRED by WAY " + way, Due.at(12, way, law).step(0), -3);
            due.is("not by another", Due.at(12, (way + 1) % 4, law).step(0), NEXT[(way + 1) % 4]);
        }
        SoleReader all = Due.at(12, 0);
        for (int cell = 0; cell < 25; cell++) {
            all.wall(cell, cell == 17 ? 0 : 1);
        }
        due.is("the one that is none", all.step(0), 17);
        due.is("no other one", all.step(0), -3);
    }

    private static void parts(String call, SoleReader x, int... want) {
        for (int part = 0; part < 4; part++) {
            due.is("PART " + part + " behind " + call, x.of(0, 3 + part), want[part]);
        }
    }

    private static void toe() {
        due.sentence("its TOE is WORN more by what it WEARS.");
        SoleReader x = Due.at(0, 0, "wears part + 3");
        x.step(0);
        parts("a STEP", x, 3, 0, 0, 0);
        x.step(0);
        parts("two STEPS", x, 6, 0, 0, 0);
        SoleReader y = Due.at(20, 0, "wears 3");
        y.step(0);
        parts("one that can't be", y, 0, 0, 0, 0);
        SoleReader z = Due.at(0, 0, "wears 0");
        due.is("by 0", z.step(0), 5);
        parts("a STEP by 0", z, 0, 0, 0, 0);
    }

    private static void turn() {
        due.sentence("To TURN to a side (0 left: the WAY one less, 1 right: one more; modulo 4):");
        for (int way = 0; way < 4; way++) {
            SoleReader x = Due.at(12, way);
            due.is("left from " + way, x.turn(0, 0), (way + 3) % 4);
            due.is("the WAY", x.of(0, 1), (way + 3) % 4);
            due.is("the CELL", x.of(0, 0), 12);
            SoleReader y = Due.at(12, way);
            due.is("right from " + way, y.turn(0, 1), (way + 1) % 4);
            due.is("the WAY", y.of(0, 1), (way + 1) % 4);
        }
        SoleReader x = Due.at(12, 0);
        due.is("left of 0", x.turn(0, 0), 3);
        due.is("right of 3", x.turn(0, 1), 0);
        for (int side : new int[] {-1, 2, 3, Integer.MIN_VALUE, Integer.MAX_VALUE}) {
            due.is("side " + side, x.turn(0, side), -1);
        }
        SoleReader wall = Due.at(12, 0, "bars");
        wall.wall(12, 1);
        due.is("whatever stands around", wall.turn(0, 1), 1);
    }

    private static void edges() {
        due.sentence("LEFT, RIGHT (that of the side) is WORN more by what it WEARS.");
        SoleReader x = Due.at(0, 0, "wears part + 3");
        x.turn(0, 0);
        parts("a TURN left", x, 0, 0, 5, 0);
        x.turn(0, 1);
        parts("a TURN right", x, 0, 0, 5, 6);
        x.turn(0, 1);
        parts("another", x, 0, 0, 5, 12);
        x.turn(0, 2);
        parts("one that can't be", x, 0, 0, 5, 12);
    }

    private static void pause() {
        due.sentence("To PAUSE: its HEEL is.");
        SoleReader x = Due.at(0, 0, "wears part + 3");
        due.is("HEEL", x.pause(0), 4);
        due.is("HEEL", x.pause(0), 8);
        parts("two PAUSES", x, 0, 8, 0, 0);
        due.is("the CELL", x.of(0, 0), 0);
        due.is("the WAY", x.of(0, 1), 0);
    }

    private static void askedAhead() {
        due.sentence("(What it WEARS is asked ahead of that; WORN 99 at most.)");
        SoleReader x = Due.at(10, 1, "wears x + 2");
        x.step(0);
        due.is("where it was", x.of(0, 3), 2);
        x.step(0);
        due.is("where it was", x.of(0, 3), 2 + 3);
        SoleReader y = Due.at(12, 2, "wears way + 4");
        y.turn(0, 1);
        due.is("as it FACED", y.of(0, 6), 6);
        y.turn(0, 0);
        due.is("as it FACED", y.of(0, 5), 7);
        SoleReader z = Due.at(12, 0, "wears worn + 1");
        due.is("as it was WORN", z.pause(0), 1);
        due.is("as it was WORN", z.pause(0), 3);
        due.is("as it was WORN", z.pause(0), 7);
        due.is("as it was WORN", z.pause(0), 15);
        due.is("9 at most", z.pause(0), 24);
        for (int part = 0; part < 4; part++) {
            for (int worn : new int[] {89, 90, 91, 98, 99}) {
                int[] by = new int[4];
                by[part] = worn;
                SoleReader w = Due.worn(by);
                Due.law(w, "wears 9");
                w.force(1);
                Due.orders(w, new String[] {"step 0", "pause 0", "turn 0 to 0", "turn 0 to 1"}[part]);
                due.is("PART " + part + " from " + worn, w.of(0, 3 + part), Math.min(99, worn + 9));
            }
        }
    }

    private static void mend() {
        due.sentence("To MEND a PART that is WORN more than 0: it is WORN as much as that LEAVES.");
        for (int part = 0; part < 4; part++) {
            int[] by = {20, 30, 40, 50};
            SoleReader x = Due.worn(by);
            due.is("how it was", x.mend(0, part), by[part]);
            by[part] = 0;
            parts("mending PART " + part, x, by);
            due.is("not WORN", x.mend(0, part), -3);
            int[] one = new int[4];
            one[part] = 1;
            due.is("WORN 1", Due.worn(one).mend(0, part), 1);
            due.is("WORN 0", Due.worn(new int[4]).mend(0, part), -3);
        }
        SoleReader y = Due.worn(new int[] {10, 10, 10, 10});
        Due.law(y, "leaves worn * 2 + part");
        y.force(1);
        due.is("how it was", y.mend(0, 3), 10);
        due.is("more than it was", y.of(0, 6), 23);
        due.is("again", y.mend(0, 3), 23);
        due.is("by how it was WORN", y.of(0, 6), 49);
    }

    private static void day() {
        due.sentence("A DAY: it is the next one (at 999 it can't be).");
        SoleReader x = new SoleReader();
        due.is("the next", x.pass(), 1);
        due.is("the next", x.pass(), 2);
        x.terms(0, 998);
        due.is("998", x.pass(), 999);
        due.is("999", x.pass(), -3);
        due.is("still 999", x.count(12), 999);
        due.is("still 999", x.pass(), -3);
    }

    private static void onPaper() {
        due.sentence("(On paper, WORN, DAY as now; laws are asked of where it would be, as it would FACE; nothing else being"
            + " done.");
        // up to y 3 the law lets one go to the right alone in row 3
        SoleReader x = Due.at(0, 0, "bars if way = 1 and not y = 3; wears 4 if y = 3 and way = 1");
        due.is("not at once", x.ways(0, 1, 0, 1), 1);
        due.is("in row 3", x.ends(0, 4, 0, 1), 1 << 16 | 1 << 20);
        due.is("3 up, right, 1, right, 3 down", x.way(0, 1, NONE), 9);
        due.is("WORN: three up, RIGHT, the TOE by 4", x.least(0, 16), 3 + 1 + 4);
        due.is("a third", x.chance(0, 1, 2), 0);
        SoleReader y = Due.at(0, 0, "wears worn + day + 1; bars if day = 1");
        due.is("WORN as now", y.least(0, 20), 4);
        due.is("DAY as now", y.way(0, 20, NONE), 4);
        y.pass();
        due.is("DAY as now", y.way(0, 20, NONE), NONE);
        due.is("DAY as now", y.ways(0, 1, 0, 0), 0);
        y.pass();
        due.is("DAY as now", y.least(0, 20), 12);
        y.step(0);
        due.is("WORN as now", y.least(0, 20), 3 * 6);
        due.is("the CELL", y.of(0, 0), 5);
        due.is("the WAY", y.of(0, 1), 0);
        parts("all that", y, 3, 0, 0, 0);
        due.is("the DAY", y.count(12), 2);
        due.is("what can be undone", y.count(4), 3);
    }

    private static void severalInOneCell() {
        due.sentence("Several PAIRS may be in one CELL;");
        SoleReader x = new SoleReader();
        for (int i = 0; i < 6; i++) {
            due.is("PAIR " + i, x.pair(12, 0, 0), i);
        }
        for (int i = 0; i < 6; i++) {
            due.is("PAIR " + i + " steps there, too", x.step(i), 17);
        }
        due.is("all there", x.within(17, 0), 63);
        due.is("ways through it", x.way(0, 22, NONE), 1);
    }

    private static void inAWall() {
        due.sentence("a PAIR may stand in a WALL, out of which it can STEP; into another one, or back, it can't.)");
        SoleReader x = new SoleReader();
        x.wall(12, 1);
        due.is("a PAIR put into a WALL", x.pair(12, 0, 0), 0);
        x.pair(13, 3, 0);
        x.pair(6, 0, 0);
        due.is("a WALL put around a PAIR", x.wall(13, 1), 0);
        due.is("it can TURN", x.turn(0, 1), 1);
        due.is("into another one", x.step(0), -3);
        due.is("into another one", x.step(1), -3);
        due.is("on paper, too", x.way(0, 13, NONE), NONE);
        due.is("on paper, too", x.ways(0, 1, 0, 0), 0);
        due.is("out of it, on paper", x.way(0, 17, NONE), 2);
        due.is("out of it, on paper", x.ends(0, 1, 1, 0), 1 << 17);
        due.is("there, 0 acts", x.way(0, 12, NONE), 0);
        due.is("there, 0 WORN", x.least(0, 12), 0);
        due.is("out and not back, on paper", x.ends(0, 2, 3, 0) & 1 << 12, 0);
        due.is("back to where none is, on paper", Due.at(12, 1).ends(0, 2, 3, 0) & 1 << 12, 1 << 12);
        x.turn(0, 0);
        due.is("out of it", x.step(0), 17);
        Due.orders(x, "turn 0 to 0 times 2");
        due.is("and not back", x.step(0), -3);
        due.is("nor on paper", x.way(0, 12, NONE), NONE);
        due.is("nor on paper", x.least(0, 12), NONE);
        x.wall(12, 0);
        due.is("back to where none is", x.step(0), 12);
    }

    /** By places (4 times the CELL and the WAY) the CELL to which one would STEP, each asked of a new object. */
    private static int[] steps(String law, int... walls) {
        int[] to = new int[100];
        for (int place = 0; place < 100; place++) {
            SoleReader x = Due.at(place / 4, place % 4, law);
            for (int wall : walls) {
                x.wall(wall, 1);
            }
            to[place] = x.of(0, 7);
        }
        return to;
    }

    private static final String LAW = "bars if x + y * way = 7; wears x + 2 * way; wears 9 - y if part = 2;"
        + "wears 0 if part = 3 and way > 1";
    private static final int[] WALLS = {6, 13, 22};

    private static SoleReader walled(int cell, int way) {
        SoleReader x = Due.at(cell, way, LAW);
        for (int wall : WALLS) {
            x.wall(wall, 1);
        }
        return x;
    }

    /** Tries all rows of acts: how many there are; sets the bits of their ends. */
    private static long tried(int[] to, int place, int s, int l, int r, int[] ends) {
        if (s == 0 && l == 0 && r == 0) {
            ends[0] |= 1 << place / 4;
            return 1;
        }
        long all = 0;
        if (s > 0 && to[place] != NONE) {
            all += tried(to, to[place] * 4 + place % 4, s - 1, l, r, ends);
        }
        if (l > 0) {
            all += tried(to, place / 4 * 4 + (place + 3) % 4, s, l - 1, r, ends);
        }
        if (r > 0) {
            all += tried(to, place / 4 * 4 + (place + 1) % 4, s, l, r - 1, ends);
        }
        return all;
    }

    private static void ways() {
        due.sentence("WAYS of s STEPS, l TURNS left, r right: rows of these acts, in any order, each STEP such that can be:"
            + " how many; CELLS at which they can end.");
        int[] to = steps(LAW, WALLS);
        SoleReader x = walled(11, 1);
        for (int s = 0; s <= 6; s++) {
            for (int turns = 0; turns < 16; turns++) {
                int l = turns / 4;
                int r = turns % 4;
                int[] ends = new int[1];
                long all = tried(to, 11 * 4 + 1, s, l, r, ends);
                due.is("ways " + s + ", " + l + ", " + r, x.ways(0, s, l, r), all);
                due.is("ends " + s + ", " + l + ", " + r, x.ends(0, s, l, r), ends[0]);
            }
        }
        int[] ends = new int[1];
        long all = tried(steps("bars if 1=2"), 12 * 4, 6, 6, 6, ends);
        due.is("of 6, 6, 6", Due.at(12, 0).ways(0, 6, 6, 6), all);
        due.is("of 6, 6, 6", Due.at(12, 0).ends(0, 6, 6, 6), ends[0]);
        due.is("TURNS alone", Due.at(12, 0, "bars").ways(0, 0, 6, 6), 924);
        due.is("no act", Due.at(12, 0, "bars").ways(0, 0, 0, 0), 1);
        due.is("no act", Due.at(12, 0, "bars").ends(0, 0, 0, 0), 1 << 12);
        due.is("none can be", Due.at(12, 0, "bars").ways(0, 1, 6, 6), 0);
        due.is("none can be", Due.at(12, 0, "bars").ends(0, 1, 6, 6), 0);
    }

    /** The first row of so many acts that ends in the CELL, null if there is none. */
    private static String row(int[] to, int place, int cell, int acts) {
        if (acts == 0) {
            return place / 4 == cell ? "" : null;
        }
        int[] then = {to[place] == NONE ? NONE : to[place] * 4 + place % 4, place / 4 * 4 + (place + 3) % 4,
            place / 4 * 4 + (place + 1) % 4};
        for (int act = 0; act < 3; act++) {
            String rest = then[act] == NONE ? null : row(to, then[act], cell, acts - 1);
            if (rest != null) {
                return act + rest;
            }
        }
        return null;
    }

    private static void wayToACell() {
        due.sentence("A WAY to a CELL: the fewest acts (STEPS, TURNS) by which a PAIR comes there; the first as a row (0 STEP,"
            + " 1 TURN left, 2 right).");
        int[] to = steps(LAW, WALLS);
        for (int place = 0; place < 100; place += 9) {
            SoleReader x = walled(place / 4, place % 4);
            for (int cell = 0; cell < 25; cell++) {
                String want = null;
                for (int acts = 0; acts <= 11 && want == null; acts++) {
                    want = row(to, place, cell, acts);
                }
                int length = x.way(0, cell, NONE);
                due.holds("from " + place + " to " + cell, want == null ? length == NONE || length > 11 : length == want.length());
                for (int i = 0; want != null && i < want.length(); i++) {
                    due.is("from " + place + " to " + cell + ", act " + i, x.way(0, cell, i), want.charAt(i) - '0');
                }
                due.is("behind its end", x.way(0, cell, Math.max(0, length)), NONE);
            }
        }
        SoleReader y = Due.at(12, 0);
        due.is("around, left ahead of right", y.way(0, 7, 0), 1);
        due.is("a STEP ahead of a TURN", y.way(0, 18, 0), 0);
    }

    /** The least that is WORN by places, found by going over all acts till nothing gets less. */
    private static int[] leastByPlaces(int[] to, int start) {
        int[] wears = new int[400];
        for (int place = 0; place < 100; place++) {
            SoleReader x = Due.at(place / 4, place % 4, LAW);
            for (int part = 0; part < 4; part++) {
                wears[place * 4 + part] = x.asks(0, part, 0);
            }
        }
        int[] least = new int[100];
        java.util.Arrays.fill(least, 1000000);
        least[start] = 0;
        for (int round = 0; round < 100; round++) {
            for (int place = 0; place < 100; place++) {
                int left = place / 4 * 4 + (place + 3) % 4;
                int right = place / 4 * 4 + (place + 1) % 4;
                least[left] = Math.min(least[left], least[place] + wears[place * 4 + 2]);
                least[right] = Math.min(least[right], least[place] + wears[place * 4 + 3]);
                if (to[place] != NONE) {
                    int then = to[place] * 4 + place % 4;
                    least[then] = Math.min(least[then], least[place] + wears[place * 4]);
                }
            }
        }
        return least;
    }

    private static void least() {
        due.sentence("LEAST: how much is WORN at least by acts that bring it there (the PARTS' WORN as now, whatever was done"
            + " ahead; 99 does not cut).");
        int[] to = steps(LAW, WALLS);
        for (int start : new int[] {0, 47, 57, 99}) {
            int[] least = leastByPlaces(to, start);
            SoleReader x = walled(start / 4, start % 4);
            for (int cell = 0; cell < 25; cell++) {
                int want = Math.min(Math.min(least[cell * 4], least[cell * 4 + 1]), Math.min(least[cell * 4 + 2], least[cell * 4 + 3]));
                due.is("from " + start + " to " + cell, x.least(0, cell), want == 1000000 ? NONE : want);
            }
        }
        SoleReader y = Due.worn(new int[] {99, 99, 99, 99});
        Due.law(y, "wears 9");
        y.force(1);
        due.is("99 does not cut", y.least(0, 20), 36);
        due.is("99 does not cut", y.least(0, 24), 9 * 9);
        SoleReader z = Due.worn(new int[] {98, 0, 0, 0});
        Due.law(z, "wears 1; wears 7 if part = 0 and worn = 99");
        z.force(1);
        due.is("WORN as now", z.least(0, 20), 4);
        SoleReader w = Due.at(12, 0, "wears 9 if part = 3; wears 1 if part = 2; wears 0 if part = 0");
        due.is("three TURNS left for one right", w.least(0, 13), 3);
        due.is("more acts than the WAY has", w.way(0, 13, NONE), 2);
        due.is("all for nothing", Due.at(0, 0, "wears 0").least(0, 24), 0);
    }

    private static void byChance() {
        due.sentence("BY CHANCE: of 1,000,000,000,000 parts how many are at a CELL behind n acts, each STEP, TURN left, TURN"
            + " right with a third (cut; what is left over is lost) of what there is, a STEP that can't be staying where it"
            + " is.");
        chances(steps(LAW, WALLS), 57, walled(14, 1));
        // to and fro through all rows, so far that but a part or two come there
        String winding = "bars if way = 2; bars if way = 0 and not (y % 2 = 1 and x = 4 or y % 2 = 0 and x = 0)";
        chances(steps(winding), 1, Due.at(0, 1, winding));
        due.is("cut", Due.at(12, 0, "bars").chance(0, 12, 1), 999_999_999_999L);
        due.is("cut again, by four places", Due.at(12, 0, "bars").chance(0, 12, 2), 999_999_999_999L);
        due.is("none elsewhere", Due.at(12, 0, "bars").chance(0, 17, 30), 0);
        due.is("out of the YARD one stays", Due.at(20, 0).chance(0, 20, 1), 999_999_999_999L);
        due.is("a STEP is a third", Due.at(20, 2).chance(0, 20, 1), 666_666_666_666L);
    }

    private static void chances(int[] to, int start, SoleReader x) {
        long[] parts = new long[100];
        parts[start] = WHOLE;
        for (int n = 0; n <= 30; n++) {
            for (int cell = n < 22 ? n % 5 : 0; cell < 25; cell += n < 22 ? 5 : 1) {
                due.is("CELL " + cell + " behind " + n, x.chance(0, cell, n),
                    parts[cell * 4] + parts[cell * 4 + 1] + parts[cell * 4 + 2] + parts[cell * 4 + 3]);
            }
            long[] then = new long[100];
            for (int place = 0; place < 100; place++) {
                long third = parts[place] / 3;
                then[to[place] == NONE ? place : to[place] * 4 + place % 4] += third;
                then[place / 4 * 4 + (place + 3) % 4] += third;
                then[place / 4 * 4 + (place + 1) % 4] += third;
            }
            parts = then;
        }
    }

    private static void within() {
        due.sentence("WITHIN n acts of a CELL (a WALL, too: those who stand in it): PAIRS whose WAY there has n at most.");
        SoleReader x = new SoleReader();
        x.pair(12, 0, 0);
        x.pair(17, 2, 0);
        x.pair(17, 0, 0);
        x.pair(0, 0, 0);
        x.pair(10, 3, 0);
        for (int n = 0; n <= 12; n++) {
            int want = 0;
            for (int pair = 0; pair < 5; pair++) {
                want |= x.way(pair, 12, NONE) <= n ? 1 << pair : 0;
            }
            due.is("within " + n, x.within(12, n), want);
        }
        due.is("there: 0 acts", x.within(12, 0), 1);
        due.is("one act", x.within(12, 1), 3);
        due.is("three acts", x.within(12, 3), 7);
        due.is("four acts", x.within(12, 4), 23);
        due.is("five acts", x.within(12, 5), 31);
        x.wall(12, 1);
        for (int n : new int[] {0, 1, 100}) {
            due.is("a WALL: who stands in it", x.within(12, n), 1);
        }
        x.wall(17, 1);
        due.is("in another WALL", x.within(17, 100), 6);
        for (int wall : new int[] {7, 11, 13}) {
            x.wall(wall, 1);
        }
        due.is("who does not come there", x.within(16, 100), 8 | 16 | 2 | 4);
        due.is("who does not come out", x.within(16, 100) & 1, 0);
    }
}
