/** 'Terms' III, sentence by sentence, second half: what is reckoned on paper of how PAIRS are WORN, CUT off, FEW, COMPARED. */
public final class TermsThreeMoreTests {
    private static final Due due = new Due("TermsThreeMoreTests");
    private static final int NONE = SoleReader.NONE;
    private static final long WHOLE = 1_000_000_000_000L;

    public static void main(String[] args) {
        couples();
        couplesFirstAsARow();
        likest();
        lasts();
        canBe();
        look();
        cutOff();
        few();
        compared();
        due.quotesAllOf(Document.section("COUPLES: PAIRS parted", "IV. YEARS"));
        due.close();
    }

    /** The same row of numbers for the same seed, with equal ones among them. */
    private static int[][] drawnWorn(int seed, int pairs, int most) {
        java.util.Random random = new java.util.Random(seed);
        int[][] worn = new int[pairs][4];
        for (int[] one : worn) {
            for (int part = 0; part < 4; part++) {
                one[part] = random.nextInt(most + 1);
            }
        }
        return worn;
    }

    private static int differ(int[] one, int[] other) {
        int sum = 0;
        for (int part = 0; part < 4; part++) {
            sum += Math.abs(one[part] - other[part]);
        }
        return sum;
    }

    /** Goes through all rows of numbers in their order: the first of those that part the PAIRS and differ least. */
    private static int[] bestRow(int[][] worn) {
        int n = worn.length;
        int rows = 1;
        for (int i = 0; i < n; i++) {
            rows *= n;
        }
        int[] best = null;
        int least = 0;
        for (int number = 0; number < rows; number++) {
            int[] row = new int[n];
            int rest = number;
            for (int i = n - 1; i >= 0; i--) {
                row[i] = rest % n;
                rest /= n;
            }
            int sum = partedSum(worn, row);
            if (sum >= 0 && (best == null || sum < least)) {
                best = row;
                least = sum;
            }
        }
        return best;
    }

    /** By how much they differ; below 0, if the row does not part them in twos. */
    private static int partedSum(int[][] worn, int[] row) {
        int alone = 0;
        int twice = 0;
        for (int i = 0; i < row.length; i++) {
            if (row[row[i]] != i) {
                return -1;
            }
            alone += row[i] == i ? 1 : 0;
            twice += differ(worn[i], worn[row[i]]);
        }
        return alone == row.length % 2 ? twice / 2 : -1;
    }

    private static void parted(int[]... worn) {
        SoleReader x = Due.worn(worn);
        int[] row = bestRow(worn);
        due.is("by how much", x.couples(0), partedSum(worn, row));
        for (int pair = 0; pair < worn.length; pair++) {
            due.is("PARTNER of " + pair + " among " + worn.length, x.couples(1 + pair), row[pair]);
        }
        due.is("no such PAIR", x.couples(1 + worn.length), NONE);
    }

    private static void couples() {
        due.sentence("COUPLES: PAIRS parted in twos, all but one, if they are odd: so that how much they differ in WORN, PART"
            + " by PART, all added up over all twos, is least;");
        SoleReader none = new SoleReader();
        due.is("no PAIRS", none.couples(0), 0);
        due.is("no PAIRS", none.couples(1), NONE);
        for (int seed = 0; seed < 60; seed++) {
            parted(drawnWorn(seed, 1 + seed % 6, seed < 30 ? 99 : 3));
        }
        parted(new int[] {99, 99, 99, 99}, new int[] {0, 0, 0, 0});
        due.is("the most of two", Due.worn(new int[] {99, 0, 99, 0}, new int[] {0, 99, 0, 99}).couples(0), 396);
        // PART by PART: what one PART has more does not make good for another
        due.is("PART by PART", Due.worn(new int[] {5, 0, 0, 0}, new int[] {0, 5, 0, 0}).couples(0), 10);
        due.is("two are not both alone", Due.worn(new int[] {9, 0, 0, 0}, new int[4]).couples(1), 1);
        due.is("three: but one is alone", Due.worn(new int[4], new int[] {9, 0, 0, 0}, new int[4]).couples(2), 1);
    }

    private static void couplesFirstAsARow() {
        due.sentence("the first as a row of PARTNERS by PAIRS (itself: alone).");
        for (int pairs = 1; pairs <= 6; pairs++) {
            parted(new int[pairs][4]);
        }
        SoleReader five = Due.worn(new int[5][4]);
        int[] row = {0, 2, 1, 4, 3};
        for (int pair = 0; pair < 5; pair++) {
            due.is("all alike: PAIR 0 is alone", five.couples(1 + pair), row[pair]);
        }
        SoleReader four = Due.worn(new int[4][4]);
        int[] twos = {1, 0, 3, 2};
        for (int pair = 0; pair < 4; pair++) {
            due.is("all alike", four.couples(1 + pair), twos[pair]);
        }
        due.is("one alone", Due.worn(new int[] {7, 7, 7, 7}).couples(1), 0);
        due.is("one alone", Due.worn(new int[] {7, 7, 7, 7}).couples(0), 0);
    }

    private static void likest() {
        due.sentence("LIKEST of a PAIR: that other one from which it differs least so; the lowest.");
        due.is("no other one", Due.worn(new int[4]).likest(0), NONE);
        for (int seed = 0; seed < 40; seed++) {
            int[][] worn = drawnWorn(seed, 2 + seed % 5, seed < 20 ? 99 : 2);
            SoleReader x = Due.worn(worn);
            for (int pair = 0; pair < worn.length; pair++) {
                int best = NONE;
                for (int other = worn.length - 1; other >= 0; other--) {
                    if (other != pair && (best == NONE || differ(worn[pair], worn[other]) <= differ(worn[pair], worn[best]))) {
                        best = other;
                    }
                }
                due.is("likest of " + pair, x.likest(pair), best);
            }
        }
        SoleReader alike = Due.worn(new int[6][4]);
        for (int pair = 0; pair < 6; pair++) {
            due.is("the lowest other one", alike.likest(pair), pair == 0 ? 1 : 0);
        }
    }

    private static void lasts() {
        due.sentence("LASTS: how many times, one behind the other, a PART would have to be WORN by what it WEARS (that PART"
            + " alone; WORN as it is then, where the PAIR is) till it is 99; 200 at most.");
        for (int by = 1; by <= 9; by++) {
            due.is("by " + by, Due.at(0, 0, "wears " + by).lasts(0, 1), (98 + by) / by);
        }
        due.is("by 0: never", Due.at(0, 0, "wears 0").lasts(0, 1), NONE);
        due.is("by 0 at 98", Due.at(0, 0, "wears 1; wears 0 if worn = 98").lasts(0, 1), NONE);
        due.is("WORN as it is then", Due.at(0, 0, "wears 1; wears 9 if worn > 49").lasts(0, 1), 50 + 6);
        due.is("that PART alone", Due.at(0, 0, "wears part").lasts(0, 0), NONE);
        due.is("that PART alone", Due.at(0, 0, "wears part").lasts(0, 1), 99);
        due.is("that PART alone", Due.at(0, 0, "wears part").lasts(0, 2), 50);
        due.is("that PART alone", Due.at(0, 0, "wears part").lasts(0, 3), 33);
        due.is("where it is, as it FACES", Due.at(13, 2, "wears x * 2 + way").lasts(0, 0), 13);
        for (int worn : new int[] {0, 1, 90, 97, 98, 99}) {
            due.is("from " + worn, Due.worn(new int[] {0, 0, worn, 0}).lasts(0, 2), 99 - worn);
        }
        due.is("99 now, by 0", Due.at(0, 0, "wears 0").lasts(0, 0), NONE);
        SoleReader x = Due.worn(new int[] {99, 0, 0, 0});
        Due.law(x, "wears 0");
        x.force(1);
        due.is("99 now, by 0", x.lasts(0, 0), 0);
        due.is("nothing is done", x.of(0, 3), 99);
        due.is("nothing is done", x.of(0, 4), 0);
    }

    private static void canBe() {
        due.sentence("IT CAN BE: PAIRS all that was SEEN is so of.");
        SoleReader x = Due.worn(new int[] {1, 2, 3, 4}, new int[] {1, 2, 3, 5}, new int[] {1, 2, 9, 4}, new int[] {99, 0, 3, 4});
        due.is("nothing SEEN: all", x.canBe(), 15);
        x.seen(0, 1);
        due.is("TOE 1", x.canBe(), 7);
        x.seen(2, 3);
        due.is("LEFT 3, too", x.canBe(), 3);
        x.seen(3, 5);
        due.is("RIGHT 5, too", x.canBe(), 2);
        x.seen(3, 5);
        due.is("the same again", x.canBe(), 2);
        x.seen(3, 4);
        due.is("what can't be together", x.canBe(), 0);
        x.forget();
        due.is("nothing SEEN: all", x.canBe(), 15);
        x.seen(0, 99);
        due.is("TOE 99", x.canBe(), 8);
        x.step(3);
        due.is("99 at most", x.canBe(), 8);
        x.mend(3, 0);
        due.is("by how it is now", x.canBe(), 0);
        due.is("no PAIRS", new SoleReader().canBe(), 0);
    }

    /** How many at most are WORN alike at a PART. */
    private static int most(int[][] worn, int part) {
        int most = 0;
        for (int[] one : worn) {
            int alike = 0;
            for (int[] other : worn) {
                alike += one[part] == other[part] ? 1 : 0;
            }
            most = Math.max(most, alike);
        }
        return most;
    }

    private static void look() {
        due.sentence("To LOOK at: the PART at which of these the most that are WORN alike are as few as can be; the lowest.");
        due.is("no PAIRS", new SoleReader().look(0), NONE);
        for (int seed = 0; seed < 40; seed++) {
            int[][] worn = drawnWorn(seed, 1 + seed % 6, 1 + seed % 4);
            int best = 3;
            for (int part = 3; part >= 0; part--) {
                best = most(worn, part) <= most(worn, best) ? part : best;
            }
            SoleReader x = Due.worn(worn);
            due.is("the PART", x.look(0), best);
            due.is("how many", x.look(1), most(worn, best));
        }
        SoleReader x = Due.worn(new int[] {0, 1, 0, 0}, new int[] {0, 1, 0, 1}, new int[] {1, 2, 1, 1}, new int[] {2, 2, 1, 1});
        due.is("2 at most at TOE, HEEL, LEFT", x.look(0), 0);
        due.is("2 at most", x.look(1), 2);
        x.seen(1, 1);
        due.is("of these alone", x.look(0), 3);
        due.is("1 at most", x.look(1), 1);
        x.seen(3, 0);
        due.is("one PAIR: the lowest PART", x.look(0), 0);
        due.is("one PAIR", x.look(1), 1);
        x.seen(3, 1);
        due.is("it can be none", x.look(0), NONE);
        due.is("it can be none", x.look(1), NONE);
    }

    private static void walls(SoleReader x, int bits) {
        for (int cell = 0; cell < 25; cell++) {
            x.wall(cell, bits >> cell & 1);
        }
    }

    /** Goes from CELL 0 to whatever is beside it, again and again. */
    private static int cut(int walls) {
        boolean[] come = new boolean[25];
        come[0] = (walls & 1) == 0;
        for (int round = 0; round < 25; round++) {
            for (int a = 0; a < 25; a++) {
                for (int b = 0; b < 25; b++) {
                    boolean beside = Math.abs(a % 5 - b % 5) + Math.abs(a / 5 - b / 5) == 1;
                    come[b] |= come[a] && beside && (walls >> b & 1) == 0;
                }
            }
        }
        int bits = 0;
        for (int cell = 0; cell < 25; cell++) {
            bits |= !come[cell] && (walls >> cell & 1) == 0 ? 1 << cell : 0;
        }
        return bits;
    }

    private static void cutOff() {
        due.sentence("CUT off: CELLS, no WALLS, to which one does not come from CELL 0 over CELLS that are no WALLS, side by"
            + " side (laws aside; CELL 0 itself is not; if it is a WALL, all that are none).");
        due.is("no WALLS", new SoleReader().cutOff(), 0);
        due.is("laws aside", Due.at(0, 0, "bars").cutOff(), 0);
        java.util.Random random = new java.util.Random(1);
        for (int i = 0; i < 200; i++) {
            int walls = random.nextInt(1 << 25) & (i % 2 == 0 ? random.nextInt(1 << 25) : ~1);
            SoleReader x = new SoleReader();
            walls(x, walls);
            due.is("WALLS " + walls, x.cutOff(), cut(walls));
        }
        // a long way, to and fro between two rows of WALLS
        int snake = 0xF << 5 | 0x1E << 15;
        SoleReader y = new SoleReader();
        walls(y, snake);
        due.is("to and fro", y.cutOff(), 0);
        y.wall(9, 1);
        due.is("shut at its first bend", y.cutOff(), 0x1FFFFFF & ~snake & ~0x3FF);
        SoleReader z = new SoleReader();
        walls(z, 1 << 1 | 1 << 5);
        due.is("CELL 0 itself is not", z.cutOff(), 0x1FFFFFF & ~(1 | 1 << 1 | 1 << 5));
        walls(z, 1);
        due.is("CELL 0 a WALL", z.cutOff(), 0x1FFFFFE);
        walls(z, 0x1FFFFFF);
        due.is("nothing but WALLS", z.cutOff(), 0);
        walls(z, 1 << 23 | 1 << 19);
        due.is("aslant is not side by side", z.cutOff(), 1 << 24);
        walls(z, 1 << 4 | 1 << 9 | 1 << 14 | 1 << 19 | 1 << 23);
        due.is("a corner", z.cutOff(), 1 << 24);
        walls(z, 1 << 0);
        z.pair(12, 0, 0);
        z.wall(0, 0);
        due.is("PAIRS aside", z.cutOff(), 0);
    }

    private static void few() {
        due.sentence("FEW: the chance, of 1,000,000,000,000 parts, that of n steps, each of which slips in SLIPS of ten, fewer"
            + " than k do: step by step, by how many did, each part times the rest by ten and times SLIPS by ten (one more),"
            + " both cut; of those below k all together.");
        for (int slips = 0; slips <= 10; slips++) {
            long[] parts = new long[101];
            parts[0] = WHOLE;
            SoleReader x = new SoleReader();
            x.terms(1, slips);
            for (int n = 0; n <= 99; n++) {
                int k = 1 + n % 20;
                long sum = 0;
                long less = 0;
                for (int i = 0; i < k; i++) {
                    sum += parts[i];
                    less += i < 20 - k ? parts[i] : 0;
                }
                for (int i = k; i < 20 - k; i++) {
                    less += parts[i];
                }
                due.is("few(" + k + ", " + n + ") of SLIPS " + slips, x.few(k, n), sum);
                if (k < 20) {
                    due.is("few(" + (20 - k) + ", " + n + ") of SLIPS " + slips, x.few(20 - k, n), less);
                }
                long[] then = new long[101];
                for (int i = 0; i < 100; i++) {
                    then[i] += parts[i] * (10 - slips) / 10;
                    then[i + 1] += parts[i] * slips / 10;
                }
                parts = then;
            }
        }
        SoleReader y = new SoleReader();
        due.is("1 of ten at first", y.few(1, 1), 900_000_000_000L);
        y.terms(1, 10);
        due.is("each slips", y.few(20, 20), 0);
        due.is("each slips", y.few(20, 19), WHOLE);
        y.terms(1, 0);
        due.is("none slips", y.few(1, 99), WHOLE);
    }

    private static void compared() {
        due.sentence("COMPARED: by how much a PART WEARS by a LAW in place of that in FORCE (NONE: none).");
        SoleReader x = Due.at(13, 1, "wears 4; bars");
        Due.law(x, "wears part + x");
        Due.law(x, "leaves 3");
        Due.law(x, "wears 20; wears 0-4 if part = 2");
        for (int forced = NONE; forced < 4; forced++) {
            x.force(forced);
            due.is("by LAW 0", x.compare(0, 0, 3), 4);
            due.is("by LAW 1", x.compare(1, 0, 3), 6);
            due.is("by LAW 1, the TOE", x.compare(1, 0, 0), 3);
            due.is("by LAW 2, without", x.compare(2, 0, 3), 1);
            due.is("by LAW 3, the nearest", x.compare(3, 0, 3), 9);
            due.is("by LAW 3, the nearest", x.compare(3, 0, 2), 0);
            due.is("by none", x.compare(NONE, 0, 3), 1);
            due.is("that in FORCE stays", x.count(11), forced);
        }
    }
}
