/** 'Terms' I, sentence by sentence: how much there is of each thing, and what calls are REFUSED by. */
public final class TermsOneTests {
    private static final Due due = new Due("TermsOneTests");
    private static final int NONE = SoleReader.NONE;
    private static final int LEAST = Integer.MIN_VALUE;
    private static final int MOST = Integer.MAX_VALUE;

    public static void main(String[] args) {
        cells();
        edges();
        wallsAtFirst();
        pairs();
        ways();
        loads();
        worn();
        seen();
        terms();
        bits();
        badNumbers();
        noSuch();
        cannot();
        noRoom();
        badTexts();
        firstInOrder();
        due.quotesAllOf(Document.section("A YARD of 25 CELLS", "II. TEXTS"));
        due.close();
    }

    private static void cells() {
        due.sentence("A YARD of 25 CELLS: 5 times y and x");
        SoleReader x = new SoleReader();
        for (int cell : new int[] {-1, 25, 26, 30, 256, LEAST, MOST}) {
            due.is("pair at " + cell, x.pair(cell, 0, 0), -1);
            due.is("wall at " + cell, x.wall(cell, 1), -1);
            due.is("within of " + cell, x.within(cell, 0), NONE);
        }
        for (int cell = 0; cell < 25; cell++) {
            SoleReader y = Due.at(cell, 0, "leaves x * 10 + y");
            due.is("the CELL", y.of(0, 0), cell);
            due.is("x and y of " + cell, y.asks(0, 0, 1), cell % 5 * 10 + cell / 5);
            due.is("a WALL in " + cell, y.wall(cell, 1), 0);
            due.is("a WALL in " + cell, y.walls(), 1 << cell);
        }
    }

    /** From the last of a row or a column one does not come to the first of the next. */
    private static void edges() {
        due.sentence("(x, y 0 .. 4);");
        for (int i = 0; i < 5; i++) {
            due.is("up from y 4", Due.at(20 + i, 0).of(0, 7), NONE);
            due.is("right from x 4", Due.at(5 * i + 4, 1).of(0, 7), NONE);
            due.is("down from y 0", Due.at(i, 2).of(0, 7), NONE);
            due.is("left from x 0", Due.at(5 * i, 3).of(0, 7), NONE);
            due.is("up to y 4", Due.at(15 + i, 0).of(0, 7), 20 + i);
            due.is("right to x 4", Due.at(5 * i + 3, 1).of(0, 7), 5 * i + 4);
            due.is("down to y 0", Due.at(5 + i, 2).of(0, 7), i);
            due.is("left to x 0", Due.at(5 * i + 1, 3).of(0, 7), 5 * i);
        }
    }

    private static void wallsAtFirst() {
        due.sentence("some are WALLS (none at first).");
        SoleReader x = new SoleReader();
        due.is("none", x.walls(), 0);
        due.is("none", x.count(1), 0);
        for (int cell = 0; cell < 25; cell++) {
            due.is("it was none", x.wall(cell, 1), 0);
            due.is("so many", x.count(1), cell + 1);
        }
        due.is("all", x.walls(), 33554431);
    }

    private static void pairs() {
        due.sentence("PAIRS 0 .. 5 (6 at most):");
        SoleReader x = new SoleReader();
        due.is("none at first", x.count(0), 0);
        due.is("none at first", x.of(0, 0), NONE);
        for (int i = 0; i < 6; i++) {
            due.is("PAIR " + i, x.pair(24, 3, 9), i);
            due.is("PAIR " + i, x.of(i, 0), 24);
            due.is("so many", x.count(0), i + 1);
            due.is("no PAIR " + (i + 1), x.of(i + 1, 0), NONE);
        }
        due.is("the seventh", x.pair(24, 3, 9), -5);
        due.is("so many", x.count(0), 6);
        due.is("no PAIR 6", x.of(6, 0), NONE);
    }

    private static void ways() {
        due.sentence("a CELL, FACES a WAY 0 up (y one more), 1 right (x one more), 2 down, 3 left,");
        SoleReader x = new SoleReader();
        for (int way : new int[] {-1, 4, LEAST, MOST}) {
            due.is("WAY " + way, x.pair(12, way, 0), -1);
        }
        int[] next = {17, 13, 7, 11};
        for (int way = 0; way < 4; way++) {
            SoleReader y = Due.at(12, way);
            due.is("WAY " + way, y.of(0, 1), way);
            due.is("next by WAY " + way, y.step(0), next[way]);
        }
    }

    private static void loads() {
        due.sentence("a LOAD 0 .. 9,");
        for (int load = 0; load <= 9; load++) {
            SoleReader x = new SoleReader();
            due.is("LOAD " + load, x.pair(0, 0, load), 0);
            due.is("LOAD " + load, x.of(0, 2), load);
        }
        SoleReader x = new SoleReader();
        for (int load : new int[] {-1, 10, LEAST, MOST}) {
            due.is("LOAD " + load, x.pair(0, 0, load), -1);
        }
        due.is("no PAIR came", x.count(0), 0);
    }

    private static void worn() {
        due.sentence("WORN 0 .. 99 at each of PARTS 0 TOE, 1 HEEL, 2 LEFT, 3 RIGHT (0 at first).");
        String[] acts = {"step 0; turn 0 to 1 times 2", "pause 0", "turn 0 to 0", "turn 0 to 1"};
        for (int part = 0; part < 4; part++) {
            SoleReader x = Due.at(12, 0, "wears 9");
            due.is("at first", x.of(0, 3 + part), 0);
            for (int i = 1; i <= 13; i++) {
                Due.orders(x, acts[part]);
                due.is("PART " + part + ", time " + i, x.of(0, 3 + part), Math.min(99, 9 * i));
            }
            due.is("mended", x.mend(0, part), 99);
            due.is("none left", x.of(0, 3 + part), 0);
            due.is("none is below 0", x.mend(0, part), -3);
        }
        SoleReader x = Due.at(12, 0);
        due.is("no PART -1", x.mend(0, -1), -1);
        due.is("no PART 4", x.mend(0, 4), -1);
    }

    private static void seen() {
        due.sentence("SEEN, 6 at most: a PART that is WORN so much.");
        SoleReader x = Due.at(0, 0);
        for (int i = 1; i <= 6; i++) {
            due.is("SEEN " + i, x.seen(i % 4, 0), i);
        }
        due.is("it can still be", x.canBe(), 1);
        due.is("the seventh", x.seen(0, 1), -5);
        due.is("so many", x.count(2), 6);
        due.is("the seventh is not SEEN", x.canBe(), 1);
        x.forget();
        due.is("WORN otherwise", x.seen(0, 1), 1);
        due.is("it can't be", x.canBe(), 0);
    }

    private static void terms() {
        due.sentence("TERMS: 0 DAY 0 .. 999 (0 at first), 1 SLIPS 0 .. 10 (1), 2 MOOD 0 .. 9 (0).");
        int[] most = {999, 10, 9};
        int[] first = {0, 1, 0};
        SoleReader x = new SoleReader();
        for (int what = 0; what < 3; what++) {
            due.is("at first", x.count(12 + what), first[what]);
            due.is("one too few", x.terms(what, -1), -1);
            due.is("one too many", x.terms(what, most[what] + 1), -1);
            due.is("far too few", x.terms(what, LEAST), -1);
            due.is("far too many", x.terms(what, MOST), -1);
            due.is("still as at first", x.count(12 + what), first[what]);
            due.is("the most", x.terms(what, most[what]), first[what]);
            due.is("the most", x.count(12 + what), most[what]);
            due.is("the least", x.terms(what, 0), most[what]);
            due.is("the least", x.count(12 + what), 0);
        }
        for (int what : new int[] {-1, 3, LEAST, MOST}) {
            due.is("no TERM " + what, x.terms(what, 0), -1);
        }
    }

    private static void bits() {
        due.sentence("Sets are told as bits.");
        SoleReader x = new SoleReader();
        for (int i = 0; i < 6; i++) {
            x.pair(i == 5 ? 24 : 0, i == 5 ? 0 : 1, 0);
        }
        due.is("PAIR 5 alone", x.within(24, 0), 32);
        due.is("PAIRS 0 .. 4", x.within(0, 0), 31);
        due.is("all PAIRS", x.canBe(), 63);
        due.is("CELL 24", x.ends(5, 0, 0, 0), 1 << 24);
        due.is("CELL 0", x.ends(0, 0, 0, 0), 1);
        x.wall(19, 1);
        x.wall(23, 1);
        due.is("WALLS", x.walls(), 1 << 19 | 1 << 23);
        due.is("CUT off", x.cutOff(), 1 << 24);
    }

    private static void badNumbers() {
        due.sentence("REFUSED by: -1 a number that can't be;");
        SoleReader x = Due.at(0, 0);
        due.refused("pair", x, x.pair(0, 4, 0), -1);
        due.refused("wall", x, x.wall(0, 2), -1);
        due.refused("terms", x, x.terms(0, 1000), -1);
        due.refused("turn", x, x.turn(0, 2), -1);
        due.refused("mend", x, x.mend(0, 4), -1);
        due.refused("seen", x, x.seen(0, 100), -1);
        due.refused("years", x, x.years(0, 61), -1);
        due.refused("image", x, x.image(2), -1);
        due.refused("back", x, x.back(2), -1);
        due.is("so many", x.count(6), 9);
        due.is("no others", x.count(7) + x.count(8) + x.count(9) + x.count(10), 0);
    }

    private static void noSuch() {
        due.sentence("-2 there is no such PAIR, LAW, IMAGE;");
        SoleReader x = new SoleReader();
        due.refused("step", x, x.step(0), -2);
        due.refused("turn", x, x.turn(0, 0), -2);
        due.refused("pause", x, x.pause(0), -2);
        due.refused("mend", x, x.mend(0, 0), -2);
        due.refused("force", x, x.force(0), -2);
        due.refused("back", x, x.back(0), -2);
        due.is("so many", x.count(7), 6);
        due.is("no others", x.count(6) + x.count(8) + x.count(9) + x.count(10), 0);
    }

    private static void cannot() {
        due.sentence("-3 it can't be by what stands;");
        SoleReader x = new SoleReader();
        due.refused("years", x, x.years(0, 1), -3);
        due.refused("undo", x, x.undo(), -3);
        x.terms(0, 999);
        due.refused("pass", x, x.pass(), -3);
        x.pair(24, 0, 0);
        due.refused("step", x, x.step(0), -3);
        due.refused("mend", x, x.mend(0, 0), -3);
        due.refused("orders", x, Due.orders(x, "step 0"), -3);
        due.is("so many", x.count(8), 6);
        due.is("no others", x.count(6) + x.count(7) + x.count(9) + x.count(10), 0);
    }

    private static SoleReader full() {
        SoleReader x = new SoleReader();
        for (int i = 0; i < 6; i++) {
            x.pair(0, 0, 0);
            x.seen(0, 0);
            Due.law(x, "bars");
        }
        return x;
    }

    private static void noRoom() {
        due.sentence("-5 no room;");
        SoleReader x = full();
        due.is("none so far", x.count(9), 0);
        due.refused("pair", x, x.pair(0, 0, 0), -5);
        due.refused("seen", x, x.seen(0, 0), -5);
        due.refused("law", x, Due.law(x, "bars"), -5);
        due.is("so many", x.count(9), 3);
        due.is("no others", x.count(6) + x.count(7) + x.count(8) + x.count(10), 0);
        due.is("there are as many as there were", x.count(0) + x.count(2) + x.count(3), 18);
    }

    private static void badTexts() {
        due.sentence("-6 a TEXT, a ROW that can't be.");
        SoleReader x = new SoleReader();
        due.refused("law", x, Due.law(x, "step 0"), -6);
        due.refused("orders", x, Due.orders(x, "bars"), -6);
        due.refused("row", x, x.row(), -6);
        due.is("so many", x.count(10), 3);
        due.is("no others", x.count(6) + x.count(7) + x.count(8) + x.count(9), 0);
    }

    /** Each call here could be REFUSED by two or three of them. */
    private static void firstInOrder() {
        due.sentence("The first of these in that order.");
        SoleReader x = full();
        due.refused("pair: -1, -5", x, x.pair(25, 0, 0), -1);
        due.refused("seen: -1, -5", x, x.seen(4, 0), -1);
        due.refused("law: -5, -6", x, Due.law(x, "nonsense"), -5);
        due.refused("law of nothing: -5, -6", x, x.law(), -5);
        due.refused("mend: -1, -2", x, x.mend(6, 4), -1);
        due.refused("turn: -1, -2", x, x.turn(6, 2), -1);
        due.refused("mend: -2, -3", x, x.mend(6, 0), -2);
        SoleReader y = new SoleReader();
        due.refused("years: -1, -3", y, y.years(0, 0), -1);
        due.refused("back: -1, -2", y, y.back(-1), -1);
        due.is("each counts once", x.count(6) + x.count(7) + x.count(9), 7);
    }
}
