import java.util.ArrayList;
import java.util.List;

/** What the tests share: answers held against those that are due, and TEXTS put on the TAPE. */
final class Due {
    private final String about;
    private final List<String> quoted = new ArrayList<>();
    private String sentence = "";
    private int asked = 0;
    private int askedAhead = 0;
    private int wrong = 0;

    Due(String about) {
        this.about = about;
    }

    void is(String call, long got, long want) {
        asked++;
        if (got != want) {
            wrong++;
            System.out.println(about + ": " + call + " answered " + got + ", due is " + want
                + (sentence.isEmpty() ? "" : ", by: " + sentence));
        }
    }

    void holds(String what, boolean so) {
        is(what, so ? 1 : 0, 1);
    }

    /** What a call was REFUSED by, by its answer and by status(). */
    void refused(String call, SoleReader x, int answer, int by) {
        is(call, answer, by);
        is("status() behind " + call, x.status(), by);
    }

    /** The sentence of the document against which the answers that follow are held. */
    void sentence(String quote) {
        endSentence();
        sentence = quote;
        quoted.add(quote);
    }

    private void endSentence() {
        String told = sentence;
        sentence = "";
        if (!told.isEmpty()) {
            holds("an answer is asked of: " + told, asked > askedAhead);
        }
        askedAhead = asked;
    }

    /** Holds what was quoted since the latest call of this against a section: each word of it must have been quoted. */
    void quotesAllOf(String section) {
        endSentence();
        for (String fault : Document.faults(section, quoted)) {
            holds(fault, false);
        }
        quoted.clear();
        askedAhead = asked;
    }

    /** A TEXT as a LAW on a new object: where its FAULT is, NONE if it is a good one. */
    void lawFault(String text, int at) {
        SoleReader x = new SoleReader();
        boolean good = at == SoleReader.NONE;
        is("law '" + text + "'", law(x, text), good ? 0 : -6);
        is("fault of '" + text + "'", x.fault(), at);
        is("the TAPE behind '" + text + "'", x.count(5), 0);
        is("laws behind '" + text + "'", x.count(3), good ? 1 : 0);
        is("status behind '" + text + "'", x.status(), good ? 0 : -6);
    }

    /** A TEXT as ORDERS on a new object with one PAIR: where its FAULT is, NONE if it is a good one. */
    void orderFault(String text, int at) {
        SoleReader x = at(12, 0);
        x.pause(0);
        holds("orders '" + text + "'", orders(x, text) == -6 == (at != SoleReader.NONE));
        is("fault of '" + text + "'", x.fault(), at);
        is("the TAPE behind '" + text + "'", x.count(5), 0);
    }

    /** What a SUM comes to, told by mending (0 .. 99). */
    void sum(String sum, int want) {
        SoleReader x = under("leaves " + sum);
        x.pair(13, 1, 4);
        is("leaves " + sum, x.asks(0, 0, 1), want);
    }

    /** Whether a TEST is so, told by mending. */
    void test(String test, boolean want) {
        is("if " + test, at(0, 0, "leaves 1 if " + test).asks(0, 0, 1), want ? 1 : 0);
    }

    /** Tells the sum of it; ends with exit code 1, if an answer was wrong. */
    void close() {
        System.out.println(about + ": " + asked + " asked, " + wrong + " wrong");
        if (wrong != 0 || asked == 0) {
            System.exit(1);
        }
    }

    /** Puts bytes (characters 0 to 255) behind the TAPE; false, if there is no room. */
    static boolean put(SoleReader x, String text) {
        int had = x.count(5);
        for (int i = 0; i < text.length(); i += 20) {
            int[] five = new int[5];
            for (int k = 0; k < 20; k++) {
                int sign = i + k < text.length() ? text.charAt(i + k) : ' ';
                five[k / 4] = five[k / 4] << 8 | sign;
            }
            if (x.feed(five[0], five[1], five[2], five[3], five[4]) == SoleReader.NONE) {
                return false;
            }
        }
        return x.end(had + text.length()) == had + text.length();
    }

    static int law(SoleReader x, String text) {
        put(x, text);
        return x.law();
    }

    static int orders(SoleReader x, String text) {
        put(x, text);
        return x.orders();
    }

    /** A new object under a LAW that is in FORCE. */
    static SoleReader under(String law) {
        SoleReader x = new SoleReader();
        if (law(x, law) != 0 || x.force(0) != SoleReader.NONE) {
            throw new IllegalStateException("no law: " + law);
        }
        return x;
    }

    /** A new object with one PAIR, of LOAD 0. */
    static SoleReader at(int cell, int way) {
        SoleReader x = new SoleReader();
        x.pair(cell, way, 0);
        return x;
    }

    /** A new object with one PAIR, of LOAD 0, under a LAW that is in FORCE. */
    static SoleReader at(int cell, int way, String law) {
        SoleReader x = under(law);
        x.pair(cell, way, 0);
        return x;
    }

    /**
     * A new object with PAIRS in CELL 0 that FACE up, each WORN at its four PARTS as told; it has one LAW, which is not
     * in FORCE, and the DAY is 0.
     */
    static SoleReader worn(int[]... byPair) {
        SoleReader x = under("leaves day");
        for (int pair = 0; pair < byPair.length; pair++) {
            x.pair(0, 0, 0);
            String it = pair + "";
            orders(x, "step " + it + "; turn " + it + " to 0 times 2; step " + it + "; turn " + it + " to 1 times 2; pause " + it);
            for (int part = 0; part < 4; part++) {
                x.terms(0, byPair[pair][part]);
                x.mend(pair, part);
            }
        }
        x.terms(0, 0);
        x.force(SoleReader.NONE);
        return x;
    }

    static String times(String what, int n) {
        return what.repeat(n);
    }
}
