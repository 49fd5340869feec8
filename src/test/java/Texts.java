import java.util.Random;

/** Draws TEXTS of both languages, most of them good ones, of at most 400 bytes. */
final class Texts {
    private final Random random;
    private boolean orders;
    private int depth = 0;

    Texts(Random random) {
        this.random = random;
    }

    String text(boolean ofOrders) {
        orders = ofOrders;
        StringBuilder all = new StringBuilder();
        int clauses = random.nextInt(15) == 0 ? 10 + random.nextInt(5) : 1 + random.nextInt(4);
        for (int i = 0; i < clauses; i++) {
            all.append(i == 0 ? "" : random.nextBoolean() ? ";" : " ; ").append(clause());
        }
        return cut(all.toString());
    }

    /** A TEXT that was good, with a place changed, taken out, doubled, or its end cut off. */
    static String spoilt(Random random, String text) {
        if (text.isEmpty()) {
            return text;
        }
        int at = random.nextInt(text.length());
        String head = text.substring(0, at);
        String tail = text.substring(at + 1);
        String signs = " ;()[]+-*/%<>=09az.,A\t\u00e9\u0000";
        switch (random.nextInt(5)) {
            case 0: return head;
            case 1: return head + tail;
            case 2: return head + signs.charAt(random.nextInt(signs.length())) + tail;
            case 3: return cut(head + text.substring(at, Math.min(text.length(), at + 5)) + text.substring(at));
            default: return cut(text + signs.charAt(random.nextInt(signs.length())));
        }
    }

    private static String cut(String text) {
        return text.length() > 400 ? text.substring(0, 400) : text;
    }

    private String gap() {
        return random.nextInt(6) == 0 ? "  " : " ";
    }

    private String clause() {
        String test = random.nextInt(3) == 0 ? "" : gap() + "if" + gap() + test();
        if (!orders) {
            int verb = random.nextInt(10);
            String head = verb < 5 ? "wears" + gap() + sum() : verb < 8 ? "leaves" + gap() + sum() : "bars";
            return verb >= 8 && random.nextInt(10) != 0 ? "bars if" + gap() + test() : head + test;
        }
        String times = random.nextInt(3) == 0 ? gap() + "times" + gap() + (1 + random.nextInt(random.nextInt(10) == 0 ? 22 : 4)) : "";
        return order() + times + test;
    }

    private String order() {
        String pair = random.nextInt(8) == 0 ? sum() : "" + random.nextInt(random.nextInt(5) == 0 ? 6 : 2);
        switch (random.nextInt(6)) {
            case 0: return "turn " + pair + " to " + (random.nextInt(8) == 0 ? sum() : "" + random.nextInt(2));
            case 1: return "pause " + pair;
            case 2: return "mend " + pair + " at " + (random.nextInt(8) == 0 ? sum() : "" + random.nextInt(4));
            case 3: return "pass";
            default: return "step " + pair;
        }
    }

    private String test() {
        depth++;
        int kind = random.nextInt(10);
        String all;
        if (kind == 0 && depth < 6) {
            all = "not " + test();
        } else if (kind == 1 && depth < 8) {
            all = "(" + test() + ")";
        } else if (kind < 4 && depth < 5) {
            all = test() + (random.nextBoolean() ? " or " : " and ") + test();
        } else {
            all = sum() + gap() + "<>=".charAt(random.nextInt(3)) + gap() + sum();
        }
        depth--;
        return all;
    }

    private String sum() {
        depth++;
        int kind = random.nextInt(10);
        String all;
        if (kind == 0 && depth < 10) {
            all = "[" + sum() + "]";
        } else if (kind < 4 && depth < 5) {
            all = sum() + "+-*/%".charAt(random.nextInt(5)) + sum();
        } else {
            all = random.nextBoolean() ? word() : number();
        }
        depth--;
        return all;
    }

    private String number() {
        int kind = random.nextInt(12);
        return "" + (kind == 0 ? random.nextInt(1003) : kind == 1 ? 1000 : random.nextInt(6));
    }

    private String word() {
        String[] law = {"pair", "load", "part", "worn", "x", "y", "way", "day", "mood"};
        String[] order = {"day", "done", "latest", "pairs", "walls", "cell ", "toe ", "heel "};
        if (!orders) {
            return law[random.nextInt(law.length)];
        }
        String word = order[random.nextInt(order.length)];
        return word.endsWith(" ") ? word + random.nextInt(random.nextInt(12) == 0 ? 8 : 6) : word;
    }
}
