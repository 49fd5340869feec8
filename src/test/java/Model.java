import java.util.ArrayDeque;
import java.util.ArrayList;
import java.util.Arrays;
import java.util.HashMap;
import java.util.List;
import java.util.Map;
import java.util.TreeSet;

/**
 * The document written a second time, as plainly as it goes and by other means than SoleReader (trees for TEXTS,
 * whole copies for what can be undone, trying all for COUPLES), so that the two can be held against one another.
 */
final class Model {
    private static final class Fault extends RuntimeException {
        private static final long serialVersionUID = 1L;
        final int at;

        Fault(int at) {
            super(null, null, false, false);
            this.at = at;
        }
    }

    private static final class Broken extends RuntimeException {
        private static final long serialVersionUID = 1L;

        Broken() {
            super(null, null, false, false);
        }
    }

    private interface Sum {
        long of(Map<String, Integer> words);
    }

    private interface Test {
        boolean of(Map<String, Integer> words);
    }

    private static final class Clause {
        String verb;
        Sum first;
        Sum second;
        int times = 1;
        Test test;
    }

    private static final class Shoe {
        int cell;
        int way;
        int load;
        int[] worn = new int[4];

        Shoe copy() {
            Shoe s = new Shoe();
            s.cell = cell;
            s.way = way;
            s.load = load;
            s.worn = worn.clone();
            return s;
        }
    }

    private static final class State {
        List<Shoe> shoes = new ArrayList<>();
        TreeSet<Integer> walls = new TreeSet<>();
        int[] terms = {0, 1, 0};
        List<int[]> seen = new ArrayList<>();
        List<List<Clause>> laws = new ArrayList<>();
        int force = -1;

        State copy() {
            State s = new State();
            for (Shoe shoe : shoes) {
                s.shoes.add(shoe.copy());
            }
            s.walls.addAll(walls);
            s.terms = terms.clone();
            s.seen.addAll(seen);
            s.laws.addAll(laws);
            s.force = force;
            return s;
        }
    }

    private static final class Undo {
        final int act;
        final List<Shoe> shoes = new ArrayList<>();
        final int day;

        Undo(int act, State s) {
            this.act = act;
            for (Shoe shoe : s.shoes) {
                shoes.add(shoe.copy());
            }
            day = s.terms[0];
        }
    }

    private State now = new State();
    private final State[] images = new State[2];
    private State paper = new State();
    private ArrayDeque<Undo> undos = new ArrayDeque<>();
    private final List<Integer> tape = new ArrayList<>();
    private int fault = -1;
    private int stopped = -1;
    private int brads = 0;
    private int status = 0;
    private final Map<Integer, Integer> refused = new HashMap<>();

    private int refuse(int by) {
        status = by;
        refused.merge(by, 1, Integer::sum);
        return by;
    }

    private int fine(int answer) {
        status = 0;
        return answer;
    }

    // ---- texts

    private final class Parser {
        final List<String> tokens = new ArrayList<>();
        final List<Integer> places = new ArrayList<>();
        final boolean orders;
        int i = 0;
        int parts = 0;
        int brackets = 0;

        Parser(boolean orders) {
            this.orders = orders;
            StringBuilder text = new StringBuilder();
            for (int b : tape) {
                text.append((char) b);
            }
            java.util.regex.Matcher m = java.util.regex.Pattern.compile("[a-z]+|[0-9]+|[^ ]",
                java.util.regex.Pattern.DOTALL).matcher(text);
            while (m.find()) {
                tokens.add(m.group());
                places.add(m.start());
            }
            tokens.add("");
            places.add(tape.size());
        }

        String token() {
            return tokens.get(i);
        }

        Fault fault() {
            return new Fault(places.get(i));
        }

        boolean accept(String t) {
            if (token().equals(t)) {
                i++;
                return true;
            }
            return false;
        }

        void expect(String t) {
            if (!accept(t)) {
                throw fault();
            }
        }

        int number(int from, int to) {
            String t = token();
            if (t.isEmpty() || !t.matches("[0-9]+")) {
                throw fault();
            }
            java.math.BigInteger n = new java.math.BigInteger(t);
            if (n.compareTo(java.math.BigInteger.valueOf(from)) < 0
                || n.compareTo(java.math.BigInteger.valueOf(to)) > 0) {
                throw fault();
            }
            i++;
            return n.intValue();
        }

        List<Clause> text() {
            List<Clause> all = new ArrayList<>();
            do {
                if (all.size() == 12) {
                    throw fault();
                }
                all.add(clause());
            } while (accept(";"));
            if (!token().isEmpty()) {
                throw fault();
            }
            return all;
        }

        Clause clause() {
            Clause c = new Clause();
            List<String> verbs = orders ? List.of("step", "turn", "pause", "mend", "pass")
                : List.of("wears", "leaves", "bars");
            if (!verbs.contains(token())) {
                throw fault();
            }
            c.verb = token();
            i++;
            if (!c.verb.equals("pass") && !c.verb.equals("bars")) {
                c.first = sum();
            }
            if (c.verb.equals("turn")) {
                expect("to");
                c.second = sum();
            }
            if (c.verb.equals("mend")) {
                expect("at");
                c.second = sum();
            }
            if (orders && accept("times")) {
                c.times = number(1, 20);
            }
            if (accept("if")) {
                c.test = test();
            }
            return c;
        }

        Test test() {
            Test a = both();
            if (accept("or")) {
                // to the right: the same, as what is so ends it either way
                Test b = test();
                return w -> a.of(w) || b.of(w);
            }
            return a;
        }

        Test both() {
            Test a = plain();
            if (accept("and")) {
                Test b = both();
                return w -> a.of(w) && b.of(w);
            }
            return a;
        }

        Test plain() {
            if (accept("not")) {
                Test a = plain();
                return w -> !a.of(w);
            }
            if (token().equals("(")) {
                open();
                Test a = test();
                expect(")");
                brackets--;
                return a;
            }
            Sum a = sum();
            String sign = token();
            if (!List.of("<", ">", "=").contains(sign)) {
                throw fault();
            }
            i++;
            Sum b = sum();
            return w -> {
                long l = a.of(w);
                long r = b.of(w);
                return sign.equals("<") ? l < r : sign.equals(">") ? l > r : l == r;
            };
        }

        void open() {
            if (brackets == 8) {
                throw fault();
            }
            brackets++;
            i++;
        }

        Sum sum() {
            Sum all = term();
            while (token().equals("+") || token().equals("-")) {
                boolean plus = token().equals("+");
                i++;
                Sum a = all;
                Sum b = term();
                all = w -> {
                    long l = a.of(w);
                    long r = b.of(w);
                    return checked(plus ? l + r : l - r);
                };
            }
            return all;
        }

        Sum term() {
            Sum all = part();
            while (List.of("*", "/", "%").contains(token())) {
                String sign = token();
                i++;
                Sum a = all;
                Sum b = part();
                all = w -> {
                    long l = a.of(w);
                    long r = b.of(w);
                    if (sign.equals("*")) {
                        return checked(l * r);
                    }
                    if (r == 0) {
                        throw new Broken();
                    }
                    return sign.equals("/") ? l / r : l - l / r * r;
                };
            }
            return all;
        }

        Sum part() {
            if (token().equals("[")) {
                open();
                Sum a = sum();
                expect("]");
                brackets--;
                return a;
            }
            if (parts == 50) {
                throw fault();
            }
            parts++;
            String t = token();
            if (t.matches("[0-9]+")) {
                int n = number(0, 1000);
                return w -> n;
            }
            List<String> plain = orders ? List.of("day", "done", "latest", "pairs", "walls")
                : List.of("pair", "load", "part", "worn", "x", "y", "way", "day", "mood");
            if (plain.contains(t)) {
                i++;
                return w -> w.get(t);
            }
            if (orders && List.of("cell", "toe", "heel").contains(t)) {
                i++;
                int n = number(0, 5);
                return w -> w.get(t + n);
            }
            throw fault();
        }
    }

    private static long checked(long n) {
        if (Math.abs(n) > 1_000_000_000L) {
            throw new Broken();
        }
        return n;
    }

    private List<Clause> parse(boolean orders) {
        fault = -1;
        try {
            return new Parser(orders).text();
        } catch (Fault f) {
            fault = f.at;
            return null;
        } finally {
            tape.clear();
        }
    }

    // ---- laws

    private static List<Clause> lawOf(State s, int law) {
        return law < 0 ? List.of() : s.laws.get(law);
    }

    private static Map<String, Integer> words(State s, int pair, int part, int worn, int cell, int way) {
        Map<String, Integer> w = new HashMap<>();
        w.put("pair", pair);
        w.put("load", s.shoes.get(pair).load);
        w.put("part", part);
        w.put("worn", worn);
        w.put("x", cell % 5);
        w.put("y", cell / 5);
        w.put("way", way);
        w.put("day", s.terms[0]);
        w.put("mood", s.terms[2]);
        return w;
    }

    /** What the last CLAUSE that HOLDS tells, null without. */
    private static Long told(List<Clause> law, String verb, Map<String, Integer> w) {
        Long told = null;
        for (Clause c : law) {
            if (c.verb.equals(verb)) {
                try {
                    if (c.test == null || c.test.of(w)) {
                        told = c.first == null ? Long.valueOf(0) : Long.valueOf(c.first.of(w));
                    }
                } catch (Broken b) {
                    continue;
                }
            }
        }
        return told;
    }

    private static int wears(State s, int law, int pair, int part, int worn, int cell, int way) {
        Long told = told(lawOf(s, law), "wears", words(s, pair, part, worn, cell, way));
        return told == null ? 1 : (int) Math.max(0, Math.min(9, told));
    }

    private static int wearsNow(State s, int pair, int part) {
        Shoe p = s.shoes.get(pair);
        return wears(s, s.force, pair, part, p.worn[part], p.cell, p.way);
    }

    private static int leaves(State s, int pair, int part) {
        Shoe p = s.shoes.get(pair);
        Long told = told(lawOf(s, s.force), "leaves", words(s, pair, part, p.worn[part], p.cell, p.way));
        return told == null ? 0 : (int) Math.max(0, Math.min(99, told));
    }

    private static int next(State s, int pair, int cell, int way) {
        int x = cell % 5 + new int[] {0, 1, 0, -1}[way];
        int y = cell / 5 + new int[] {1, 0, -1, 0}[way];
        if (x < 0 || x > 4 || y < 0 || y > 4 || s.walls.contains(5 * y + x)) {
            return -1;
        }
        Long told = told(lawOf(s, s.force), "bars", words(s, pair, -1, -1, 5 * y + x, way));
        return told == null ? 5 * y + x : -1;
    }

    // ---- acts

    private static int act(State s, int act, long a, long b) {
        if (act == 1 && b != 0 && b != 1 || act == 3 && (b < 0 || b > 3)) {
            return -1;
        }
        if (act == 4) {
            return s.terms[0] == 999 ? -3 : ++s.terms[0];
        }
        if (a < 0 || a >= s.shoes.size()) {
            return -2;
        }
        int pair = (int) a;
        Shoe p = s.shoes.get(pair);
        if (act == 0) {
            int to = next(s, pair, p.cell, p.way);
            if (to < 0) {
                return -3;
            }
            wear(s, pair, 0);
            p.cell = to;
            return to;
        }
        if (act == 1) {
            wear(s, pair, b == 0 ? 2 : 3);
            p.way = b == 0 ? (p.way + 3) % 4 : (p.way + 1) % 4;
            return p.way;
        }
        if (act == 2) {
            wear(s, pair, 1);
            return p.worn[1];
        }
        int was = p.worn[(int) b];
        if (was == 0) {
            return -3;
        }
        p.worn[(int) b] = leaves(s, pair, (int) b);
        return was;
    }

    private static void wear(State s, int pair, int part) {
        Shoe p = s.shoes.get(pair);
        p.worn[part] = Math.min(99, p.worn[part] + wearsNow(s, pair, part));
    }

    private int tried(int act, long a, long b) {
        Undo u = new Undo(act, now);
        int answer = act(now, act, a, b);
        if (answer >= 0) {
            undos.addLast(u);
            if (undos.size() > 16) {
                undos.removeFirst();
            }
        }
        return answer;
    }

    private int called(int act, int a, int b) {
        int answer = tried(act, a, b);
        return answer < 0 ? refuse(answer) : fine(answer);
    }

    // ---- the face

    int pair(int cell, int way, int load) {
        if (cell < 0 || cell > 24 || way < 0 || way > 3 || load < 0 || load > 9) {
            return refuse(-1);
        }
        if (now.shoes.size() == 6) {
            return refuse(-5);
        }
        addShoe(cell, way, load);
        undos.clear();
        return fine(now.shoes.size() - 1);
    }

    private void addShoe(int cell, int way, int load) {
        Shoe p = new Shoe();
        p.cell = cell;
        p.way = way;
        p.load = load;
        now.shoes.add(p);
    }

    private boolean has(int pair) {
        return pair >= 0 && pair < now.shoes.size();
    }

    private static boolean isIn(int n, int from, int to) {
        return n >= from && n <= to;
    }

    int of(int pair, int what) {
        if (!has(pair) || !isIn(what, 0, 7)) {
            return -1;
        }
        Shoe p = now.shoes.get(pair);
        int[] all = {p.cell, p.way, p.load, p.worn[0], p.worn[1], p.worn[2], p.worn[3], next(now, pair, p.cell, p.way)};
        return all[what];
    }

    int wall(int cell, int is) {
        if (!isIn(cell, 0, 24) || !isIn(is, 0, 1)) {
            return refuse(-1);
        }
        boolean was = now.walls.remove(cell);
        if (is == 1) {
            now.walls.add(cell);
        }
        return fine(was ? 1 : 0);
    }

    int walls() {
        int bits = 0;
        for (int cell : now.walls) {
            bits += 1 << cell;
        }
        return bits;
    }

    int asks(int pair, int part, int what) {
        if (!has(pair) || !isIn(part, 0, 3) || !isIn(what, 0, 1)) {
            return -1;
        }
        return what == 0 ? wearsNow(now, pair, part) : leaves(now, pair, part);
    }

    int terms(int what, int value) {
        if (!isIn(what, 0, 2) || !isIn(value, 0, new int[] {999, 10, 9}[what])) {
            return refuse(-1);
        }
        int was = now.terms[what];
        now.terms[what] = value;
        undos.clear();
        return fine(was);
    }

    int feed(int a, int b, int c, int d, int e) {
        if (tape.size() > 380) {
            return -1;
        }
        java.nio.ByteBuffer bytes = java.nio.ByteBuffer.allocate(20);
        bytes.putInt(a).putInt(b).putInt(c).putInt(d).putInt(e);
        for (byte one : bytes.array()) {
            tape.add(Byte.toUnsignedInt(one));
        }
        return tape.size();
    }

    int end(int n) {
        if (n < 0 || n > tape.size()) {
            return -1;
        }
        while (tape.size() > n) {
            tape.remove(tape.size() - 1);
        }
        return n;
    }

    int row() {
        if (tape.isEmpty()) {
            return refuse(-6);
        }
        int came = 0;
        brads = 0;
        while (!tape.isEmpty()) {
            List<Integer> three = tape.subList(0, Math.min(3, tape.size()));
            if (three.size() == 3 && now.shoes.size() < 6 && three.get(0) < 25 && three.get(1) < 4 && three.get(2) < 10) {
                addShoe(three.get(0), three.get(1), three.get(2));
                came++;
            } else {
                brads++;
            }
            three.clear();
        }
        undos.clear();
        return fine(came);
    }

    int brads() {
        return brads;
    }

    int law() {
        if (now.laws.size() == 6) {
            tape.clear();
            return refuse(-5);
        }
        List<Clause> law = parse(false);
        if (law == null) {
            return refuse(-6);
        }
        now.laws.add(law);
        return fine(now.laws.size() - 1);
    }

    int orders() {
        stopped = -1;
        List<Clause> text = parse(true);
        if (text == null) {
            return refuse(-6);
        }
        State ahead = now.copy();
        ArrayDeque<Undo> undosAhead = new ArrayDeque<>(undos);
        int done = 0;
        int latest = -1;
        for (int i = 0; i < text.size(); i++) {
            Clause c = text.get(i);
            for (int t = 0; t < c.times; t++) {
                Map<String, Integer> w = orderWords(done, latest);
                boolean run;
                try {
                    run = c.test == null || c.test.of(w);
                } catch (Broken b) {
                    run = false;
                }
                if (!run) {
                    continue;
                }
                int answer;
                int act = List.of("step", "turn", "pause", "mend", "pass").indexOf(c.verb);
                try {
                    long a = c.first == null ? -1 : c.first.of(w);
                    long b = c.second == null ? -1 : c.second.of(w);
                    answer = tried(act, a, b);
                } catch (Broken b) {
                    answer = -3;
                }
                if (answer < 0) {
                    now = ahead;
                    undos = undosAhead;
                    stopped = i;
                    return refuse(-3);
                }
                done++;
                latest = act == 0 ? answer : latest;
            }
        }
        return fine(done);
    }

    private Map<String, Integer> orderWords(int done, int latest) {
        Map<String, Integer> w = new HashMap<>();
        w.put("day", now.terms[0]);
        w.put("done", done);
        w.put("latest", latest);
        w.put("pairs", now.shoes.size());
        w.put("walls", now.walls.size());
        for (int p = 0; p < 6; p++) {
            w.put("cell" + p, has(p) ? now.shoes.get(p).cell : -1);
            w.put("toe" + p, has(p) ? now.shoes.get(p).worn[0] : -1);
            w.put("heel" + p, has(p) ? now.shoes.get(p).worn[1] : -1);
        }
        return w;
    }

    int fault() {
        return fault;
    }

    int stopped() {
        return stopped;
    }

    int force(int law) {
        if (law < -1 || law >= now.laws.size()) {
            return refuse(-2);
        }
        int was = now.force;
        now.force = law;
        return fine(was);
    }

    int step(int pair) {
        return called(0, pair, 0);
    }

    int turn(int pair, int side) {
        return called(1, pair, side);
    }

    int pause(int pair) {
        return called(2, pair, 0);
    }

    int mend(int pair, int part) {
        return called(3, pair, part);
    }

    int pass() {
        return called(4, 0, 0);
    }

    int undo() {
        if (undos.isEmpty()) {
            return refuse(-3);
        }
        Undo u = undos.removeLast();
        now.shoes = u.shoes;
        now.terms[0] = u.day;
        return fine(u.act);
    }

    /** CELLS by how many rows of acts end there. */
    private Map<Integer, Long> rows(int pair, int cell, int way, int s, int l, int r, Map<List<Integer>, Map<Integer, Long>> known) {
        List<Integer> key = List.of(cell, way, s, l, r);
        if (known.containsKey(key)) {
            return known.get(key);
        }
        Map<Integer, Long> all = new HashMap<>();
        if (s + l + r == 0) {
            all.put(cell, 1L);
        }
        int to = next(now, pair, cell, way);
        if (s > 0 && to >= 0) {
            rows(pair, to, way, s - 1, l, r, known).forEach((c, n) -> all.merge(c, n, Long::sum));
        }
        if (l > 0) {
            rows(pair, cell, (way + 3) % 4, s, l - 1, r, known).forEach((c, n) -> all.merge(c, n, Long::sum));
        }
        if (r > 0) {
            rows(pair, cell, (way + 1) % 4, s, l, r - 1, known).forEach((c, n) -> all.merge(c, n, Long::sum));
        }
        known.put(key, all);
        return all;
    }

    private Map<Integer, Long> rows(int pair, int s, int l, int r) {
        if (!has(pair) || !isIn(s, 0, 6) || !isIn(l, 0, 6) || !isIn(r, 0, 6)) {
            return null;
        }
        return rows(pair, now.shoes.get(pair).cell, now.shoes.get(pair).way, s, l, r, new HashMap<>());
    }

    long ways(int pair, int steps, int left, int right) {
        Map<Integer, Long> all = rows(pair, steps, left, right);
        return all == null ? -1 : all.values().stream().mapToLong(n -> n).sum();
    }

    int ends(int pair, int steps, int left, int right) {
        Map<Integer, Long> all = rows(pair, steps, left, right);
        return all == null ? -1 : all.keySet().stream().mapToInt(c -> 1 << c).sum();
    }

    private int behind(int pair, int place, int act) {
        int cell = place / 4;
        int way = place % 4;
        if (act == 0) {
            int to = next(now, pair, cell, way);
            return to < 0 ? -1 : to * 4 + way;
        }
        return cell * 4 + (act == 1 ? way + 3 : way + 1) % 4;
    }

    /** By places: the least it costs from there to a CELL, by going over all until nothing gets less. */
    private int[] costs(int pair, int cell, boolean worn) {
        int[] cost = new int[100];
        int[][] to = new int[100][3];
        int[][] price = new int[100][3];
        Shoe p = now.shoes.get(pair);
        for (int place = 0; place < 100; place++) {
            cost[place] = place / 4 == cell ? 0 : 1_000_000;
            for (int act = 0; act < 3; act++) {
                to[place][act] = behind(pair, place, act);
                int part = new int[] {0, 2, 3}[act];
                price[place][act] = worn ? wears(now, now.force, pair, part, p.worn[part], place / 4, place % 4) : 1;
            }
        }
        boolean less = true;
        while (less) {
            less = false;
            for (int place = 0; place < 100; place++) {
                for (int act = 0; act < 3; act++) {
                    if (to[place][act] >= 0 && cost[to[place][act]] + price[place][act] < cost[place]) {
                        cost[place] = cost[to[place][act]] + price[place][act];
                        less = true;
                    }
                }
            }
        }
        return cost;
    }

    private List<Integer> wayTo(int pair, int cell) {
        int[] cost = costs(pair, cell, false);
        int place = now.shoes.get(pair).cell * 4 + now.shoes.get(pair).way;
        if (cost[place] >= 1_000_000) {
            return null;
        }
        List<Integer> acts = new ArrayList<>();
        while (cost[place] > 0) {
            for (int act = 0; act < 3; act++) {
                int to = behind(pair, place, act);
                if (to >= 0 && cost[to] == cost[place] - 1) {
                    acts.add(act);
                    place = to;
                    break;
                }
            }
        }
        return acts;
    }

    int way(int pair, int cell, int i) {
        if (!has(pair) || !isIn(cell, 0, 24)) {
            return -1;
        }
        List<Integer> acts = wayTo(pair, cell);
        if (acts == null) {
            return -1;
        }
        return i == -1 ? acts.size() : i >= 0 && i < acts.size() ? acts.get(i) : -1;
    }

    int least(int pair, int cell) {
        if (!has(pair) || !isIn(cell, 0, 24)) {
            return -1;
        }
        int cost = costs(pair, cell, true)[now.shoes.get(pair).cell * 4 + now.shoes.get(pair).way];
        return cost >= 1_000_000 ? -1 : cost;
    }

    long chance(int pair, int cell, int n) {
        if (!has(pair) || !isIn(cell, 0, 24) || !isIn(n, 0, 30)) {
            return -1;
        }
        Map<Integer, Long> parts = new HashMap<>();
        parts.put(now.shoes.get(pair).cell * 4 + now.shoes.get(pair).way, 1_000_000_000_000L);
        for (int i = 0; i < n; i++) {
            Map<Integer, Long> then = new HashMap<>();
            for (Map.Entry<Integer, Long> e : parts.entrySet()) {
                for (int act = 0; act < 3; act++) {
                    int to = behind(pair, e.getKey(), act);
                    then.merge(to < 0 ? e.getKey() : to, e.getValue() / 3, Long::sum);
                }
            }
            parts = then;
        }
        return parts.entrySet().stream().filter(e -> e.getKey() / 4 == cell).mapToLong(Map.Entry::getValue).sum();
    }

    int within(int cell, int n) {
        if (!isIn(cell, 0, 24) || !isIn(n, 0, 100)) {
            return -1;
        }
        int bits = 0;
        for (int pair = 0; pair < now.shoes.size(); pair++) {
            List<Integer> acts = wayTo(pair, cell);
            bits |= acts != null && acts.size() <= n ? 1 << pair : 0;
        }
        return bits;
    }

    private int differ(int a, int b) {
        int sum = 0;
        for (int part = 0; part < 4; part++) {
            sum += Math.abs(now.shoes.get(a).worn[part] - now.shoes.get(b).worn[part]);
        }
        return sum;
    }

    /** Goes through all rows of numbers as if counting, and takes the first best one that parts them in twos. */
    private int[] partners() {
        int n = now.shoes.size();
        int[] best = null;
        int least = 0;
        int[] row = new int[n];
        for (long k = 0; k < Math.pow(n, n); k++) {
            long left = k;
            int alone = 0;
            int sum = 0;
            boolean twos = true;
            for (int p = n - 1; p >= 0; p--) {
                row[p] = (int) (left % n);
                left /= n;
            }
            for (int p = 0; p < n && twos; p++) {
                twos = row[row[p]] == p;
                alone += row[p] == p ? 1 : 0;
                sum += row[p] > p ? differ(p, row[p]) : 0;
            }
            if (twos && alone == n % 2 && (best == null || sum < least)) {
                best = row.clone();
                least = sum;
            }
        }
        int[] all = new int[n + 1];
        all[0] = least;
        for (int p = 0; p < n; p++) {
            all[p + 1] = best[p];
        }
        return all;
    }

    int couples(int what) {
        if (!isIn(what, 0, now.shoes.size())) {
            return -1;
        }
        return now.shoes.isEmpty() ? 0 : partners()[what];
    }

    int likest(int pair) {
        if (!has(pair)) {
            return -1;
        }
        int best = -1;
        for (int other = now.shoes.size() - 1; other >= 0; other--) {
            if (other != pair && (best < 0 || differ(pair, other) <= differ(pair, best))) {
                best = other;
            }
        }
        return best;
    }

    int lasts(int pair, int part) {
        if (!has(pair) || !isIn(part, 0, 3)) {
            return -1;
        }
        Shoe p = now.shoes.get(pair);
        int worn = p.worn[part];
        int times = 0;
        while (worn != 99) {
            if (times == 200) {
                return -1;
            }
            worn = Math.min(99, worn + wears(now, now.force, pair, part, worn, p.cell, p.way));
            times++;
        }
        return times;
    }

    int seen(int part, int worn) {
        if (!isIn(part, 0, 3) || !isIn(worn, 0, 99)) {
            return refuse(-1);
        }
        if (now.seen.size() == 6) {
            return refuse(-5);
        }
        now.seen.add(new int[] {part, worn});
        return fine(now.seen.size());
    }

    int forget() {
        int were = now.seen.size();
        now.seen.clear();
        return were;
    }

    private List<Shoe> those() {
        List<Shoe> all = new ArrayList<>(now.shoes);
        for (int[] s : now.seen) {
            all.removeIf(p -> p.worn[s[0]] != s[1]);
        }
        return all;
    }

    int canBe() {
        int bits = 0;
        for (Shoe p : those()) {
            bits |= 1 << now.shoes.indexOf(p);
        }
        return bits;
    }

    int look(int what) {
        List<Shoe> those = those();
        if (those.isEmpty() || !isIn(what, 0, 1)) {
            return -1;
        }
        int[] most = new int[4];
        int best = 0;
        for (int part = 0; part < 4; part++) {
            int[] groups = new int[100];
            for (Shoe p : those) {
                groups[p.worn[part]]++;
            }
            most[part] = Arrays.stream(groups).max().getAsInt();
            best = most[part] < most[best] ? part : best;
        }
        return what == 0 ? best : most[best];
    }

    int cutOff() {
        TreeSet<Integer> reached = new TreeSet<>();
        ArrayDeque<Integer> queue = new ArrayDeque<>();
        queue.add(0);
        while (!queue.isEmpty()) {
            int cell = queue.remove();
            if (now.walls.contains(cell) || !reached.add(cell)) {
                continue;
            }
            for (int other = 0; other < 25; other++) {
                if (Math.abs(cell % 5 - other % 5) + Math.abs(cell / 5 - other / 5) == 1) {
                    queue.add(other);
                }
            }
        }
        int bits = 0;
        for (int cell = 0; cell < 25; cell++) {
            bits |= now.walls.contains(cell) || reached.contains(cell) ? 0 : 1 << cell;
        }
        return bits;
    }

    long few(int k, int n) {
        if (!isIn(k, 1, 20) || !isIn(n, 0, 99)) {
            return -1;
        }
        long[] parts = new long[102];
        parts[0] = 1_000_000_000_000L;
        for (int i = 0; i < n; i++) {
            long[] then = new long[102];
            for (int j = 0; j <= i; j++) {
                then[j] += parts[j] * (10 - now.terms[1]) / 10;
                then[j + 1] += parts[j] * now.terms[1] / 10;
            }
            parts = then;
        }
        return Arrays.stream(parts, 0, k).sum();
    }

    int compare(int law, int pair, int part) {
        if (law < -1 || law >= now.laws.size() || !has(pair) || !isIn(part, 0, 3)) {
            return -1;
        }
        Shoe p = now.shoes.get(pair);
        return wears(now, law, pair, part, p.worn[part], p.cell, p.way);
    }

    int years(int seed, int n) {
        if (!isIn(seed, 0, 1_000_000) || !isIn(n, 1, 60)) {
            return refuse(-1);
        }
        if (now.shoes.isEmpty()) {
            return refuse(-3);
        }
        paper = now.copy();
        long s = seed;
        int steps = 0;
        for (int i = 0; i < n && paper.terms[0] != 999; i++) {
            s = (s * 1103 + 12345) % 1_000_003;
            int pair = (int) (s % paper.shoes.size());
            s = (s * 1103 + 12345) % 1_000_003;
            int what = (int) (s % 4);
            s = (s * 1103 + 12345) % 1_000_003;
            int side = (int) (s % 2);
            if (what <= 1 && act(paper, 0, pair, 0) >= 0) {
                steps++;
            }
            if (what >= 2) {
                act(paper, what == 2 ? 1 : 2, pair, side);
            }
            paper.terms[0]++;
        }
        return fine(steps);
    }

    int drawn(int pair, int what) {
        if (pair < 0 || pair >= paper.shoes.size() || !isIn(what, 0, 5)) {
            return -1;
        }
        Shoe p = paper.shoes.get(pair);
        return new int[] {p.cell, p.way, p.worn[0], p.worn[1], p.worn[2], p.worn[3]}[what];
    }

    int image(int k) {
        if (!isIn(k, 0, 1)) {
            return refuse(-1);
        }
        images[k] = now.copy();
        return fine(0);
    }

    int back(int k) {
        if (!isIn(k, 0, 1)) {
            return refuse(-1);
        }
        if (images[k] == null) {
            return refuse(-2);
        }
        now = images[k].copy();
        undos.clear();
        return fine(0);
    }

    int count(int what) {
        if (!isIn(what, 0, 14)) {
            return -1;
        }
        int[] by = {-1, -2, -3, -5, -6};
        if (isIn(what, 6, 10)) {
            return refused.getOrDefault(by[what - 6], 0);
        }
        int[] all = {now.shoes.size(), now.walls.size(), now.seen.size(), now.laws.size(), undos.size(), tape.size(),
            0, 0, 0, 0, 0, now.force, now.terms[0], now.terms[1], now.terms[2]};
        return all[what];
    }

    int status() {
        return status;
    }
}
