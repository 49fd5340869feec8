import java.util.Arrays;

/** Soles on a cobbler's knee: a yard, pairs of shoes that wear in it, laws, orders, and what is reckoned of them. */
public final class SoleReader {
    public static final int NONE = -1;

    private static final int BAD_NUMBER = -1;
    private static final int NO_SUCH = -2;
    private static final int CANNOT = -3;
    private static final int NO_ROOM = -5;
    private static final int BAD_TEXT = -6;
    /** The refusals in the order in which count() tells them, made positive. */
    private static final int[] REFUSALS = {1, 2, 3, 5, 6};

    private static final int SIDE = 5;
    private static final int CELLS = 25;
    private static final int WAYS = 4;
    /** A place is a CELL and the WAY one FACES there: 4 times the CELL and the WAY. */
    private static final int PLACES = CELLS * WAYS;
    private static final int ALL_CELLS = (1 << CELLS) - 1;
    private static final int FIRST_COLUMN = 0x108421;
    private static final int LAST_COLUMN = 0x1084210;

    private static final int PAIRS_MOST = 6;
    private static final int LOAD_MOST = 9;
    private static final int PARTS = 4;
    private static final int TOE = 0;
    private static final int HEEL = 1;
    private static final int LEFT = 2;
    private static final int WORN_MOST = 99;
    private static final int WEARS_MOST = 9;
    private static final int WEARS_WITHOUT_LAW = 1;
    private static final int LASTS_MOST = 200;

    private static final int SEEN_MOST = 6;
    private static final int LAWS_MOST = 6;
    private static final int IMAGES = 2;
    private static final int DAY = 0;
    private static final int SLIPS = 1;
    private static final int MOOD = 2;
    private static final int[] TERM_MOST = {999, 10, 9};

    /** The acts; these are the verbs of ORDERS as well, in the order of ORDER_VERBS. */
    private static final int STEP = 0;
    private static final int TURN = 1;
    private static final int PAUSE = 2;
    private static final int MEND = 3;
    private static final int PASS = 4;
    /** The verbs of LAWS, numbered behind those of ORDERS, in the order of LAW_VERBS. */
    private static final int WEARS = 5;
    private static final int LEAVES = 6;
    private static final int BARS = 7;
    private static final String ORDER_VERBS = "step turn pause mend pass";
    private static final String LAW_VERBS = "wears leaves bars";
    private static final int[] SUMS_OF_VERB = {1, 2, 1, 2, 0, 1, 1, 0};

    private static final String LAW_WORDS = "pair load part worn x y way day mood";
    /** The last three of these words are followed by the number of a PAIR. */
    private static final String ORDER_WORDS = "day done latest pairs walls cell toe heel";
    private static final int PLAIN_ORDER_WORDS = 5;
    private static final int WORDS_ROOM = PLAIN_ORDER_WORDS + 3 * PAIRS_MOST;

    private static final int TAPE_MOST = 400;
    private static final int CLAUSES_MOST = 12;
    private static final int TEXT_PARTS_MOST = 50;
    private static final int BRACKETS_MOST = 8;
    private static final int NUMBER_MOST = 1000;
    private static final int TIMES_MOST = 20;
    private static final int SUM_MOST = 1_000_000_000;
    /** Each of a TEXT's parts is put on the stack once, so no stack is ever deeper. */
    private static final int STACK_ROOM = TEXT_PARTS_MOST + 1;

    private static final int PUT_NUMBER = 0;
    private static final int PUT_WORD = 1;
    private static final int NOT = 2;
    private static final int AND = 3;
    private static final int OR = 4;
    private static final int ADD = 5;
    private static final int SUBTRACT = 6;
    private static final int MULTIPLY = 7;
    private static final int DIVIDE = 8;
    private static final int REST = 9;
    private static final int LESS = 10;
    private static final int MORE = 11;
    private static final int SAME = 12;

    private static final int UNDO_MOST = 16;
    private static final int WAYS_EACH_MOST = 6;
    private static final int CHANCE_ACTS_MOST = 30;
    private static final int WITHIN_MOST = 100;
    private static final int FEW_MOST = 20;
    private static final int FEW_STEPS_MOST = 99;
    private static final long WHOLE = 1_000_000_000_000L;
    private static final int SEED_MOST = 1_000_000;
    private static final int YEARS_MOST = 60;

    private final Yard yard = new Yard();
    private final Yard[] images = new Yard[IMAGES];
    private final boolean[] imageKept = new boolean[IMAGES];
    /** The YARD behind the latest YEARS; it has no PAIRS ahead of any. */
    private final Yard paper = new Yard();
    private final UndoLog log = new UndoLog();
    private final Reader reader = new Reader();
    private final Asker asker = new Asker();
    private final Acts acts = new Acts(asker);
    private final Errands errands = new Errands(asker, acts);
    private final Paths paths = new Paths(asker);
    private final Tallies tallies = new Tallies(paths);
    private final Likeness likeness = new Likeness();
    private final int[] refused = new int[1 - BAD_TEXT];
    private int status = 0;
    private int brads = 0;

    public SoleReader() {
        for (int k = 0; k < IMAGES; k++) {
            images[k] = new Yard();
        }
    }

    public int pair(int cell, int way, int load) {
        if (!canBePair(cell, way, load)) {
            return refuse(BAD_NUMBER);
        }
        if (yard.pairs >= PAIRS_MOST) {
            return refuse(NO_ROOM);
        }
        yard.addPair(cell, way, load);
        log.size = 0;
        return grant(yard.pairs - 1);
    }

    public int of(int pair, int what) {
        if (!yard.hasPair(pair)) {
            return NONE;
        }
        if (what >= 3 && what < 3 + PARTS) {
            return yard.wornAt(pair, what - 3);
        }
        switch (what) {
            case 0: return yard.cell[pair];
            case 1: return yard.faces[pair];
            case 2: return yard.load[pair];
            case 7: return asker.target(yard, pair, yard.placeOf(pair));
            default: return NONE;
        }
    }

    public int wall(int cell, int is) {
        if (!isCell(cell) || is < 0 || is > 1) {
            return refuse(BAD_NUMBER);
        }
        int was = yard.wallBits >> cell & 1;
        yard.wallBits = yard.wallBits & ~(1 << cell) | is << cell;
        return grant(was);
    }

    public int walls() {
        return yard.wallBits;
    }

    public int asks(int pair, int part, int what) {
        if (!yard.hasPair(pair) || !isPart(part)) {
            return NONE;
        }
        if (what == 0) {
            return asker.wears(yard, yard.lawInForce(), pair, part, yard.wornAt(pair, part), yard.placeOf(pair));
        }
        return what == 1 ? asker.leaves(yard, pair, part) : NONE;
    }

    public int terms(int what, int value) {
        if (what < 0 || what >= TERM_MOST.length || value < 0 || value > TERM_MOST[what]) {
            return refuse(BAD_NUMBER);
        }
        int was = yard.term[what];
        yard.term[what] = value;
        log.size = 0;
        return grant(was);
    }

    public int feed(int a, int b, int c, int d, int e) {
        if (reader.length + 20 > TAPE_MOST) {
            return NONE;
        }
        reader.put(a);
        reader.put(b);
        reader.put(c);
        reader.put(d);
        reader.put(e);
        return reader.length;
    }

    public int end(int n) {
        if (n < 0 || n > reader.length) {
            return NONE;
        }
        reader.length = n;
        return n;
    }

    public int row() {
        int length = reader.length;
        if (length == 0) {
            return refuse(BAD_TEXT);
        }
        int[] tape = reader.tape;
        int came = 0;
        int lost = 0;
        for (int i = 0; i < length; i += 3) {
            if (i + 2 < length && yard.pairs < PAIRS_MOST && canBePair(tape[i], tape[i + 1], tape[i + 2])) {
                yard.addPair(tape[i], tape[i + 1], tape[i + 2]);
                came++;
            } else {
                lost++;
            }
        }
        brads = lost;
        reader.length = 0;
        log.size = 0;
        return grant(came);
    }

    public int brads() {
        return brads;
    }

    public int law() {
        if (yard.lawCount >= LAWS_MOST) {
            reader.length = 0;
            return refuse(NO_ROOM);
        }
        boolean fine = reader.read(false);
        reader.length = 0;
        if (!fine) {
            return refuse(BAD_TEXT);
        }
        yard.laws[yard.lawCount] = reader.draft.copy();
        yard.lawCount++;
        return grant(yard.lawCount - 1);
    }

    public int orders() {
        errands.stoppedAt = NONE;
        boolean fine = reader.read(true);
        reader.length = 0;
        if (!fine) {
            return refuse(BAD_TEXT);
        }
        int done = errands.run(reader.draft, yard, log);
        return done < 0 ? refuse(done) : grant(done);
    }

    public int fault() {
        return reader.faultAt;
    }

    public int stopped() {
        return errands.stoppedAt;
    }

    public int force(int law) {
        if (law != NONE && !yard.hasLaw(law)) {
            return refuse(NO_SUCH);
        }
        int was = yard.inForce;
        yard.inForce = law;
        return grant(was);
    }

    public int step(int pair) {
        return attempt(STEP, pair, 0);
    }

    public int turn(int pair, int side) {
        return attempt(TURN, pair, side);
    }

    public int pause(int pair) {
        return attempt(PAUSE, pair, 0);
    }

    public int mend(int pair, int part) {
        return attempt(MEND, pair, part);
    }

    public int pass() {
        return attempt(PASS, NONE, 0);
    }

    public int undo() {
        if (log.size == 0) {
            return refuse(CANNOT);
        }
        return grant(log.takeBack(yard));
    }

    public long ways(int pair, int steps, int left, int right) {
        if (!canCountWays(pair, steps, left, right)) {
            return NONE;
        }
        tallies.countWays(yard, pair, steps, left, right);
        return tallies.howMany(left, right);
    }

    public int ends(int pair, int steps, int left, int right) {
        if (!canCountWays(pair, steps, left, right)) {
            return NONE;
        }
        tallies.countWays(yard, pair, steps, left, right);
        return tallies.endCells(left, right);
    }

    public int way(int pair, int cell, int i) {
        if (!yard.hasPair(pair) || !isCell(cell) || i < NONE) {
            return NONE;
        }
        int length = paths.shortest(yard, pair, cell);
        if (i == NONE) {
            return length;
        }
        return i < length ? paths.actAt(i) : NONE;
    }

    public int least(int pair, int cell) {
        if (!yard.hasPair(pair) || !isCell(cell)) {
            return NONE;
        }
        return paths.leastWorn(yard, pair, cell);
    }

    public long chance(int pair, int cell, int n) {
        if (!yard.hasPair(pair) || !isCell(cell) || n < 0 || n > CHANCE_ACTS_MOST) {
            return NONE;
        }
        return tallies.byChance(yard, pair, cell, n);
    }

    public int within(int cell, int n) {
        if (!isCell(cell) || n < 0 || n > WITHIN_MOST) {
            return NONE;
        }
        int those = 0;
        for (int pair = 0; pair < yard.pairs; pair++) {
            int length = paths.shortest(yard, pair, cell);
            if (length != NONE && length <= n) {
                those |= 1 << pair;
            }
        }
        return those;
    }

    public int couples(int what) {
        if (what != 0 && !yard.hasPair(what - 1)) {
            return NONE;
        }
        likeness.couple(yard);
        return what == 0 ? likeness.leastSum : likeness.bestPartner[what - 1];
    }

    public int likest(int pair) {
        return yard.hasPair(pair) ? likeness.nearestTo(yard, pair) : NONE;
    }

    public int lasts(int pair, int part) {
        if (!yard.hasPair(pair) || !isPart(part)) {
            return NONE;
        }
        int worn = yard.wornAt(pair, part);
        int times = 0;
        for (; times < LASTS_MOST && worn < WORN_MOST; times++) {
            worn += asker.wears(yard, yard.lawInForce(), pair, part, worn, yard.placeOf(pair));
        }
        return worn < WORN_MOST ? NONE : times;
    }

    public int seen(int part, int worn) {
        if (!isPart(part) || worn < 0 || worn > WORN_MOST) {
            return refuse(BAD_NUMBER);
        }
        if (yard.sights >= SEEN_MOST) {
            return refuse(NO_ROOM);
        }
        yard.seenPart[yard.sights] = part;
        yard.seenWorn[yard.sights] = worn;
        yard.sights++;
        return grant(yard.sights);
    }

    public int forget() {
        int were = yard.sights;
        yard.sights = 0;
        return were;
    }

    public int canBe() {
        return likeness.candidates(yard);
    }

    public int look(int what) {
        if (what < 0 || what > 1 || !likeness.choosePart(yard)) {
            return NONE;
        }
        return what == 0 ? likeness.chosenPart : likeness.leftAtMost;
    }

    public int cutOff() {
        int open = ALL_CELLS & ~yard.wallBits;
        int reached = open & 1;
        for (int i = 0; i < CELLS; i++) {
            int beside = reached << SIDE | reached >> SIDE
                | (reached & ~LAST_COLUMN) << 1 | (reached & ~FIRST_COLUMN) >> 1;
            reached |= open & beside;
        }
        return open & ~reached;
    }

    public long few(int k, int n) {
        if (k < 1 || k > FEW_MOST || n < 0 || n > FEW_STEPS_MOST) {
            return NONE;
        }
        return tallies.fewSlip(yard.term[SLIPS], k, n);
    }

    public int compare(int law, int pair, int part) {
        if (law != NONE && !yard.hasLaw(law) || !yard.hasPair(pair) || !isPart(part)) {
            return NONE;
        }
        return asker.wears(yard, yard.lawAt(law), pair, part, yard.wornAt(pair, part), yard.placeOf(pair));
    }

    public int years(int seed, int n) {
        if (seed < 0 || seed > SEED_MOST || n < 1 || n > YEARS_MOST) {
            return refuse(BAD_NUMBER);
        }
        if (yard.pairs == 0) {
            return refuse(CANNOT);
        }
        return grant(liveOnPaper(seed, n));
    }

    public int drawn(int pair, int what) {
        if (!paper.hasPair(pair)) {
            return NONE;
        }
        if (what >= 2 && what < 2 + PARTS) {
            return paper.wornAt(pair, what - 2);
        }
        if (what == 0) {
            return paper.cell[pair];
        }
        return what == 1 ? paper.faces[pair] : NONE;
    }

    public int image(int k) {
        if (k < 0 || k >= IMAGES) {
            return refuse(BAD_NUMBER);
        }
        images[k].become(yard);
        imageKept[k] = true;
        return grant(0);
    }

    public int back(int k) {
        if (k < 0 || k >= IMAGES) {
            return refuse(BAD_NUMBER);
        }
        if (!imageKept[k]) {
            return refuse(NO_SUCH);
        }
        yard.become(images[k]);
        log.size = 0;
        return grant(0);
    }

    public int count(int what) {
        if (what >= 6 && what < 6 + REFUSALS.length) {
            return refused[REFUSALS[what - 6]];
        }
        if (what >= 12 && what < 12 + TERM_MOST.length) {
            return yard.term[what - 12];
        }
        switch (what) {
            case 0: return yard.pairs;
            case 1: return Integer.bitCount(yard.wallBits);
            case 2: return yard.sights;
            case 3: return yard.lawCount;
            case 4: return log.size;
            case 5: return reader.length;
            case 11: return yard.inForce;
            default: return NONE;
        }
    }

    public int status() {
        return status;
    }

    private int refuse(int by) {
        status = by;
        refused[-by]++;
        return by;
    }

    private int grant(int answer) {
        status = 0;
        return answer;
    }

    private int attempt(int act, int a, int b) {
        int answer = acts.carryOut(yard, act, a, b);
        if (answer < 0) {
            return refuse(answer);
        }
        log.add(acts.before);
        return grant(answer);
    }

    private boolean canCountWays(int pair, int steps, int left, int right) {
        return yard.hasPair(pair) && isWaysNumber(steps) && isWaysNumber(left) && isWaysNumber(right);
    }

    private int liveOnPaper(int seed, int n) {
        paper.become(yard);
        int draw = seed;
        int steps = 0;
        for (int i = 0; i < n && paper.pairs > 0 && paper.term[DAY] < TERM_MOST[DAY]; i++) {
            draw = drawBehind(draw);
            int pair = draw % paper.pairs;
            draw = drawBehind(draw);
            int chosen = draw % 4;
            draw = drawBehind(draw);
            int act = chosen < 2 ? STEP : chosen == 2 ? TURN : PAUSE;
            if (acts.carryOut(paper, act, pair, draw % 2) >= 0 && act == STEP) {
                steps++;
            }
            paper.term[DAY]++;
        }
        return steps;
    }

    private static int drawBehind(int draw) {
        return (int) ((draw * 1103L + 12345L) % 1_000_003L);
    }

    private static boolean isWaysNumber(int n) {
        return n >= 0 && n <= WAYS_EACH_MOST;
    }

    private static boolean isCell(int cell) {
        return cell >= 0 && cell < CELLS;
    }

    private static boolean isPart(int part) {
        return part >= 0 && part < PARTS;
    }

    private static boolean canBePair(int cell, int way, int load) {
        return isCell(cell) && way >= 0 && way < WAYS && load >= 0 && load <= LOAD_MOST;
    }

    private static int turned(int way, int side) {
        return (way + (side == 0 ? WAYS - 1 : 1)) % WAYS;
    }

    /** All that an IMAGE keeps; so the same class serves for what is done on paper. */
    private static final class Yard {
        final int[] cell = new int[PAIRS_MOST];
        final int[] faces = new int[PAIRS_MOST];
        final int[] load = new int[PAIRS_MOST];
        final int[] worn = new int[PAIRS_MOST * PARTS];
        final int[] term = new int[TERM_MOST.length];
        final int[] seenPart = new int[SEEN_MOST];
        final int[] seenWorn = new int[SEEN_MOST];
        /** A LAW is never changed once it stands, so YARDS may share it. */
        final Text[] laws = new Text[LAWS_MOST];
        int pairs = 0;
        int wallBits = 0;
        int sights = 0;
        int lawCount = 0;
        int inForce = NONE;

        Yard() {
            term[SLIPS] = 1;
        }

        void become(Yard other) {
            System.arraycopy(other.cell, 0, cell, 0, PAIRS_MOST);
            System.arraycopy(other.faces, 0, faces, 0, PAIRS_MOST);
            System.arraycopy(other.load, 0, load, 0, PAIRS_MOST);
            System.arraycopy(other.worn, 0, worn, 0, PAIRS_MOST * PARTS);
            System.arraycopy(other.term, 0, term, 0, TERM_MOST.length);
            System.arraycopy(other.seenPart, 0, seenPart, 0, SEEN_MOST);
            System.arraycopy(other.seenWorn, 0, seenWorn, 0, SEEN_MOST);
            for (int i = 0; i < LAWS_MOST; i++) {
                laws[i] = other.laws[i];
            }
            pairs = other.pairs;
            wallBits = other.wallBits;
            sights = other.sights;
            lawCount = other.lawCount;
            inForce = other.inForce;
        }

        void addPair(int atCell, int way, int ofLoad) {
            if (pairs >= PAIRS_MOST) {
                return;
            }
            cell[pairs] = atCell;
            faces[pairs] = way;
            load[pairs] = ofLoad;
            for (int part = 0; part < PARTS; part++) {
                worn[pairs * PARTS + part] = 0;
            }
            pairs++;
        }

        boolean hasPair(int pair) {
            return pair >= 0 && pair < pairs;
        }

        boolean hasLaw(int law) {
            return law >= 0 && law < lawCount;
        }

        Text lawAt(int law) {
            return hasLaw(law) ? laws[law] : null;
        }

        Text lawInForce() {
            return lawAt(inForce);
        }

        boolean isWall(int at) {
            return (wallBits >> at & 1) == 1;
        }

        int wornAt(int pair, int part) {
            return worn[pair * PARTS + part];
        }

        int placeOf(int pair) {
            return cell[pair] * WAYS + faces[pair];
        }
    }

    /** A TEXT that was read: its SUMS and TESTS as rows of operations on a stack. */
    private static final class Text {
        private static final int FIELDS = 6;
        private static final int VERB = 0;
        private static final int TIMES = 1;
        private static final int START = 2;
        private static final int FIRST_END = 3;
        private static final int SECOND_END = 4;
        private static final int TEST_END = 5;

        final int[] ops;
        final int[] args;
        final int[] clauses;
        int size = 0;
        int clauseCount = 0;

        Text(int codeRoom, int clauseRoom) {
            ops = new int[codeRoom];
            args = new int[codeRoom];
            clauses = new int[clauseRoom * FIELDS];
        }

        Text copy() {
            Text other = new Text(size, clauseCount);
            System.arraycopy(ops, 0, other.ops, 0, size);
            System.arraycopy(args, 0, other.args, 0, size);
            System.arraycopy(clauses, 0, other.clauses, 0, clauseCount * FIELDS);
            other.size = size;
            other.clauseCount = clauseCount;
            return other;
        }

        void clear() {
            size = 0;
            clauseCount = 0;
        }

        void emit(int op, int arg) {
            if (size < ops.length) {
                ops[size] = op;
                args[size] = arg;
                size++;
            }
        }

        /** Lets the "or" or "and" at a place go on behind all that was put down since. */
        void landHere(int jump) {
            if (jump >= 0 && jump < size) {
                args[jump] = size;
            }
        }

        void set(int clause, int field, int value) {
            clauses[clause * FIELDS + field] = value;
        }

        int field(int clause, int field) {
            return clauses[clause * FIELDS + field];
        }
    }

    /** The TAPE, and the reader of both languages. */
    private static final class Reader {
        private static final int LETTERS = 0;
        private static final int DIGITS = 1;
        private static final int OTHER = 2;
        private static final int TAPE_END = 3;

        final int[] tape = new int[TAPE_MOST];
        final Text draft = new Text(TAPE_MOST, CLAUSES_MOST);
        int length = 0;
        int faultAt = NONE;
        private boolean ofOrders = false;
        private int from = 0;
        private int to = 0;
        private int kind = TAPE_END;
        private int number = 0;
        private int parts = 0;

        void put(int fourBytes) {
            for (int shift = 24; shift >= 0 && length < TAPE_MOST; shift -= 8) {
                tape[length] = fourBytes >> shift & 255;
                length++;
            }
        }

        /** Reads the TAPE into the draft; false with faultAt set, if it has a FAULT. */
        boolean read(boolean asOrders) {
            ofOrders = asOrders;
            faultAt = NONE;
            to = 0;
            parts = 0;
            draft.clear();
            advance();
            for (int clause = 0; clause < CLAUSES_MOST; clause++) {
                if (!readClause(clause)) {
                    return false;
                }
                draft.clauseCount = clause + 1;
                if (kind == TAPE_END) {
                    return true;
                }
                if (!skipSign(';')) {
                    return false;
                }
            }
            return failHere();
        }

        private boolean failHere() {
            faultAt = from;
            return false;
        }

        private void advance() {
            from = to;
            while (from < length && tape[from] == ' ') {
                from++;
            }
            to = from;
            kind = TAPE_END;
            if (from >= length) {
                return;
            }
            kind = kindOf(tape[from]);
            to++;
            while (to < length && kind != OTHER && kindOf(tape[to]) == kind) {
                to++;
            }
            number = 0;
            for (int i = from; i < to && kind == DIGITS; i++) {
                // what is too much stays too much, however many digits follow
                number = Math.min(number * 10 + tape[i] - '0', NUMBER_MOST + 1);
            }
        }

        private static int kindOf(int sign) {
            if (sign >= 'a' && sign <= 'z') {
                return LETTERS;
            }
            return sign >= '0' && sign <= '9' ? DIGITS : OTHER;
        }

        /** Which of some words, parted by blanks, the TOKEN is. */
        private int among(String words) {
            if (kind != LETTERS) {
                return NONE;
            }
            int which = 0;
            int at = from;
            boolean same = true;
            for (int i = 0; i < words.length(); i++) {
                if (words.charAt(i) != ' ') {
                    same = same && at < to && tape[at] == words.charAt(i);
                    at++;
                } else if (same && at == to) {
                    return which;
                } else {
                    which++;
                    at = from;
                    same = true;
                }
            }
            return same && at == to ? which : NONE;
        }

        private boolean isWord(String word) {
            return among(word) == 0;
        }

        private boolean isSign(char sign) {
            return kind == OTHER && tape[from] == sign;
        }

        private boolean skipSign(char sign) {
            if (!isSign(sign)) {
                return failHere();
            }
            advance();
            return true;
        }

        private boolean skipWord(String word) {
            if (!isWord(word)) {
                return failHere();
            }
            advance();
            return true;
        }

        private boolean readClause(int clause) {
            int verb = among(ofOrders ? ORDER_VERBS : LAW_VERBS);
            if (verb == NONE) {
                return failHere();
            }
            if (!ofOrders) {
                verb += WEARS;
            }
            advance();
            draft.set(clause, Text.VERB, verb);
            draft.set(clause, Text.TIMES, 1);
            draft.set(clause, Text.START, draft.size);
            if (SUMS_OF_VERB[verb] > 0 && !readSum(0)) {
                return false;
            }
            draft.set(clause, Text.FIRST_END, draft.size);
            if (SUMS_OF_VERB[verb] > 1 && !(skipWord(verb == TURN ? "to" : "at") && readSum(0))) {
                return false;
            }
            draft.set(clause, Text.SECOND_END, draft.size);
            if (ofOrders && isWord("times") && !readTimes(clause)) {
                return false;
            }
            if (isWord("if")) {
                advance();
                if (!readTest(0)) {
                    return false;
                }
            }
            draft.set(clause, Text.TEST_END, draft.size);
            return true;
        }

        private boolean readTimes(int clause) {
            advance();
            if (kind != DIGITS || number < 1 || number > TIMES_MOST) {
                return failHere();
            }
            draft.set(clause, Text.TIMES, number);
            advance();
            return true;
        }

        private boolean readTest(int depth) {
            boolean fine = readBoth(depth);
            for (int i = 0; i < TAPE_MOST && fine && isWord("or"); i++) {
                int jump = draft.size;
                draft.emit(OR, 0);
                advance();
                fine = readBoth(depth);
                draft.landHere(jump);
            }
            return fine;
        }

        private boolean readBoth(int depth) {
            boolean fine = readPlain(depth);
            for (int i = 0; i < TAPE_MOST && fine && isWord("and"); i++) {
                int jump = draft.size;
                draft.emit(AND, 0);
                advance();
                fine = readPlain(depth);
                draft.landHere(jump);
            }
            return fine;
        }

        private boolean readPlain(int depth) {
            // counted, not nested: a TAPE has room for a hundred of them
            int nots = 0;
            while (nots < TAPE_MOST && isWord("not")) {
                advance();
                nots++;
            }
            boolean fine;
            if (isSign('(')) {
                if (depth >= BRACKETS_MOST) {
                    return failHere();
                }
                advance();
                fine = readTest(depth + 1) && skipSign(')');
            } else {
                if (!readSum(depth)) {
                    return false;
                }
                int op = isSign('<') ? LESS : isSign('>') ? MORE : isSign('=') ? SAME : NONE;
                if (op == NONE) {
                    return failHere();
                }
                advance();
                fine = readSum(depth);
                draft.emit(op, 0);
            }
            if (nots % 2 == 1) {
                draft.emit(NOT, 0);
            }
            return fine;
        }

        private boolean readSum(int depth) {
            boolean fine = readTerm(depth);
            for (int i = 0; i < TAPE_MOST && fine && (isSign('+') || isSign('-')); i++) {
                int op = isSign('+') ? ADD : SUBTRACT;
                advance();
                fine = readTerm(depth);
                draft.emit(op, 0);
            }
            return fine;
        }

        private boolean readTerm(int depth) {
            boolean fine = readPart(depth);
            for (int i = 0; i < TAPE_MOST && fine && (isSign('*') || isSign('/') || isSign('%')); i++) {
                int op = isSign('*') ? MULTIPLY : isSign('/') ? DIVIDE : REST;
                advance();
                fine = readPart(depth);
                draft.emit(op, 0);
            }
            return fine;
        }

        private boolean readPart(int depth) {
            if (isSign('[')) {
                if (depth >= BRACKETS_MOST) {
                    return failHere();
                }
                advance();
                return readSum(depth + 1) && skipSign(']');
            }
            if (parts >= TEXT_PARTS_MOST) {
                return failHere();
            }
            parts++;
            if (kind == DIGITS && number <= NUMBER_MOST) {
                draft.emit(PUT_NUMBER, number);
                advance();
                return true;
            }
            return readNamed();
        }

        private boolean readNamed() {
            int word = among(ofOrders ? ORDER_WORDS : LAW_WORDS);
            if (word == NONE) {
                return failHere();
            }
            advance();
            if (ofOrders && word >= PLAIN_ORDER_WORDS) {
                if (kind != DIGITS || number >= PAIRS_MOST) {
                    return failHere();
                }
                word = PLAIN_ORDER_WORDS + (word - PLAIN_ORDER_WORDS) * PAIRS_MOST + number;
                advance();
            }
            draft.emit(PUT_WORD, word);
            return true;
        }
    }

    /** Asks TEXTS: what a SUM comes to, whether a TEST is so, what LAWS tell. */
    private static final class Asker {
        /** What the words mean, by their numbers in LAW_WORDS or ORDER_WORDS; set anew ahead of every asking. */
        final int[] words = new int[WORDS_ROOM];
        private final long[] stack = new long[STACK_ROOM];
        /** What the latest reckoning that was not BROKEN came to; a TEST that is so comes to 1. */
        int value = 0;

        /** Whether the code is not BROKEN. No code at all comes to 1, so that a missing "if" is so. */
        boolean reckon(Text text, int from, int to) {
            int top = NONE;
            for (int at = from; at < to && at < text.size; at++) {
                int op = text.ops[at];
                int arg = text.args[at];
                if (op == PUT_NUMBER || op == PUT_WORD) {
                    if (top + 1 >= STACK_ROOM || op == PUT_WORD && arg >= WORDS_ROOM) {
                        return false;
                    }
                    top++;
                    stack[top] = op == PUT_NUMBER ? arg : words[arg];
                } else if (top < 0) {
                    return false;
                } else if (op == NOT) {
                    stack[top] = 1 - stack[top];
                } else if (op == AND || op == OR) {
                    if (stack[top] == (op == OR ? 1 : 0)) {
                        at = Math.max(at, arg - 1);
                    } else {
                        top--;
                    }
                } else {
                    if (top < 1 || stack[top] == 0 && (op == DIVIDE || op == REST)) {
                        return false;
                    }
                    top--;
                    stack[top] = joined(op, stack[top], stack[top + 1]);
                    if (stack[top] > SUM_MOST || stack[top] < -SUM_MOST) {
                        return false;
                    }
                }
            }
            value = top < 0 ? 1 : (int) stack[0];
            return true;
        }

        private static long joined(int op, long a, long b) {
            switch (op) {
                case ADD: return a + b;
                case SUBTRACT: return a - b;
                case MULTIPLY: return a * b;
                case DIVIDE: return b == 0 ? 0 : a / b;
                case REST: return b == 0 ? 0 : a % b;
                case LESS: return a < b ? 1 : 0;
                case MORE: return a > b ? 1 : 0;
                default: return a == b ? 1 : 0;
            }
        }

        /** The last CLAUSE of a verb that HOLDS, its SUM's value kept; NONE if none does. */
        private int lastThatHolds(Text law, int verb) {
            if (law == null) {
                return NONE;
            }
            for (int clause = law.clauseCount - 1; clause >= 0; clause--) {
                if (law.field(clause, Text.VERB) == verb
                    && reckon(law, law.field(clause, Text.SECOND_END), law.field(clause, Text.TEST_END)) && value == 1
                    && reckon(law, law.field(clause, Text.START), law.field(clause, Text.FIRST_END))) {
                    return clause;
                }
            }
            return NONE;
        }

        private void setLawWords(Yard yard, int pair, int part, int worn, int place) {
            int cell = place / WAYS;
            words[0] = pair;
            words[1] = yard.load[pair];
            words[2] = part;
            words[3] = worn;
            words[4] = cell % SIDE;
            words[5] = cell / SIDE;
            words[6] = place % WAYS;
            words[7] = yard.term[DAY];
            words[8] = yard.term[MOOD];
        }

        /** By how much a PART that is WORN so much WEARS by a LAW (null: none) at a place. */
        int wears(Yard yard, Text law, int pair, int part, int worn, int place) {
            setLawWords(yard, pair, part, worn, place);
            if (lastThatHolds(law, WEARS) == NONE) {
                return WEARS_WITHOUT_LAW;
            }
            return Math.max(0, Math.min(WEARS_MOST, value));
        }

        int leaves(Yard yard, int pair, int part) {
            setLawWords(yard, pair, part, yard.wornAt(pair, part), yard.placeOf(pair));
            if (lastThatHolds(yard.lawInForce(), LEAVES) == NONE) {
                return 0;
            }
            return Math.max(0, Math.min(WORN_MOST, value));
        }

        /** The CELL to which a PAIR would STEP from a place; NONE, if it can't. */
        int target(Yard yard, int pair, int place) {
            int way = place % WAYS;
            int to = beside(place / WAYS, way);
            if (to == NONE || yard.isWall(to)) {
                return NONE;
            }
            setLawWords(yard, pair, NONE, NONE, to * WAYS + way);
            return lastThatHolds(yard.lawInForce(), BARS) == NONE ? to : NONE;
        }

        private static int beside(int cell, int way) {
            int x = cell % SIDE;
            int y = cell / SIDE;
            switch (way) {
                case 0: return y + 1 < SIDE ? cell + SIDE : NONE;
                case 1: return x + 1 < SIDE ? cell + 1 : NONE;
                case 2: return y > 0 ? cell - SIDE : NONE;
                default: return x > 0 ? cell - 1 : NONE;
            }
        }
    }

    /** What PAIRS do, in the YARD or on paper. */
    private static final class Acts {
        private final Asker asker;
        /** What undoes the latest act that was carried out: a row of the UndoLog. */
        final int[] before = new int[UndoLog.FIELDS];

        Acts(Asker asker) {
            this.asker = asker;
        }

        /** What the act answers, or what it is REFUSED by; then nothing is done. */
        int carryOut(Yard yard, int act, int a, int b) {
            if (act == TURN && (b < 0 || b > 1) || act == MEND && !isPart(b)) {
                return BAD_NUMBER;
            }
            if (act == PASS) {
                return passDay(yard);
            }
            if (!yard.hasPair(a)) {
                return NO_SUCH;
            }
            int part = act == STEP ? TOE : act == TURN ? LEFT + b : act == PAUSE ? HEEL : b;
            remember(yard, act, a, part);
            int worn = yard.wornAt(a, part);
            int place = yard.placeOf(a);
            int to = act == STEP ? asker.target(yard, a, place) : yard.cell[a];
            if (to == NONE || act == MEND && worn == 0) {
                return CANNOT;
            }
            int then = act == MEND ? asker.leaves(yard, a, part)
                : worn + asker.wears(yard, yard.lawInForce(), a, part, worn, place);
            yard.worn[a * PARTS + part] = Math.min(WORN_MOST, then);
            yard.cell[a] = to;
            if (act == TURN) {
                yard.faces[a] = turned(yard.faces[a], b);
            }
            return act == STEP ? to : act == TURN ? yard.faces[a] : act == PAUSE ? yard.wornAt(a, part) : worn;
        }

        private int passDay(Yard yard) {
            if (yard.term[DAY] >= TERM_MOST[DAY]) {
                return CANNOT;
            }
            before[UndoLog.ACT] = PASS;
            before[UndoLog.PAIR] = NONE;
            before[UndoLog.THE_DAY] = yard.term[DAY];
            yard.term[DAY]++;
            return yard.term[DAY];
        }

        private void remember(Yard yard, int act, int pair, int part) {
            before[UndoLog.ACT] = act;
            before[UndoLog.PAIR] = pair;
            before[UndoLog.CELL] = yard.cell[pair];
            before[UndoLog.FACES] = yard.faces[pair];
            before[UndoLog.PART] = part;
            before[UndoLog.WORN] = yard.wornAt(pair, part);
            before[UndoLog.THE_DAY] = yard.term[DAY];
        }
    }

    /** The latest acts that can be undone, the oldest first. */
    private static final class UndoLog {
        private static final int FIELDS = 7;
        private static final int ACT = 0;
        private static final int PAIR = 1;
        private static final int CELL = 2;
        private static final int FACES = 3;
        private static final int PART = 4;
        private static final int WORN = 5;
        private static final int THE_DAY = 6;

        private final int[] rows = new int[UNDO_MOST * FIELDS];
        int size = 0;

        void become(UndoLog other) {
            System.arraycopy(other.rows, 0, rows, 0, UNDO_MOST * FIELDS);
            size = other.size;
        }

        void add(int[] row) {
            if (size >= UNDO_MOST) {
                System.arraycopy(rows, FIELDS, rows, 0, (UNDO_MOST - 1) * FIELDS);
                size = UNDO_MOST - 1;
            }
            System.arraycopy(row, 0, rows, size * FIELDS, FIELDS);
            size++;
        }

        /** Undoes the latest: which act it was. */
        int takeBack(Yard yard) {
            if (size == 0) {
                return CANNOT;
            }
            size--;
            int row = size * FIELDS;
            int pair = rows[row + PAIR];
            if (yard.hasPair(pair)) {
                yard.cell[pair] = rows[row + CELL];
                yard.faces[pair] = rows[row + FACES];
                yard.worn[pair * PARTS + rows[row + PART]] = rows[row + WORN];
            }
            yard.term[DAY] = rows[row + THE_DAY];
            return rows[row + ACT];
        }
    }

    /** Runs ORDERS wholly or not at all. */
    private static final class Errands {
        private final Asker asker;
        private final Acts acts;
        private final Yard yardAhead = new Yard();
        private final UndoLog logAhead = new UndoLog();
        private int done = 0;
        private int latest = NONE;
        int stoppedAt = NONE;

        Errands(Asker asker, Acts acts) {
            this.asker = asker;
            this.acts = acts;
        }

        /** How many acts were run; CANNOT, if one can't be: then all is as it was. */
        int run(Text text, Yard yard, UndoLog log) {
            yardAhead.become(yard);
            logAhead.become(log);
            done = 0;
            latest = NONE;
            for (int clause = 0; clause < text.clauseCount; clause++) {
                int times = text.field(clause, Text.TIMES);
                for (int i = 0; i < times; i++) {
                    if (!obey(text, clause, yard, log)) {
                        yard.become(yardAhead);
                        log.become(logAhead);
                        stoppedAt = clause;
                        return CANNOT;
                    }
                }
            }
            return done;
        }

        private boolean obey(Text text, int clause, Yard yard, UndoLog log) {
            int firstEnd = text.field(clause, Text.FIRST_END);
            int secondEnd = text.field(clause, Text.SECOND_END);
            setOrderWords(yard);
            if (!asker.reckon(text, secondEnd, text.field(clause, Text.TEST_END)) || asker.value != 1) {
                return true;
            }
            if (!asker.reckon(text, text.field(clause, Text.START), firstEnd)) {
                return false;
            }
            int a = asker.value;
            if (!asker.reckon(text, firstEnd, secondEnd)) {
                return false;
            }
            int act = text.field(clause, Text.VERB);
            int answer = acts.carryOut(yard, act, a, asker.value);
            if (answer < 0) {
                return false;
            }
            log.add(acts.before);
            done++;
            if (act == STEP) {
                latest = answer;
            }
            return true;
        }

        private void setOrderWords(Yard yard) {
            int[] words = asker.words;
            words[0] = yard.term[DAY];
            words[1] = done;
            words[2] = latest;
            words[3] = yard.pairs;
            words[4] = Integer.bitCount(yard.wallBits);
            for (int pair = 0; pair < PAIRS_MOST; pair++) {
                boolean there = yard.hasPair(pair);
                words[PLAIN_ORDER_WORDS + pair] = there ? yard.cell[pair] : NONE;
                words[PLAIN_ORDER_WORDS + PAIRS_MOST + pair] = there ? yard.wornAt(pair, TOE) : NONE;
                words[PLAIN_ORDER_WORDS + 2 * PAIRS_MOST + pair] = there ? yard.wornAt(pair, HEEL) : NONE;
            }
        }
    }

    /** Ways through the YARD, found on paper. */
    private static final class Paths {
        private static final int FAR = 1_000_000;

        private final Asker asker;
        /** By places: the place behind a STEP; NONE, if it can't be. */
        final int[] stepTo = new int[PLACES];
        private final int[] queue = new int[PLACES];
        private final int[] placeAhead = new int[PLACES];
        private final int[] actInto = new int[PLACES];
        /** By places: how many acts, or how much WORN, it takes to come there. */
        private final int[] cost = new int[PLACES];
        private final boolean[] settled = new boolean[PLACES];
        private int queued = 0;
        private int goal = NONE;

        Paths(Asker asker) {
            this.asker = asker;
        }

        void layOut(Yard yard, int pair) {
            for (int place = 0; place < PLACES; place++) {
                int to = asker.target(yard, pair, place);
                stepTo[place] = to == NONE ? NONE : to * WAYS + place % WAYS;
            }
        }

        /** The place behind an act 0 STEP (NONE, if it can't be), 1 TURN left, 2 TURN right. */
        int behind(int place, int act) {
            return act == 0 ? stepTo[place] : place - place % WAYS + turned(place % WAYS, act - 1);
        }

        /**
         * The fewest acts to a CELL, NONE if one does not come there. Places are found in the order of
         * the first rows of acts that lead there, so the first one in the CELL has the first row of all.
         */
        int shortest(Yard yard, int pair, int cell) {
            layOut(yard, pair);
            Arrays.fill(cost, FAR);
            queued = 0;
            goal = NONE;
            reach(yard.placeOf(pair), 0, NONE, NONE);
            for (int i = 0; i < queued && i < PLACES; i++) {
                int place = queue[i];
                if (place / WAYS == cell) {
                    goal = place;
                    return cost[place];
                }
                for (int act = 0; act < 3; act++) {
                    reach(behind(place, act), cost[place] + 1, place, act);
                }
            }
            return NONE;
        }

        private void reach(int place, int acts, int from, int act) {
            if (place == NONE || cost[place] != FAR || queued >= PLACES) {
                return;
            }
            cost[place] = acts;
            placeAhead[place] = from;
            actInto[place] = act;
            queue[queued] = place;
            queued++;
        }

        /** The i-th act of the way that was found latest. */
        int actAt(int i) {
            int place = goal;
            for (int k = 0; k < PLACES && place != NONE; k++) {
                if (cost[place] == i + 1) {
                    return actInto[place];
                }
                place = placeAhead[place];
            }
            return NONE;
        }

        /** The least that is WORN on the way to a CELL, NONE if one does not come there. */
        int leastWorn(Yard yard, int pair, int cell) {
            layOut(yard, pair);
            Arrays.fill(cost, FAR);
            for (int place = 0; place < PLACES; place++) {
                settled[place] = false;
            }
            cost[yard.placeOf(pair)] = 0;
            for (int i = 0; i < PLACES; i++) {
                int place = cheapest();
                if (place == NONE) {
                    return NONE;
                }
                if (place / WAYS == cell) {
                    return cost[place];
                }
                settled[place] = true;
                for (int act = 0; act < 3; act++) {
                    cheapen(yard, pair, place, act);
                }
            }
            return NONE;
        }

        private int cheapest() {
            int best = NONE;
            for (int place = 0; place < PLACES; place++) {
                if (!settled[place] && cost[place] < (best == NONE ? FAR : cost[best])) {
                    best = place;
                }
            }
            return best;
        }

        private void cheapen(Yard yard, int pair, int place, int act) {
            int to = behind(place, act);
            if (to == NONE || settled[to]) {
                return;
            }
            int part = act == 0 ? TOE : LEFT + act - 1;
            int wears = asker.wears(yard, yard.lawInForce(), pair, part, yard.wornAt(pair, part), place);
            cost[to] = Math.min(cost[to], cost[place] + wears);
        }
    }

    /** How many ways, and how likely: what is counted act by act. */
    private static final class Tallies {
        private static final int EACH = WAYS_EACH_MOST + 1;

        private final Paths paths;
        /** By TURNS left, TURNS right and CELLS: how many rows of acts lead there with the STEPS so far. */
        private final long[] rows = new long[EACH * EACH * CELLS];
        private final long[] sum = new long[CELLS];
        private final long[] share = new long[PLACES];
        private final long[] shareThen = new long[PLACES];
        private final long[] slipped = new long[FEW_MOST];

        Tallies(Paths paths) {
            this.paths = paths;
        }

        void countWays(Yard yard, int pair, int steps, int left, int right) {
            paths.layOut(yard, pair);
            for (int s = 0; s <= steps; s++) {
                for (int l = 0; l <= left; l++) {
                    for (int r = 0; r <= right; r++) {
                        gather(yard.placeOf(pair), s, l, r);
                    }
                }
            }
        }

        /** The rows' latest act was a TURN left, a TURN right, or a STEP: all three are added up. */
        private void gather(int start, int s, int l, int r) {
            int here = (l * EACH + r) * CELLS;
            int way = (start + r + (WAYS - 1) * l) % WAYS;
            for (int cell = 0; cell < CELLS; cell++) {
                sum[cell] = (l > 0 ? rows[here - EACH * CELLS + cell] : 0) + (r > 0 ? rows[here - CELLS + cell] : 0);
            }
            if (s == 0 && l == 0 && r == 0) {
                sum[start / WAYS] = 1;
            }
            for (int cell = 0; s > 0 && cell < CELLS; cell++) {
                int to = paths.stepTo[cell * WAYS + way];
                if (to != NONE) {
                    sum[to / WAYS] += rows[here + cell];
                }
            }
            System.arraycopy(sum, 0, rows, here, CELLS);
        }

        long howMany(int left, int right) {
            int here = (left * EACH + right) * CELLS;
            long all = 0;
            for (int cell = 0; cell < CELLS; cell++) {
                all += rows[here + cell];
            }
            return all;
        }

        int endCells(int left, int right) {
            int here = (left * EACH + right) * CELLS;
            int cells = 0;
            for (int cell = 0; cell < CELLS; cell++) {
                cells |= rows[here + cell] > 0 ? 1 << cell : 0;
            }
            return cells;
        }

        long byChance(Yard yard, int pair, int cell, int n) {
            paths.layOut(yard, pair);
            Arrays.fill(share, 0L);
            share[yard.placeOf(pair)] = WHOLE;
            for (int i = 0; i < n; i++) {
                spread();
            }
            long all = 0;
            for (int way = 0; way < WAYS; way++) {
                all += share[cell * WAYS + way];
            }
            return all;
        }

        private void spread() {
            Arrays.fill(shareThen, 0L);
            for (int place = 0; place < PLACES; place++) {
                long third = share[place] / 3;
                for (int act = 0; act < 3 && third > 0; act++) {
                    int to = paths.behind(place, act);
                    shareThen[to == NONE ? place : to] += third;
                }
            }
            System.arraycopy(shareThen, 0, share, 0, PLACES);
        }

        long fewSlip(int slips, int k, int n) {
            Arrays.fill(slipped, 0L);
            slipped[0] = WHOLE;
            for (int i = 0; i < n; i++) {
                for (int j = k - 1; j >= 0; j--) {
                    slipped[j] = slipped[j] * (10 - slips) / 10 + (j > 0 ? slipped[j - 1] * slips / 10 : 0);
                }
            }
            long all = 0;
            for (int j = 0; j < k; j++) {
                all += slipped[j];
            }
            return all;
        }
    }

    /** PAIRS held against one another, and against what was SEEN, by how they are WORN. */
    private static final class Likeness {
        private final int[] partner = new int[PAIRS_MOST];
        final int[] bestPartner = new int[PAIRS_MOST];
        int leastSum = 0;
        private boolean found = false;
        int chosenPart = NONE;
        int leftAtMost = 0;

        private static int differ(Yard yard, int one, int other) {
            int sum = 0;
            for (int part = 0; part < PARTS; part++) {
                sum += Math.abs(yard.wornAt(one, part) - yard.wornAt(other, part));
            }
            return sum;
        }

        int nearestTo(Yard yard, int pair) {
            int best = NONE;
            for (int other = 0; other < yard.pairs; other++) {
                if (other != pair && (best == NONE || differ(yard, pair, other) < differ(yard, pair, best))) {
                    best = other;
                }
            }
            return best;
        }

        /** Finds the PARTNERS (in bestPartner) and by how much they differ together (in leastSum). */
        void couple(Yard yard) {
            Arrays.fill(partner, NONE);
            found = false;
            leastSum = 0;
            partFrom(yard, 0, yard.pairs % 2 == 1, 0);
        }

        /** Tries the rows of PARTNERS in their order, so that of rows that are as good the first stays. */
        private void partFrom(Yard yard, int pair, boolean oneAlone, int sum) {
            if (pair >= yard.pairs || pair >= PAIRS_MOST) {
                keepIfLess(sum);
                return;
            }
            if (partner[pair] != NONE) {
                partFrom(yard, pair + 1, oneAlone, sum);
                return;
            }
            if (oneAlone) {
                partner[pair] = pair;
                partFrom(yard, pair + 1, false, sum);
            }
            for (int other = pair + 1; other < yard.pairs; other++) {
                if (partner[other] == NONE) {
                    partner[pair] = other;
                    partner[other] = pair;
                    partFrom(yard, pair + 1, oneAlone, sum + differ(yard, pair, other));
                    partner[other] = NONE;
                }
            }
            partner[pair] = NONE;
        }

        private void keepIfLess(int sum) {
            if (!found || sum < leastSum) {
                found = true;
                leastSum = sum;
                System.arraycopy(partner, 0, bestPartner, 0, PAIRS_MOST);
            }
        }

        int candidates(Yard yard) {
            int those = 0;
            for (int pair = 0; pair < yard.pairs; pair++) {
                boolean can = true;
                for (int i = 0; i < yard.sights; i++) {
                    can = can && yard.wornAt(pair, yard.seenPart[i]) == yard.seenWorn[i];
                }
                those |= can ? 1 << pair : 0;
            }
            return those;
        }

        /** Finds the PART to LOOK at (chosenPart, leftAtMost); false, if it can be no PAIR. */
        boolean choosePart(Yard yard) {
            int those = candidates(yard);
            chosenPart = NONE;
            for (int part = 0; part < PARTS && those != 0; part++) {
                int alike = mostAlike(yard, those, part);
                if (chosenPart == NONE || alike < leftAtMost) {
                    chosenPart = part;
                    leftAtMost = alike;
                }
            }
            return those != 0;
        }

        private static int mostAlike(Yard yard, int those, int part) {
            int most = 0;
            for (int one = 0; one < yard.pairs; one++) {
                int alike = 0;
                for (int other = 0; other < yard.pairs; other++) {
                    boolean both = (those >> one & those >> other & 1) == 1;
                    alike += both && yard.wornAt(one, part) == yard.wornAt(other, part) ? 1 : 0;
                }
                most = Math.max(most, alike);
            }
            return most;
        }
    }
}
