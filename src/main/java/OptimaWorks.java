import java.util.Arrays;

/** A house for best choices: models told as text, and desks for values, clauses and networks. */
public final class OptimaWorks {
    public static final int NONE = -1;

    private static final int TAPE_ROOM = 4000;
    private static final int SHEET_ROOM = 30000;
    private static final int READY_BYTES = 20;

    private final int[] ready = new int[READY_BYTES / 4];
    private final Words words = new Words();
    private final Model model = new Model();
    private byte[] sheet = new byte[64];
    private int sheetLength;
    // These are made when they are first asked for: an object that never needs them stays small.
    private Reader reader;
    private Solver solver;
    private Prover prover;
    private ValueDesk values;
    private ClauseDesk clauses;
    private NetDesk nets;

    public OptimaWorks() {
    }

    // ---- the tape ----

    public void feed(int a, int b, int c, int d, int e) {
        ready[0] = a;
        ready[1] = b;
        ready[2] = c;
        ready[3] = d;
        ready[4] = e;
    }

    public int end(int n) {
        if (n < 0 || n > READY_BYTES || words.length + n > TAPE_ROOM) {
            return NONE;
        }
        for (int i = 0; i < n; i++) {
            words.append(ready[i >> 2] >>> (24 - 8 * (i & 3)));
        }
        Arrays.fill(ready, 0);
        return words.length;
    }

    public void wipe() {
        words.length = 0;
    }

    // ---- the model ----

    public int read() throws IllegalArgumentException {
        model.empty();
        if (solver != null) {
            solver.forget();
        }
        if (prover != null) {
            prover.forget();
        }
        if (reader == null) {
            reader = new Reader(words, model);
        }
        if (!reader.readAll()) {
            model.empty();
            throw new IllegalArgumentException();
        }
        model.stands = true;
        return model.variables;
    }

    public int fault(int what) {
        if (what == 0) {
            return words.fault;
        }
        return what == 1 && words.fault != 0 ? words.place : NONE;
    }

    public int variable(int k, int what) throws IndexOutOfBoundsException {
        if (k < 0 || k >= model.variables) {
            throw new IndexOutOfBoundsException();
        }
        switch (what) {
            case 0:
                return model.from[k];
            case 1:
                return model.to[k];
            case 2:
                return model.whole[k] ? 1 : 0;
            default:
                return NONE;
        }
    }

    public int row(int r, int w, int k) throws IndexOutOfBoundsException {
        if (r < 0 || r >= model.rows) {
            throw new IndexOutOfBoundsException();
        }
        if (k == NONE - 2) {
            return model.ways[r];
        }
        if (w < 0 || w >= model.ways[r] || k < NONE - 1 || k >= model.variables) {
            throw new IndexOutOfBoundsException();
        }
        if (k == NONE) {
            return model.rightSide(r, w);
        }
        return k == NONE - 1 ? model.sign(r, w) : model.number(r, w, k);
    }

    public int goal(int g, int k, boolean under) throws IndexOutOfBoundsException {
        if (g < 0 || g >= model.goals || k < NONE - 1 || k >= model.variables) {
            throw new IndexOutOfBoundsException();
        }
        if (k == NONE - 1) {
            return model.goalMax[g] ? 1 : 0;
        }
        int at = g * Model.NUMBERS + k + 1;
        return under ? model.goalUnder[at] : model.goalOver[at];
    }

    public int write() throws IllegalStateException {
        needModel();
        sheetLength = 0;
        for (int k = 0; k < model.variables; k++) {
            putVariable(k);
        }
        for (int r = 0; r < model.rows; r++) {
            putRow(r);
        }
        for (int d = 0; d < model.differents; d++) {
            putDifferent(model.different[d]);
        }
        for (int g = 0; g < model.goals; g++) {
            putGoal(g);
        }
        return sheetLength;
    }

    private void needModel() {
        if (!model.stands) {
            throw new IllegalStateException();
        }
    }

    // ---- answers ----

    public boolean solve(boolean relaxed) throws IllegalStateException {
        needModel();
        return theSolver().findAnswer(relaxed);
    }

    public int value(int k) throws IllegalStateException, IndexOutOfBoundsException {
        needAnswer(k, model.variables);
        solver.tellNumber(k);
        return putTold();
    }

    public int best(int g) throws IllegalStateException, IndexOutOfBoundsException {
        needAnswer(g, model.goals);
        solver.tellGoal(g);
        return putTold();
    }

    public int way(int r) throws IllegalStateException, IndexOutOfBoundsException {
        needAnswer(r, model.rows);
        return solver.firstWay(r);
    }

    private void needAnswer(int index, int bound) {
        if (solver == null || !solver.answered) {
            throw new IllegalStateException();
        }
        if (index < 0 || index >= bound) {
            throw new IndexOutOfBoundsException();
        }
    }

    public int count() throws IllegalStateException {
        needModel();
        return theSolver().countRows();
    }

    public int counted(int k, int v) throws IllegalStateException {
        needModel();
        if (k < 0 || v < 0 || v >= model.variables || !model.whole[v] || k >= theSolver().countRows()) {
            return NONE * 1000;
        }
        return solver.countedNumber(k, v);
    }

    private Solver theSolver() {
        if (solver == null) {
            solver = new Solver(model);
        }
        return solver;
    }

    // ---- the proof ----

    public int prove() throws IllegalStateException {
        needModel();
        if (prover == null) {
            prover = new Prover(model, theSolver());
        }
        return prover.makeProof();
    }

    public int need(int i, int what) {
        if (prover == null || !prover.made || i < 0 || i >= model.needs()) {
            return NONE;
        }
        switch (what) {
            case 0:
                return prover.kept[i] ? 1 : 0;
            case 1:
                return model.needOf(i);
            case 2:
                return model.needKind(i);
            default:
                return NONE;
        }
    }

    public int multiplier(int i) throws IllegalStateException, IndexOutOfBoundsException {
        if (prover == null || !prover.made) {
            throw new IllegalStateException();
        }
        if (i < NONE || i >= model.needs()) {
            throw new IndexOutOfBoundsException();
        }
        if (i == NONE) {
            prover.tellProved();
        } else {
            prover.tellMultiplier(i);
        }
        return putTold();
    }

    // ---- the output ----

    public int letter(int i) {
        return i < 0 || i >= sheetLength ? NONE : sheet[i];
    }

    public int about(int what) {
        switch (what) {
            case 0:
                return words.length;
            case 1:
                return sheetLength;
            case 2:
                return model.variables;
            case 3:
                return model.rows;
            case 4:
                return model.goals;
            case 5:
                return model.differents;
            case 6:
                return model.stands ? model.cases : 0;
            case 7:
                return model.needs();
            default:
                return NONE;
        }
    }

    private void put(int letter) {
        if (sheetLength >= SHEET_ROOM) {
            return;
        }
        if (sheetLength >= sheet.length) {
            sheet = Arrays.copyOf(sheet, sheet.length * 2);
        }
        sheet[sheetLength] = (byte) letter;
        sheetLength++;
    }

    private void putText(String text) {
        for (int i = 0; i < text.length(); i++) {
            put(text.charAt(i));
        }
    }

    private void putNumber(int n) {
        if (n < 0) {
            put('-');
        }
        int start = sheetLength;
        int rest = n < 0 ? -n : n;
        // No int has more than ten digits.
        for (int turn = 0; turn < 10 && (turn == 0 || rest != 0); turn++) {
            put('0' + rest % 10);
            rest /= 10;
        }
        turnRound(start);
    }

    private void putWhole(Whole number) {
        if (number.below) {
            put('-');
        }
        int start = sheetLength;
        for (int turn = 0; turn < Whole.DIGITS && (turn == 0 || number.length != 0); turn++) {
            put('0' + (int) number.divideSmall(10));
        }
        turnRound(start);
    }

    /** Digits are found from the last to the first, and so stand the wrong way round. */
    private void turnRound(int start) {
        for (int i = start, j = sheetLength - 1; i < j; i++, j--) {
            byte kept = sheet[i];
            sheet[i] = sheet[j];
            sheet[j] = kept;
        }
    }

    private int putTold() {
        sheetLength = 0;
        solver.shortenTold();
        putWhole(solver.top);
        if (!solver.bottom.isOne()) {
            put('/');
            putWhole(solver.bottom);
        }
        return sheetLength;
    }

    private void putVariable(int k) {
        putText("var x");
        putNumber(k);
        if (model.whole[k]) {
            putText(" whole");
        }
        putText(" from ");
        putNumber(model.from[k]);
        putText(" to ");
        putNumber(model.to[k]);
        putText(" ;\n");
    }

    private void putRow(int r) {
        putText("row r");
        putNumber(r);
        putText(" :");
        for (int w = 0; w < model.ways[r]; w++) {
            if (w > 0) {
                putText(" or");
            }
            putWay(r, w);
        }
        putText(" ;\n");
    }

    private void putWay(int r, int w) {
        boolean first = true;
        for (int k = 0; k < model.variables; k++) {
            int number = model.number(r, w, k);
            if (number != 0) {
                putTimes(number, 1, k, first);
                first = false;
            }
        }
        if (first) {
            putText(" 0");
        }
        int sign = model.sign(r, w);
        putText(sign == Model.AT_MOST ? " <= " : sign == Model.AT_LEAST ? " >= " : " = ");
        putNumber(model.rightSide(r, w));
    }

    private void putTimes(int over, int under, int k, boolean first) {
        if (over < 0) {
            putText(" -");
        } else if (!first) {
            putText(" +");
        }
        int size = over < 0 ? -over : over;
        if (size != 1 || under != 1) {
            put(' ');
            putRatio(size, under);
            putText(" *");
        }
        putText(" x");
        putNumber(k);
    }

    private void putRatio(int over, int under) {
        putNumber(over);
        if (under != 1) {
            put('/');
            putNumber(under);
        }
    }

    private void putDifferent(int bits) {
        putText("different");
        boolean first = true;
        for (int k = 0; k < Model.VARIABLES; k++) {
            if ((bits >> k & 1) != 0) {
                putText(first ? " x" : " , x");
                putNumber(k);
                first = false;
            }
        }
        putText(" ;\n");
    }

    private void putGoal(int g) {
        putText(model.goalMax[g] ? "max" : "min");
        int start = g * Model.NUMBERS;
        boolean first = true;
        for (int k = 0; k < model.variables; k++) {
            int over = model.goalOver[start + k + 1];
            if (over != 0) {
                putTimes(over, model.goalUnder[start + k + 1], k, first);
                first = false;
            }
        }
        int alone = model.goalOver[start];
        if (first) {
            put(' ');
            putRatio(alone, model.goalUnder[start]);
        } else if (alone != 0) {
            putText(alone < 0 ? " - " : " + ");
            putRatio(alone < 0 ? -alone : alone, model.goalUnder[start]);
        }
        putText(" ;\n");
    }

    // ---- the desk for values ----

    private ValueDesk theValues() {
        if (values == null) {
            values = new ValueDesk();
        }
        return values;
    }

    public int holder(int domain) throws IllegalArgumentException, IllegalStateException {
        if (domain < 1 || domain > ValueDesk.ALL_VALUES) {
            throw new IllegalArgumentException();
        }
        if (theValues().holders >= ValueDesk.HOLDERS) {
            throw new IllegalStateException();
        }
        return values.addHolder(domain);
    }

    public int rule(int kind, int a, int b, int c) throws IllegalArgumentException, IllegalStateException {
        if (!theValues().isRule(kind, a, b, c)) {
            throw new IllegalArgumentException();
        }
        if (values.rules >= ValueDesk.RULES) {
            throw new IllegalStateException();
        }
        return values.addRule(kind, a, b, c);
    }

    public boolean pair(int value, int bits) {
        if (value < 0 || value >= ValueDesk.VALUES || bits < 0 || bits > ValueDesk.ALL_VALUES) {
            return false;
        }
        theValues().pairs[value] = bits;
        return true;
    }

    public int left(int holder) {
        return values == null || !values.isHolder(holder) ? NONE : values.leftOf(holder);
    }

    public int listing() {
        return theValues().listingSize();
    }

    public int listed(int k, int holder) {
        return theValues().listedValue(k, holder);
    }

    public int reason(int holder, int value) {
        if (values == null || !values.isHolder(holder) || value < 0 || value >= ValueDesk.VALUES) {
            return NONE;
        }
        return values.reasonFor(holder, value);
    }

    public void clear() {
        theValues().forget();
    }

    // ---- the desk for clauses ----

    private ClauseDesk theClauses() {
        if (clauses == null) {
            clauses = new ClauseDesk();
        }
        return clauses;
    }

    public int clause(int wants, int wantsNot, int weight) throws IllegalArgumentException, IllegalStateException {
        boolean signs = wants >= 0 && wants < ClauseDesk.ROWS && wantsNot >= 0 && wantsNot < ClauseDesk.ROWS;
        if (!signs || (wants | wantsNot) == 0 || (wants & wantsNot) != 0 || weight < 0 || weight > 1000) {
            throw new IllegalArgumentException();
        }
        if (theClauses().clauses >= ClauseDesk.CLAUSES) {
            throw new IllegalStateException();
        }
        return clauses.addClause(wants, wantsNot, weight);
    }

    public boolean unsay() {
        return theClauses().dropClause();
    }

    public int truth(int what) {
        switch (what) {
            case 0:
                return theClauses().least(true);
            case 1:
                return theClauses().least(false);
            case 2:
                return theClauses().models();
            case 3:
                return theClauses().core();
            case 4:
                return theClauses().clauses;
            default:
                return NONE;
        }
    }

    // ---- the desk for nets ----

    private NetDesk theNets() {
        if (nets == null) {
            nets = new NetDesk();
        }
        return nets;
    }

    public int arc(int from, int to, int room, int cost) throws IllegalArgumentException, IllegalStateException {
        boolean lengths = room >= 0 && room <= 1000 && cost >= 0 && cost <= 1000;
        if (!isNode(from) || !isNode(to) || !lengths || from == to) {
            throw new IllegalArgumentException();
        }
        if (theNets().arcs >= NetDesk.ARCS) {
            throw new IllegalStateException();
        }
        return nets.addArc(from, to, room, cost);
    }

    private static boolean isNode(int n) {
        return n >= 0 && n < NetDesk.NODES;
    }

    private static void needNodes(int s, int t) {
        if (!isNode(s) || !isNode(t)) {
            throw new IndexOutOfBoundsException();
        }
        if (s == t) {
            throw new IllegalArgumentException();
        }
    }

    public boolean unarc() {
        return theNets().dropArc();
    }

    public int greatest(int s, int t) throws IndexOutOfBoundsException, IllegalArgumentException {
        needNodes(s, t);
        return theNets().fill(s, t);
    }

    public int cut(int s, int t) throws IndexOutOfBoundsException, IllegalArgumentException {
        needNodes(s, t);
        theNets().fill(s, t);
        return nets.reached;
    }

    public int cheapest(int s, int t, int amount) throws IndexOutOfBoundsException, IllegalArgumentException {
        needNodes(s, t);
        return theNets().leastCost(s, t, amount);
    }

    public int path(int s, int t, int i) throws IndexOutOfBoundsException, IllegalArgumentException {
        needNodes(s, t);
        return theNets().shortest(s, t, i);
    }

    public long tree() {
        return theNets().treeArcs();
    }

    public int tour(int nodes, int i) throws IllegalArgumentException {
        int many = Integer.bitCount(nodes);
        if (nodes < 0 || nodes >= 1 << NetDesk.NODES || many < 2 || many > NetDesk.STOPS) {
            throw new IllegalArgumentException();
        }
        return theNets().round(nodes, i);
    }

    /** The tape, the word on it that is looked at, and the fault that was found. */
    private static final class Words {
        static final int END = 0;
        static final int NAME = 1;
        static final int NUMBER = 2;
        static final int NO_WORD = 3;
        // Keywords count on from FIRST_KEYWORD in the order of KEYWORDS; a sign of one byte is that byte.
        static final int FIRST_KEYWORD = 256;
        static final int SET = 256;
        static final int PARAM = 257;
        static final int VAR = 258;
        static final int WHOLE = 259;
        static final int FROM = 260;
        static final int TO = 261;
        static final int ROW = 262;
        static final int OR = 263;
        static final int IF = 264;
        static final int AND = 265;
        static final int NOT = 266;
        static final int IN = 267;
        static final int SUM = 268;
        static final int DIFFERENT = 269;
        static final int MIN = 270;
        static final int MAX = 271;
        static final int DOTS = 300;
        static final int AT_MOST = 301;
        static final int AT_LEAST = 302;
        static final int UNLIKE = 303;

        static final int BAD_WORD = 1;
        static final int BAD_BYTES = 2;
        static final int UNKNOWN = 3;
        static final int MUCH = 4;
        static final int NOT_LINEAR = 5;
        static final int NOUGHT = 6;
        static final int NO_NUMBER = 7;
        static final int NO_MEMBER = 8;
        static final int GREAT = 9;
        static final int HAD = 10;
        static final int MANY = 11;

        private static final String KEYWORDS =
            "set param var whole from to row or if and not in sum different min max ";
        private static final String SIGNS = "=<>:;,[]{}()+-*/";
        private static final int LONGEST_NAME = 8;
        private static final int LONGEST_NUMBER = 6;

        byte[] tape = new byte[64];
        int length;
        int fault;
        int place = NONE;
        int kind;
        int at;
        int number;
        /** The bytes of a NAME, packed: two names are the same just if these are. */
        long name;
        private int next;

        void append(int letter) {
            if (length >= TAPE_ROOM) {
                return;
            }
            if (length >= tape.length) {
                tape = Arrays.copyOf(tape, tape.length * 2);
            }
            tape[length] = (byte) letter;
            length++;
        }

        void fail(int what, int where) {
            fault = what;
            place = where;
            throw new IllegalArgumentException();
        }

        void failHere(int what) {
            fault = what;
            place = at;
            throw new IllegalArgumentException();
        }

        void failWord() {
            fault = kind == NO_WORD ? BAD_BYTES : BAD_WORD;
            place = at;
            throw new IllegalArgumentException();
        }

        void begin() {
            fault = 0;
            place = NONE;
            next = 0;
            advance();
        }

        void advance() {
            skipBlanks();
            at = next;
            int letter = next < length ? tape[next] & 255 : NONE;
            if (letter == NONE) {
                kind = END;
            } else if (letter >= 'a' && letter <= 'z' || letter >= 'A' && letter <= 'Z') {
                takeName();
                kind = keywordOf(next - at);
                if (kind == NONE) {
                    kind = next - at > LONGEST_NAME ? NO_WORD : NAME;
                }
            } else if (letter >= '0' && letter <= '9') {
                takeNumber();
            } else {
                takeSign(letter);
            }
        }

        void take(int wanted) {
            if (kind != wanted) {
                failWord();
            }
            advance();
        }

        private void skipBlanks() {
            boolean remark = false;
            for (; next < length; next++) {
                int c = tape[next];
                if (c == 10) {
                    remark = false;
                } else if (c == '#') {
                    remark = true;
                } else if (!remark && c != 9 && c != 13 && c != 32) {
                    return;
                }
            }
        }

        private void takeName() {
            name = 0;
            boolean inside = true;
            for (int i = next; i < length && inside; i++) {
                int c = tape[i];
                inside = c >= 'a' && c <= 'z' || c >= 'A' && c <= 'Z' || c >= '0' && c <= '9';
                if (inside) {
                    name = name << 8 | c;
                    next++;
                }
            }
        }

        private int keywordOf(int size) {
            int which = FIRST_KEYWORD;
            int matched = 0;
            boolean same = true;
            for (int i = 0; i < KEYWORDS.length(); i++) {
                char c = KEYWORDS.charAt(i);
                if (c != ' ') {
                    same = same && matched < size && tape[at + matched] == c;
                    matched++;
                } else if (same && matched == size) {
                    return which;
                } else {
                    which++;
                    matched = 0;
                    same = true;
                }
            }
            return NONE;
        }

        private void takeNumber() {
            number = 0;
            for (; next < length && tape[next] >= '0' && tape[next] <= '9'; next++) {
                if (next - at < LONGEST_NUMBER) {
                    number = number * 10 + tape[next] - '0';
                }
            }
            kind = next - at > LONGEST_NUMBER ? NO_WORD : NUMBER;
        }

        private void takeSign(int letter) {
            int second = next + 1 < length ? tape[next + 1] : NONE;
            kind = letter == '.' && second == '.' ? DOTS
                : letter == '<' && second == '=' ? AT_MOST
                : letter == '>' && second == '=' ? AT_LEAST
                : letter == '<' && second == '>' ? UNLIKE : NONE;
            if (kind != NONE) {
                next += 2;
                return;
            }
            kind = SIGNS.indexOf((char) letter) >= 0 ? letter : NO_WORD;
            next++;
        }
    }

    /** What was read and done: variables, rows with their ways as kept, goals, differents. */
    private static final class Model {
        static final int VARIABLES = 8;
        static final int ROWS = 12;
        static final int WAYS = 3;
        static final int GOALS = 3;
        static final int DIFFERENTS = 8;
        static final int CASES = 64;
        /** The number alone stands first, then one for each variable. */
        static final int NUMBERS = VARIABLES + 1;
        static final int AT_MOST = 0;
        static final int AT_LEAST = 1;
        static final int EVEN = 2;
        static final int NEEDS = ROWS + 2 * VARIABLES;
        private static final int RIGHT_SIDE = VARIABLES;
        private static final int SIGN = VARIABLES + 1;
        private static final int WAY_SIZE = VARIABLES + 2;

        boolean stands;
        int variables;
        int rows;
        int goals;
        int differents;
        int cases;
        final int[] from = new int[VARIABLES];
        final int[] to = new int[VARIABLES];
        final boolean[] whole = new boolean[VARIABLES];
        final int[] ways = new int[ROWS];
        /** Rows of one way alone: they are needs. */
        int plainRows;
        private final int[] plainRow = new int[ROWS];
        private final int[] kept = new int[ROWS * WAYS * WAY_SIZE];
        final int[] goalOver = new int[GOALS * NUMBERS];
        final int[] goalUnder = new int[GOALS * NUMBERS];
        final boolean[] goalMax = new boolean[GOALS];
        final int[] different = new int[DIFFERENTS];

        void empty() {
            stands = false;
            variables = 0;
            rows = 0;
            plainRows = 0;
            goals = 0;
            differents = 0;
            cases = 1;
        }

        int number(int r, int w, int k) {
            return kept[(r * WAYS + w) * WAY_SIZE + k];
        }

        int rightSide(int r, int w) {
            return kept[(r * WAYS + w) * WAY_SIZE + RIGHT_SIDE];
        }

        int sign(int r, int w) {
            return kept[(r * WAYS + w) * WAY_SIZE + SIGN];
        }

        /** Variables that are declared behind a row are in it too, with 0. */
        void clearWay(int r, int w) {
            int start = (r * WAYS + w) * WAY_SIZE;
            for (int i = start; i < start + WAY_SIZE; i++) {
                kept[i] = 0;
            }
        }

        void keepNumber(int r, int w, int k, int number) {
            kept[(r * WAYS + w) * WAY_SIZE + k] = number;
        }

        void keepRight(int r, int w, int rightSide, int sign) {
            int start = (r * WAYS + w) * WAY_SIZE;
            kept[start + RIGHT_SIDE] = rightSide;
            kept[start + SIGN] = sign;
        }

        int range(int k) {
            return to[k] - from[k] + 1;
        }

        void addRow(int many) {
            ways[rows] = many;
            if (many == 1) {
                plainRow[plainRows] = rows;
                plainRows++;
            }
            rows++;
        }

        int needs() {
            return plainRows + 2 * variables;
        }

        int needKind(int i) {
            int behind = i - plainRows;
            return behind < 0 ? 0 : behind < variables ? 1 : 2;
        }

        int needOf(int i) {
            int behind = i - plainRows;
            return behind < 0 ? plainRow[i] : behind < variables ? behind : behind - variables;
        }

        boolean isEvenNeed(int i) {
            return needKind(i) == 0 && sign(needOf(i), 0) == EVEN;
        }

        private boolean isTurned(int i) {
            int kind = needKind(i);
            return kind == 2 || kind == 0 && sign(needOf(i), 0) == AT_MOST;
        }

        /** Variable k's number in need i, turned so that the need asks for at least its bound. */
        int needNumber(int i, int k) {
            int of = needOf(i);
            int number = needKind(i) == 0 ? number(of, 0, k) : k == of ? 1 : 0;
            return isTurned(i) ? -number : number;
        }

        int needBound(int i) {
            int kind = needKind(i);
            int of = needOf(i);
            int bound = kind == 0 ? rightSide(of, 0) : kind == 1 ? from[of] : to[of];
            return isTurned(i) ? -bound : bound;
        }
    }

    /** Reads one declaration after the other into a tree, and has each one done. */
    private static final class Reader {
        // A node of the tree is a run of NODE ints; it is known by where it starts, 0 is no node.
        static final int KIND = 0;
        static final int AT = 1;
        static final int MARK = 2;
        static final int X = 3;
        static final int Y = 4;
        static final int Z = 5;
        static final int NEXT = 6;
        static final int NODE = 7;

        static final int LINEAR = 1;
        static final int TERM = 2;
        static final int NUMBER = 3;
        static final int BINDER = 4;
        static final int NAMED = 5;
        static final int TURNED = 6;
        static final int GROUP = 7;
        static final int SUM = 8;
        static final int BINDING = 9;
        static final int ANY = 10;
        static final int ALL = 11;
        static final int NOT = 12;
        static final int NEST = 13;
        static final int COMPARE = 14;

        /** More binders can't stand round one another: each sum is a FACTOR within others. */
        static final int BINDERS = 64;
        private static final int DEEPEST = 25;
        private static final int MEMBERS = 12;
        private static final int NAMES_IN_DIFFERENT = 8;

        private final Words words;
        private final Model model;
        private final Worker worker;
        private int[] tree = new int[NODE];
        private int used;
        private int depth;
        private long ownName;
        private final long[] binder = new long[BINDERS];
        private int binders;
        private int firstSet;
        private int secondSet;

        Reader(Words words, Model model) {
            this.words = words;
            this.model = model;
            worker = new Worker(words, model);
        }

        /** Whether there was no fault. */
        boolean readAll() {
            makeRoom();
            worker.begin(tree, words.length);
            words.begin();
            try {
                for (int turn = 0; turn < TAPE_ROOM && words.kind != Words.END; turn++) {
                    used = NODE;
                    depth = 0;
                    binders = 0;
                    ownName = 0;
                    worker.startDeclaration(words.at);
                    switch (words.kind) {
                        case Words.SET:
                            readSet();
                            break;
                        case Words.PARAM:
                            readParam();
                            break;
                        case Words.VAR:
                            readVar();
                            break;
                        case Words.ROW:
                            readRow();
                            break;
                        case Words.DIFFERENT:
                            readDifferent();
                            break;
                        case Words.MIN:
                        case Words.MAX:
                            readGoal();
                            break;
                        default:
                            words.failWord();
                    }
                }
                return true;
            } catch (IllegalArgumentException fault) {
                return false;
            }
        }

        /** No text has two nodes for each of its bytes; the rest is for the first node and the last. */
        private void makeRoom() {
            int needed = NODE * (2 * words.length + 16);
            if (tree.length < needed) {
                tree = new int[Math.max(needed, 2 * tree.length)];
            }
        }

        private int node(int kind) {
            if (used + NODE > tree.length) {
                words.failHere(Words.MUCH);
            }
            int made = used;
            used += NODE;
            for (int i = made; i < used; i++) {
                tree[i] = 0;
            }
            tree[made + KIND] = kind;
            tree[made + AT] = words.at;
            return made;
        }

        private void takeNewName() {
            if (words.kind != Words.NAME) {
                words.failWord();
            }
            if (worker.find(words.name) != NONE) {
                words.failHere(Words.HAD);
            }
            if (worker.names >= Worker.NAMES) {
                words.failHere(Words.MUCH);
            }
            ownName = words.name;
            worker.nameAt = words.at;
            words.advance();
        }

        private int takeSetName() {
            if (words.kind != Words.NAME) {
                words.failWord();
            }
            int set = worker.find(words.name);
            if (set == NONE || worker.kind[set] != Worker.SET) {
                words.failHere(Words.UNKNOWN);
            }
            words.advance();
            return set;
        }

        private void takePlaces() {
            firstSet = NONE;
            secondSet = NONE;
            if (words.kind != '[') {
                return;
            }
            words.advance();
            firstSet = takeSetName();
            if (words.kind == ',') {
                words.advance();
                secondSet = takeSetName();
            }
            words.take(']');
        }

        private void readSet() {
            words.advance();
            takeNewName();
            words.take('=');
            int low = takeWholeNumber();
            words.take(Words.DOTS);
            int at = words.at;
            int high = takeWholeNumber();
            if (high < low || high - low >= MEMBERS) {
                words.fail(Words.MUCH, at);
            }
            words.take(';');
            worker.addName(ownName, Worker.SET, low, high - low + 1, 0);
        }

        private int takeWholeNumber() {
            boolean below = words.kind == '-';
            if (below) {
                words.advance();
            }
            int number = words.number;
            words.take(Words.NUMBER);
            return below ? -number : number;
        }

        private void readParam() {
            words.advance();
            takeNewName();
            takePlaces();
            words.take('=');
            int many = worker.members(firstSet, secondSet);
            int head = linear();
            int last = head;
            for (int i = 1; i < many; i++) {
                words.take(',');
                int following = linear();
                tree[last + NEXT] = following;
                last = following;
            }
            words.take(';');
            worker.doParam(head);
            worker.addName(ownName, Worker.PARAM, firstSet, secondSet, worker.params - many);
        }

        private void readVar() {
            words.advance();
            takeNewName();
            takePlaces();
            boolean whole = words.kind == Words.WHOLE;
            if (whole) {
                words.advance();
            }
            words.take(Words.FROM);
            int from = linear();
            words.take(Words.TO);
            int to = linear();
            words.take(';');
            int many = worker.members(firstSet, secondSet);
            worker.doVar(from, to, many, whole);
            int kind = whole ? Worker.WHOLE_VAR : Worker.VAR;
            worker.addName(ownName, kind, firstSet, secondSet, model.variables - many);
        }

        private void readRow() {
            words.advance();
            takeNewName();
            int binding = 0;
            if (words.kind == '[') {
                words.advance();
                binding = binding();
                words.take(']');
            }
            int truth = 0;
            if (words.kind == Words.IF) {
                words.advance();
                truth = anyOf();
            }
            words.take(':');
            int head = comparison(true);
            int last = head;
            int ways = 1;
            for (; ways < Model.WAYS && words.kind == Words.OR; ways++) {
                words.advance();
                int following = comparison(true);
                tree[last + NEXT] = following;
                last = following;
            }
            words.take(';');
            worker.doRows(binding, truth, head, ways);
            worker.addName(ownName, Worker.ROW, NONE, NONE, 0);
        }

        private void readDifferent() {
            if (model.differents >= Model.DIFFERENTS) {
                words.failHere(Words.MUCH);
            }
            words.advance();
            int bits = takeWholeVar();
            for (int i = 1; i < NAMES_IN_DIFFERENT && words.kind == ','; i++) {
                words.advance();
                bits |= takeWholeVar();
            }
            words.take(';');
            model.different[model.differents] = bits;
            model.differents++;
        }

        /** The variables of the var whose name stands here, as bits. */
        private int takeWholeVar() {
            if (words.kind != Words.NAME) {
                words.failWord();
            }
            int found = worker.find(words.name);
            if (found == NONE || worker.kind[found] != Worker.WHOLE_VAR) {
                words.failHere(Words.UNKNOWN);
            }
            words.advance();
            int many = worker.members(worker.one[found], worker.two[found]);
            return (1 << many) - 1 << worker.base[found];
        }

        private void readGoal() {
            if (model.goals >= Model.GOALS) {
                words.failHere(Words.MUCH);
            }
            boolean max = words.kind == Words.MAX;
            words.advance();
            int linear = linear();
            words.take(';');
            worker.doGoal(linear, max);
        }

        /** The node's X and Y are sets (Y may be NONE), its Z the first binder's number. */
        private int binding() {
            int made = node(BINDING);
            tree[made + Z] = binders;
            addBinder();
            words.take(Words.IN);
            int set = takeSetName();
            tree[made + X] = set;
            tree[made + Y] = NONE;
            if (words.kind == ',') {
                words.advance();
                addBinder();
                words.take(Words.IN);
                set = takeSetName();
                tree[made + Y] = set;
            }
            return made;
        }

        private void addBinder() {
            if (words.kind != Words.NAME) {
                words.failWord();
            }
            boolean had = words.name == ownName || worker.find(words.name) != NONE;
            if (had || findBinder(words.name) != NONE) {
                words.failHere(Words.HAD);
            }
            if (binders >= BINDERS) {
                words.failHere(Words.MUCH);
            }
            binder[binders] = words.name;
            binders++;
            words.advance();
        }

        private int findBinder(long name) {
            for (int i = 0; i < binders; i++) {
                if (binder[i] == name) {
                    return i;
                }
            }
            return NONE;
        }

        /** Goes one deeper; what else may be wrong with the word is told ahead of its being too deep. */
        private void deeper(boolean truth) {
            if (depth >= DEEPEST) {
                if (!truth || words.kind != Words.NOT && words.kind != '{') {
                    refuseNoFactor();
                }
                words.failHere(Words.MUCH);
            }
            depth++;
        }

        private void refuseNoFactor() {
            switch (words.kind) {
                case Words.NUMBER:
                case Words.SUM:
                case '-':
                case '(':
                    break;
                case Words.NAME:
                    if (findBinder(words.name) == NONE && worker.findValue(words.name) == NONE) {
                        words.failHere(Words.UNKNOWN);
                    }
                    break;
                default:
                    words.failWord();
            }
        }

        private int linear() {
            deeper(false);
            int made = node(LINEAR);
            int last = term();
            tree[made + X] = last;
            for (int turn = 0; turn < TAPE_ROOM && (words.kind == '+' || words.kind == '-'); turn++) {
                int mark = words.kind;
                int at = words.at;
                words.advance();
                int following = term();
                link(last, following, mark, at);
                last = following;
            }
            depth--;
            return made;
        }

        private int term() {
            int made = node(TERM);
            int last = factor();
            tree[made + X] = last;
            for (int turn = 0; turn < TAPE_ROOM && (words.kind == '*' || words.kind == '/'); turn++) {
                int mark = words.kind;
                int at = words.at;
                words.advance();
                int following = factor();
                link(last, following, mark, at);
                last = following;
            }
            return made;
        }

        /** A part is known by the sign ahead of it, for that is where its faults are told. */
        private void link(int last, int following, int mark, int at) {
            tree[last + NEXT] = following;
            tree[following + MARK] = mark;
            tree[following + AT] = at;
        }

        private int factor() {
            deeper(false);
            int made = 0;
            switch (words.kind) {
                case Words.NUMBER:
                    made = node(NUMBER);
                    tree[made + X] = words.number;
                    words.advance();
                    break;
                case Words.NAME:
                    made = named();
                    break;
                case Words.SUM:
                    made = summed();
                    break;
                case '-':
                    made = node(TURNED);
                    words.advance();
                    int turned = factor();
                    tree[made + X] = turned;
                    break;
                case '(':
                    made = node(GROUP);
                    words.advance();
                    int inner = linear();
                    tree[made + X] = inner;
                    words.take(')');
                    break;
                default:
                    words.failWord();
            }
            depth--;
            return made;
        }

        private int named() {
            int bound = findBinder(words.name);
            if (bound != NONE) {
                int made = node(BINDER);
                tree[made + X] = bound;
                words.advance();
                return made;
            }
            int found = worker.findValue(words.name);
            if (found == NONE) {
                words.failHere(Words.UNKNOWN);
            }
            int made = node(NAMED);
            tree[made + X] = found;
            words.advance();
            if (worker.one[found] != NONE) {
                words.take('[');
                int place = linear();
                tree[made + Y] = place;
                if (worker.two[found] != NONE) {
                    words.take(',');
                    place = linear();
                    tree[made + Z] = place;
                }
                words.take(']');
            }
            return made;
        }

        private int summed() {
            int made = node(SUM);
            int at = words.at;
            int around = binders;
            words.advance();
            words.take('{');
            int binding = binding();
            // What goes wrong in adding is told at the word sum; the node itself may stand behind a sign.
            tree[binding + AT] = at;
            tree[made + X] = binding;
            if (words.kind == Words.IF) {
                words.advance();
                int truth = anyOf();
                tree[made + Y] = truth;
            }
            words.take('}');
            int inner = factor();
            tree[made + Z] = inner;
            binders = around;
            return made;
        }

        private int anyOf() {
            deeper(true);
            int made = node(ANY);
            int last = allOf();
            tree[made + X] = last;
            for (int turn = 0; turn < TAPE_ROOM && words.kind == Words.OR; turn++) {
                words.advance();
                int following = allOf();
                tree[last + NEXT] = following;
                last = following;
            }
            depth--;
            return made;
        }

        private int allOf() {
            int made = node(ALL);
            int last = oneOf();
            tree[made + X] = last;
            for (int turn = 0; turn < TAPE_ROOM && words.kind == Words.AND; turn++) {
                words.advance();
                int following = oneOf();
                tree[last + NEXT] = following;
                last = following;
            }
            return made;
        }

        private int oneOf() {
            int made;
            int inner;
            if (words.kind == Words.NOT) {
                deeper(true);
                made = node(NOT);
                words.advance();
                inner = oneOf();
                tree[made + X] = inner;
                depth--;
            } else if (words.kind == '{') {
                made = node(NEST);
                words.advance();
                inner = anyOf();
                tree[made + X] = inner;
                words.take('}');
            } else {
                made = comparison(false);
            }
            return made;
        }

        /** A WAY is one too, but with fewer signs. */
        private int comparison(boolean way) {
            int made = node(COMPARE);
            int side = linear();
            tree[made + X] = side;
            boolean strict = words.kind == Words.UNLIKE || words.kind == '<' || words.kind == '>';
            boolean even = words.kind == '=' || words.kind == Words.AT_MOST || words.kind == Words.AT_LEAST;
            if (!even && (way || !strict)) {
                words.failWord();
            }
            tree[made + MARK] = words.kind;
            words.advance();
            side = linear();
            tree[made + Y] = side;
            return made;
        }
    }

    /** Does declarations: keeps the names that are declared, and works values out of the tree. */
    private static final class Worker {
        static final int SET = 1;
        static final int PARAM = 2;
        static final int VAR = 3;
        static final int WHOLE_VAR = 4;
        static final int ROW = 5;
        static final int NAMES = 40;
        private static final int STEPS = 20000;
        private static final int GREATEST = 1000000;
        private static final int WITH_VARIABLE = 99;
        private static final int ALONE_IN_WAY = 99999;
        private static final int ALONE_IN_GOAL = 9999;
        private static final int FARTHEST = 999;
        /** Each LINEAR or FACTOR round another one wants one slot more, and these are at most 25. */
        private static final int SLOTS = 40;
        private static final int WIDTH = Model.NUMBERS;

        private final Words words;
        private final Model model;
        private int[] tree;
        int names;
        final long[] key = new long[NAMES];
        final int[] kind = new int[NAMES];
        /** Of a set: its first member and how many; of others: the sets of their places, or NONE. */
        final int[] one = new int[NAMES];
        final int[] two = new int[NAMES];
        final int[] base = new int[NAMES];
        int params;
        private int[] paramOver = new int[0];
        private int[] paramUnder = new int[0];
        // A value takes WIDTH fractions of a slot: the number alone, then one for each variable.
        private final long[] over = new long[SLOTS * WIDTH];
        private final long[] under = new long[SLOTS * WIDTH];
        private final int[] bound = new int[Reader.BINDERS];
        int nameAt;
        private int startAt;
        private int steps;
        /** What the numbers of the way that is being kept were multiplied by; 0 while all are 0. */
        private long scaleOver;
        private long scaleUnder;

        Worker(Words words, Model model) {
            this.words = words;
            this.model = model;
        }

        void begin(int[] freshTree, int length) {
            tree = freshTree;
            names = 0;
            params = 0;
            // Each number of a param takes a byte of the tape at least.
            if (paramOver.length < length) {
                int room = Math.max(length, 2 * paramOver.length);
                paramOver = new int[room];
                paramUnder = new int[room];
            }
        }

        void startDeclaration(int at) {
            startAt = at;
            nameAt = at;
            steps = 0;
        }

        int find(long name) {
            for (int i = 0; i < names; i++) {
                if (key[i] == name) {
                    return i;
                }
            }
            return NONE;
        }

        /** Names of sets and rows are none of a value. */
        int findValue(long name) {
            for (int i = 0; i < names; i++) {
                if (key[i] == name && kind[i] != SET && kind[i] != ROW) {
                    return i;
                }
            }
            return NONE;
        }

        void addName(long name, int what, int first, int second, int start) {
            if (names >= NAMES) {
                return;
            }
            key[names] = name;
            kind[names] = what;
            one[names] = first;
            two[names] = second;
            base[names] = start;
            names++;
        }

        int members(int firstSet, int secondSet) {
            int many = firstSet == NONE ? 1 : two[firstSet];
            return secondSet == NONE ? many : many * two[secondSet];
        }

        // ---- declarations ----

        void doParam(int head) {
            int linear = head;
            for (int i = 0; i < paramOver.length && linear != 0; i++) {
                number(linear, 0);
                if (params < paramOver.length) {
                    paramOver[params] = (int) over[0];
                    paramUnder[params] = (int) under[0];
                    params++;
                }
                linear = tree[linear + Reader.NEXT];
            }
        }

        void doVar(int fromNode, int toNode, int many, boolean whole) {
            number(fromNode, 0);
            int from = farEnd(fromNode);
            number(toNode, 0);
            int to = farEnd(toNode);
            if (to < from) {
                words.fail(Words.GREAT, tree[toNode + Reader.AT]);
            }
            for (int i = 0; i < many; i++) {
                if (model.variables >= Model.VARIABLES) {
                    words.fail(Words.MANY, nameAt);
                }
                if (whole) {
                    multiplyCases(to - from + 1);
                }
                int k = model.variables;
                model.from[k] = from;
                model.to[k] = to;
                model.whole[k] = whole;
                model.variables++;
            }
        }

        private int farEnd(int node) {
            if (under[0] != 1 || over[0] < -FARTHEST || over[0] > FARTHEST) {
                words.fail(Words.GREAT, tree[node + Reader.AT]);
            }
            return (int) over[0];
        }

        private void multiplyCases(int by) {
            model.cases *= by;
            if (model.cases > Model.CASES) {
                words.fail(Words.MANY, nameAt);
            }
        }

        void doRows(int binding, int truth, int head, int ways) {
            int many = binding == 0 ? 1 : boundMembers(binding);
            for (int i = 0; i < many; i++) {
                if (binding != 0) {
                    bind(binding, i);
                }
                if (truth != 0 && !anyHolds(truth, 0)) {
                    continue;
                }
                int r = model.rows;
                if (r >= Model.ROWS) {
                    words.fail(Words.MANY, nameAt);
                }
                multiplyCases(ways);
                model.addRow(ways);
                int node = head;
                for (int w = 0; w < ways && node != 0; w++) {
                    linear(tree[node + Reader.X], 0);
                    linear(tree[node + Reader.Y], 1);
                    keepWay(r, w, node);
                    node = tree[node + Reader.NEXT];
                }
            }
        }

        void doGoal(int node, boolean max) {
            linear(node, 0);
            int start = model.goals * WIDTH;
            for (int k = 0; k < WIDTH; k++) {
                boolean there = k <= model.variables;
                int limit = k == 0 ? ALONE_IN_GOAL : WITH_VARIABLE;
                if (there && (over[k] > limit || over[k] < -limit || under[k] > limit)) {
                    words.fail(Words.GREAT, tree[node + Reader.AT]);
                }
                model.goalOver[start + k] = there ? (int) over[k] : 0;
                model.goalUnder[start + k] = there ? (int) under[k] : 1;
            }
            model.goalMax[model.goals] = max;
            model.goals++;
        }

        // ---- ways as kept ----

        /**
         * The numbers come one by one: those that were kept are times a whole number when another
         * comes, so what is too great once stays so, and nothing outgrows a long.
         */
        private void keepWay(int r, int w, int node) {
            int at = tree[node + Reader.AT];
            model.clearWay(r, w);
            scaleOver = 0;
            scaleUnder = 1;
            for (int k = 0; k <= model.variables; k++) {
                leaveDifference(k);
            }
            for (int k = 1; k <= model.variables; k++) {
                int number = scaled(r, w, k, at);
                model.keepNumber(r, w, k - 1, number);
            }
            int alone = scaled(r, w, 0, at);
            model.keepRight(r, w, -alone, signOf(tree[node + Reader.MARK]));
        }

        private int scaled(int r, int w, int k, int at) {
            long size = Math.abs(over[k]);
            if (size == 0) {
                return 0;
            }
            int kept = 1;
            if (scaleOver == 0) {
                scaleOver = under[k];
                scaleUnder = size;
            } else {
                long crossed = divisor(scaleOver, under[k]);
                long straight = divisor(size, scaleUnder);
                int limit = k == 0 ? ALONE_IN_WAY : WITH_VARIABLE;
                kept = product(scaleOver / crossed, size / straight, limit);
                int times = product(scaleUnder / straight, under[k] / crossed, WITH_VARIABLE);
                if (kept > limit || times > WITH_VARIABLE || !stretchWay(r, w, times)) {
                    words.fail(Words.GREAT, at);
                }
                long common = divisor(times, scaleUnder);
                scaleOver *= times / common;
                scaleUnder /= common;
            }
            return over[k] < 0 ? -kept : kept;
        }

        private static int signOf(int mark) {
            return mark == Words.AT_MOST ? Model.AT_MOST
                : mark == Words.AT_LEAST ? Model.AT_LEAST : Model.EVEN;
        }

        /** Slot 0's number k less slot 1's, in slot 0: this one may be above what a value may have. */
        private void leaveDifference(int k) {
            long top = over[k] * under[WIDTH + k] - over[WIDTH + k] * under[k];
            long bottom = under[k] * under[WIDTH + k];
            long common = divisor(top, bottom);
            over[k] = top / common;
            under[k] = bottom / common;
        }

        /** Factors are above 0; what is above the limit is told as one more. */
        private static int product(long a, long b, int limit) {
            return a > limit || b > limit || a * b > limit ? limit + 1 : (int) (a * b);
        }

        /** Whether no number of the way becomes too great. */
        private boolean stretchWay(int r, int w, int times) {
            for (int k = 0; k < model.variables; k++) {
                int number = model.number(r, w, k) * times;
                if (number > WITH_VARIABLE || number < -WITH_VARIABLE) {
                    return false;
                }
                model.keepNumber(r, w, k, number);
            }
            return true;
        }

        // ---- values ----

        static long divisor(long a, long b) {
            long x = Math.abs(a);
            long y = Math.abs(b);
            // Each two turns halve the greater one: 200 are more than a long can need.
            for (int turn = 0; turn < 200 && y != 0; turn++) {
                long rest = x % y;
                x = y;
                y = rest;
            }
            return x == 0 ? 1 : x;
        }

        private void step() {
            steps++;
            if (steps > STEPS) {
                words.fail(Words.MANY, startAt);
            }
        }

        private void setNumber(int slot, long top, long bottom) {
            int start = slot * WIDTH;
            for (int k = 0; k <= model.variables; k++) {
                over[start + k] = 0;
                under[start + k] = 1;
            }
            over[start] = top;
            under[start] = bottom;
        }

        private boolean hasVariables(int slot) {
            int start = slot * WIDTH;
            for (int k = 1; k <= model.variables; k++) {
                if (over[start + k] != 0) {
                    return true;
                }
            }
            return false;
        }

        private void setFraction(int i, long top, long bottom, int at) {
            long common = bottom == 1 ? 1 : divisor(top, bottom);
            long shortTop = top / common;
            long shortBottom = bottom / common;
            if (shortTop > GREATEST || shortTop < -GREATEST || shortBottom > GREATEST) {
                words.fail(Words.GREAT, at);
            }
            over[i] = shortTop;
            under[i] = shortBottom;
        }

        /** The value of the next slot is added to this one's, or taken from it. */
        private void join(int slot, boolean minus, int at) {
            int start = slot * WIDTH;
            for (int k = 0; k <= model.variables; k++) {
                int i = start + k;
                int j = i + WIDTH;
                if (over[j] != 0) {
                    long top = over[j] * under[i];
                    setFraction(i, over[i] * under[j] + (minus ? -top : top), under[i] * under[j], at);
                }
            }
        }

        private void multiply(int slot, int at) {
            int start = slot * WIDTH;
            boolean swapped = hasVariables(slot + 1);
            if (swapped && hasVariables(slot)) {
                words.fail(Words.NOT_LINEAR, at);
            }
            int number = swapped ? start : start + WIDTH;
            int value = swapped ? start + WIDTH : start;
            long top = over[number];
            long bottom = under[number];
            for (int k = 0; k <= model.variables; k++) {
                setFraction(start + k, over[value + k] * top, under[value + k] * bottom, at);
            }
        }

        private void divide(int slot, int at) {
            int start = slot * WIDTH;
            if (hasVariables(slot + 1)) {
                words.fail(Words.NOT_LINEAR, at);
            }
            long top = over[start + WIDTH];
            long bottom = under[start + WIDTH];
            if (top == 0) {
                words.fail(Words.NOUGHT, at);
            }
            long turned = top < 0 ? -bottom : bottom;
            for (int k = 0; k <= model.variables; k++) {
                setFraction(start + k, over[start + k] * turned, under[start + k] * Math.abs(top), at);
            }
        }

        private void linear(int node, int slot) {
            int part = tree[node + Reader.X];
            term(part, slot);
            part = tree[part + Reader.NEXT];
            for (int turn = 0; turn < TAPE_ROOM && part != 0; turn++) {
                step();
                term(part, slot + 1);
                join(slot, tree[part + Reader.MARK] == '-', tree[part + Reader.AT]);
                part = tree[part + Reader.NEXT];
            }
        }

        private void term(int node, int slot) {
            int part = tree[node + Reader.X];
            factor(part, slot);
            part = tree[part + Reader.NEXT];
            for (int turn = 0; turn < TAPE_ROOM && part != 0; turn++) {
                step();
                factor(part, slot + 1);
                if (tree[part + Reader.MARK] == '*') {
                    multiply(slot, tree[part + Reader.AT]);
                } else {
                    divide(slot, tree[part + Reader.AT]);
                }
                part = tree[part + Reader.NEXT];
            }
        }

        private void factor(int node, int slot) {
            switch (tree[node + Reader.KIND]) {
                case Reader.NUMBER:
                    step();
                    setNumber(slot, tree[node + Reader.X], 1);
                    break;
                case Reader.BINDER:
                    step();
                    setNumber(slot, bound[tree[node + Reader.X]], 1);
                    break;
                case Reader.NAMED:
                    step();
                    lookUp(node, slot);
                    break;
                case Reader.TURNED:
                    step();
                    factor(tree[node + Reader.X], slot);
                    turn(slot);
                    break;
                case Reader.GROUP:
                    linear(tree[node + Reader.X], slot);
                    break;
                default:
                    sum(node, slot);
            }
        }

        private void turn(int slot) {
            int start = slot * WIDTH;
            for (int k = 0; k <= model.variables; k++) {
                over[start + k] = -over[start + k];
            }
        }

        private void lookUp(int node, int slot) {
            int name = tree[node + Reader.X];
            int at = base[name];
            if (one[name] != NONE) {
                int offset = place(tree[node + Reader.Y], one[name], slot);
                if (two[name] != NONE) {
                    offset = offset * two[two[name]] + place(tree[node + Reader.Z], two[name], slot);
                }
                at += offset;
            }
            if (kind[name] == PARAM) {
                setNumber(slot, paramOver[at], paramUnder[at]);
            } else {
                setNumber(slot, 0, 1);
                over[slot * WIDTH + 1 + at] = 1;
            }
        }

        private int place(int node, int set, int slot) {
            number(node, slot);
            long member = over[slot * WIDTH] - one[set];
            if (under[slot * WIDTH] != 1 || member < 0 || member >= two[set]) {
                words.fail(Words.NO_MEMBER, tree[node + Reader.AT]);
            }
            return (int) member;
        }

        private void number(int node, int slot) {
            linear(node, slot);
            if (hasVariables(slot)) {
                words.fail(Words.NO_NUMBER, tree[node + Reader.AT]);
            }
        }

        private int boundMembers(int binding) {
            return members(tree[binding + Reader.X], tree[binding + Reader.Y]);
        }

        private void bind(int binding, int i) {
            int first = tree[binding + Reader.X];
            int second = tree[binding + Reader.Y];
            int binder = tree[binding + Reader.Z];
            int inner = second == NONE ? 1 : two[second];
            bound[binder] = one[first] + i / inner;
            if (second != NONE) {
                bound[binder + 1] = one[second] + i % inner;
            }
        }

        private void sum(int node, int slot) {
            int binding = tree[node + Reader.X];
            int truth = tree[node + Reader.Y];
            int many = boundMembers(binding);
            setNumber(slot, 0, 1);
            for (int i = 0; i < many; i++) {
                bind(binding, i);
                if (truth == 0 || anyHolds(truth, slot + 1)) {
                    factor(tree[node + Reader.Z], slot + 1);
                    join(slot, false, tree[binding + Reader.AT]);
                }
            }
        }

        // ---- truths ----

        private boolean anyHolds(int node, int slot) {
            int part = tree[node + Reader.X];
            for (int turn = 0; turn < TAPE_ROOM && part != 0; turn++) {
                if (allHold(part, slot)) {
                    return true;
                }
                part = tree[part + Reader.NEXT];
            }
            return false;
        }

        private boolean allHold(int node, int slot) {
            int part = tree[node + Reader.X];
            for (int turn = 0; turn < TAPE_ROOM && part != 0; turn++) {
                if (!oneHolds(part, slot)) {
                    return false;
                }
                part = tree[part + Reader.NEXT];
            }
            return true;
        }

        private boolean oneHolds(int node, int slot) {
            int inner = tree[node + Reader.X];
            switch (tree[node + Reader.KIND]) {
                case Reader.NOT:
                    return !oneHolds(inner, slot);
                case Reader.NEST:
                    return anyHolds(inner, slot);
                default:
                    return compares(node, slot);
            }
        }

        private boolean compares(int node, int slot) {
            number(tree[node + Reader.X], slot);
            long top = over[slot * WIDTH];
            long bottom = under[slot * WIDTH];
            number(tree[node + Reader.Y], slot);
            int order = Long.compare(top * under[slot * WIDTH], over[slot * WIDTH] * bottom);
            switch (tree[node + Reader.MARK]) {
                case Words.AT_MOST:
                    return order <= 0;
                case Words.AT_LEAST:
                    return order >= 0;
                case Words.UNLIKE:
                    return order != 0;
                case '<':
                    return order < 0;
                case '>':
                    return order > 0;
                default:
                    return order == 0;
            }
        }
    }

    /** A whole number without a limit that counts here: exact answers outgrow a long. */
    private static final class Whole {
        /** No number that comes up has more than nine limbs; a division wants one more. */
        static final int LIMBS = 14;
        static final int DIGITS = 130;
        private static final int BITS = 30;
        private static final long MASK = (1L << BITS) - 1;

        private final long[] limb = new long[LIMBS];
        int length;
        boolean below;

        void setLong(long number) {
            below = number < 0;
            length = 0;
            long rest = below ? -number : number;
            for (int i = 0; i < 3 && rest != 0; i++) {
                limb[i] = rest & MASK;
                rest >>>= BITS;
                length = i + 1;
            }
        }

        void copy(Whole other) {
            System.arraycopy(other.limb, 0, limb, 0, other.length);
            length = other.length;
            below = other.below;
        }

        int sign() {
            return length == 0 ? 0 : below ? -1 : 1;
        }

        boolean isOne() {
            return length == 1 && limb[0] == 1 && !below;
        }

        boolean isSmall() {
            return length <= 1;
        }

        long small() {
            return length == 0 ? 0 : below ? -limb[0] : limb[0];
        }

        void negate() {
            below = length != 0 && !below;
        }

        private void trim() {
            while (length > 0 && limb[length - 1] == 0) {
                length--;
            }
            below = below && length != 0;
        }

        int compareSize(Whole other) {
            if (length != other.length) {
                return length < other.length ? -1 : 1;
            }
            for (int i = length - 1; i >= 0; i--) {
                if (limb[i] != other.limb[i]) {
                    return limb[i] < other.limb[i] ? -1 : 1;
                }
            }
            return 0;
        }

        void add(Whole other) {
            if (other.length == 0) {
                return;
            }
            if (length == 0 || below == other.below) {
                addSize(other);
                below = other.below;
            } else if (compareSize(other) >= 0) {
                takeSize(this, other);
                trim();
            } else {
                takeSize(other, this);
                below = other.below;
                trim();
            }
        }

        private void addSize(Whole other) {
            int many = Math.max(length, other.length);
            long carry = 0;
            for (int i = 0; i < many; i++) {
                long sum = (i < length ? limb[i] : 0) + (i < other.length ? other.limb[i] : 0) + carry;
                limb[i] = sum & MASK;
                carry = sum >>> BITS;
            }
            length = many;
            if (carry != 0 && many < LIMBS) {
                limb[many] = carry;
                length++;
            }
        }

        /** This becomes the greater one's size less the lesser one's; it may be either. */
        private void takeSize(Whole greater, Whole lesser) {
            int many = greater.length;
            long borrow = 0;
            for (int i = 0; i < many; i++) {
                long rest = greater.limb[i] - (i < lesser.length ? lesser.limb[i] : 0) - borrow;
                borrow = rest < 0 ? 1 : 0;
                limb[i] = rest & MASK;
            }
            length = many;
        }

        /** This becomes a * b, and may be neither of them. */
        void setProduct(Whole a, Whole b) {
            int many = Math.min(a.length + b.length, LIMBS);
            for (int i = 0; i < many; i++) {
                limb[i] = 0;
            }
            for (int i = 0; i < a.length; i++) {
                long carry = 0;
                long factor = a.limb[i];
                for (int j = 0; j < b.length && i + j < LIMBS; j++) {
                    long sum = factor * b.limb[j] + limb[i + j] + carry;
                    limb[i + j] = sum & MASK;
                    carry = sum >>> BITS;
                }
                if (i + b.length < LIMBS) {
                    limb[i + b.length] = carry;
                }
            }
            length = many;
            below = a.below != b.below;
            trim();
        }

        /** Divides the size by a number of one limb, above 0: what is left over. */
        long divideSmall(long by) {
            if (by <= 0) {
                return 0;
            }
            long rest = 0;
            int used = 0;
            for (int i = length - 1; i >= 0; i--) {
                long part = rest << BITS | limb[i];
                limb[i] = part / by;
                rest = part % by;
                used = used == 0 && limb[i] != 0 ? i + 1 : used;
            }
            length = used;
            return rest;
        }

        /**
         * This becomes this / by without what is left over, which is in rest; spare is written over.
         * As by hand; both are shifted so that a guess from the first limbs is at most 2 too great.
         */
        void divide(Whole by, Whole rest, Whole spare) {
            int size = by.length;
            int places = length - size;
            if (size == 0 || length >= LIMBS) {
                return;
            }
            boolean turned = below != by.below;
            boolean restBelow = below;
            if (size == 1) {
                rest.setLong(divideSmall(by.limb[0]));
            } else if (places < 0) {
                rest.copy(this);
                length = 0;
            } else {
                int shift = 0;
                while (shift < BITS && by.limb[size - 1] << shift <= MASK >> 1) {
                    shift++;
                }
                spare.setShifted(by, shift);
                rest.setShifted(this, shift);
                for (int j = places; j >= 0; j--) {
                    limb[j] = rest.takeTimes(spare, size, j);
                }
                length = places + 1;
                trim();
                rest.length = size;
                rest.shiftBack(shift);
                rest.trim();
            }
            below = turned && length != 0;
            rest.below = restBelow && rest.length != 0;
        }

        /** Its limbs are one more than the other one's, the last one perhaps 0. */
        private void setShifted(Whole other, int shift) {
            long carry = 0;
            for (int i = 0; i < other.length; i++) {
                long moved = other.limb[i] << shift | carry;
                limb[i] = moved & MASK;
                carry = moved >>> BITS;
            }
            limb[other.length] = carry;
            length = other.length + 1;
        }

        private void shiftBack(int shift) {
            long carry = 0;
            for (int i = length - 1; i >= 0; i--) {
                long part = carry << BITS | limb[i];
                limb[i] = part >>> shift;
                carry = part & (1L << shift) - 1;
            }
        }

        /** How many times by, moved up j limbs, goes into this: it is taken off so often. */
        private long takeTimes(Whole by, int size, int j) {
            long first = by.limb[size - 1];
            if (first == 0) {
                return 0;
            }
            long head = limb[size + j] << BITS | limb[size + j - 1];
            long times = head / first;
            long over = head % first;
            for (int turn = 0; turn < 3 && over <= MASK; turn++) {
                if (times <= MASK && times * by.limb[size - 2] <= (over << BITS | limb[size + j - 2])) {
                    break;
                }
                times--;
                over += first;
            }
            long carry = 0;
            for (int i = 0; i < size; i++) {
                long part = limb[i + j] - times * by.limb[i] - carry;
                limb[i + j] = part & MASK;
                carry = -(part >> BITS);
            }
            long last = limb[size + j] - carry;
            limb[size + j] = last & MASK;
            if (last >= 0) {
                return times;
            }
            carry = 0;
            for (int i = 0; i < size; i++) {
                long part = limb[i + j] + by.limb[i] + carry;
                limb[i + j] = part & MASK;
                carry = part >>> BITS;
            }
            limb[size + j] = limb[size + j] + carry & MASK;
            return times - 1;
        }
    }

    /**
     * Rows that tell variables inside by variables outside, which count 0: under times the row's
     * variable is cell 0 and each other cell times its column's variable. No variable may be below
     * 0. All cells stay whole numbers, for they are determinants, and under divides each product
     * of a step. The first steps are bold: the greatest cell is taken, which is soon there; then it
     * is always the variable of the least number, so that the steps can't go round for ever.
     */
    private static final class Tableau {
        private static final int CELLS = 400;
        private static final int ROWS = 40;
        private static final int COLUMNS = 41;
        private static final int STEPS = 1000000;
        private static final int BOLD_STEPS = 40;

        private final Whole[] cell = new Whole[CELLS];
        private final int[] inside = new int[ROWS];
        private final int[] outside = new int[COLUMNS];
        /** Variables that must stay 0; their columns are not kept up any more. */
        private final boolean[] shut = new boolean[COLUMNS];
        final Whole under = new Whole();
        private int rows;
        private int allRows;
        private int columns;
        private final Whole turning = new Whole();
        private final Whole first = new Whole();
        private final Whole second = new Whole();
        private final Whole rest = new Whole();
        private final Whole spare = new Whole();

        Tableau() {
            for (int i = 0; i < CELLS; i++) {
                cell[i] = new Whole();
            }
        }

        /** Columns are 1 .. columns, their variables 0 on, those of the rows follow; goals are rows behind. */
        void begin(int freshRows, int goals, int freshColumns) {
            columns = Math.min(freshColumns, COLUMNS - 1);
            allRows = Math.min(freshRows + goals, Math.min(ROWS, CELLS / (columns + 1)));
            rows = Math.min(freshRows, allRows);
            under.setLong(1);
            for (int i = 0; i < allRows * (columns + 1); i++) {
                cell[i].setLong(0);
            }
            for (int j = 1; j <= columns; j++) {
                outside[j] = j - 1;
                shut[j] = false;
            }
            for (int i = 0; i < rows; i++) {
                inside[i] = columns + i;
            }
        }

        /** The first goal's row. */
        int rowCount() {
            return rows;
        }

        Whole cellAt(int i, int j) {
            return cell[i * (columns + 1) + j];
        }

        int rowOf(int variable) {
            for (int i = 0; i < rows; i++) {
                if (inside[i] == variable) {
                    return i;
                }
            }
            return NONE;
        }

        private int columnOf(int variable) {
            for (int j = 1; j <= columns; j++) {
                if (outside[j] == variable) {
                    return j;
                }
            }
            return NONE;
        }

        /** The row's variable must be 0: whether it can be, as far as this row tells. */
        boolean holdAtNought(int i) {
            int j = columnWith(i);
            if (j == NONE) {
                return cellAt(i, 0).length == 0;
            }
            exchange(i, j);
            shut[j] = true;
            return true;
        }

        private int columnWith(int i) {
            for (int j = 1; j <= columns; j++) {
                if (!shut[j] && cellAt(i, j).length != 0) {
                    return j;
                }
            }
            return NONE;
        }

        /** Whether numbers keep all rows; then the rows tell such numbers. */
        boolean canKeep() {
            for (int turn = 0; turn < STEPS; turn++) {
                int i = rowBelow(turn < BOLD_STEPS);
                if (i == NONE) {
                    return true;
                }
                int j = columnOfSign(i, 1, turn < BOLD_STEPS);
                if (j == NONE) {
                    return false;
                }
                exchange(i, j);
            }
            return false;
        }

        private int rowBelow(boolean bold) {
            int found = NONE;
            for (int i = 0; i < rows; i++) {
                Whole alone = cellAt(i, 0);
                if (alone.sign() < 0 && (found == NONE
                    || (bold ? alone.compareSize(cellAt(found, 0)) > 0 : inside[i] < inside[found]))) {
                    found = i;
                }
            }
            return found;
        }

        private int columnOfSign(int i, int sign, boolean bold) {
            int found = NONE;
            for (int j = 1; j <= columns; j++) {
                Whole number = cellAt(i, j);
                if (!shut[j] && number.sign() == sign && (found == NONE
                    || (bold ? number.compareSize(cellAt(i, found)) > 0 : outside[j] < outside[found]))) {
                    found = j;
                }
            }
            return found;
        }

        /** Makes a goal's row as little as can be, and lets nothing make it greater from then on. */
        void makeLeast(int goal) {
            for (int turn = 0; turn < STEPS; turn++) {
                int j = columnOfSign(goal, -1, turn < BOLD_STEPS);
                int i = j == NONE ? NONE : tightest(j);
                if (i == NONE) {
                    break;
                }
                exchange(i, j);
            }
            shutWith(goal);
        }

        /** Makes a variable as little as can be: whether it is 0 then. */
        boolean sink(int variable) {
            for (int turn = 0; turn < STEPS; turn++) {
                int row = rowOf(variable);
                if (row == NONE) {
                    return true;
                }
                int j = columnOfSign(row, -1, turn < BOLD_STEPS);
                int i = j == NONE ? NONE : tightest(j);
                if (i == NONE) {
                    return cellAt(row, 0).length == 0;
                }
                exchange(i, j);
            }
            return false;
        }

        /** A variable that is as little as can be stays so. */
        void keepSunk(int variable) {
            int row = rowOf(variable);
            if (row != NONE) {
                shutWith(row);
            } else {
                shutOutside(variable);
            }
        }

        /** A variable that is 0 now stays so. */
        void drop(int variable) {
            int row = rowOf(variable);
            int j = row == NONE ? NONE : columnWith(row);
            if (j != NONE) {
                exchange(row, j);
            }
            shutOutside(variable);
        }

        boolean isInside(int variable) {
            return rowOf(variable) != NONE;
        }

        private void shutOutside(int variable) {
            int j = columnOf(variable);
            if (j != NONE) {
                shut[j] = true;
            }
        }

        private void shutWith(int row) {
            for (int j = 1; j <= columns; j++) {
                if (!shut[j] && cellAt(row, j).length != 0) {
                    shut[j] = true;
                }
            }
        }

        /** The row that first comes to 0 when the column's variable grows. */
        private int tightest(int j) {
            int found = NONE;
            for (int i = 0; i < rows; i++) {
                if (cellAt(i, j).sign() < 0) {
                    int order = found == NONE ? -1 : compareRoom(i, found, j);
                    if (order < 0 || order == 0 && inside[i] < inside[found]) {
                        found = i;
                    }
                }
            }
            return found;
        }

        private int compareRoom(int i, int k, int j) {
            // The column's cells are below 0: what is left of one row is as the crossed products are.
            first.setProduct(cellAt(k, 0), cellAt(i, j));
            second.setProduct(cellAt(i, 0), cellAt(k, j));
            second.negate();
            first.add(second);
            return first.sign();
        }

        /** The row's variable goes outside, the column's comes in. */
        private void exchange(int i, int j) {
            Whole pivot = cellAt(i, j);
            boolean turned = pivot.below;
            turning.copy(pivot);
            turning.below = false;
            boolean sameUnder = turning.compareSize(under) == 0;
            for (int k = 0; k < allRows; k++) {
                Whole share = cellAt(k, j);
                for (int c = 0; c <= columns && k != i; c++) {
                    Whole changed = cellAt(k, c);
                    Whole across = cellAt(i, c);
                    // Without a product to take off only the measure changes, and often not even that.
                    boolean measure = share.length == 0 || across.length == 0;
                    boolean stays = measure && (sameUnder || changed.length == 0);
                    if (c != j && !stays && (c == 0 || !shut[c])) {
                        changeCell(changed, share, across, turned);
                    }
                }
                if (turned && k != i) {
                    share.negate();
                }
            }
            for (int c = 0; c <= columns && !turned; c++) {
                cellAt(i, c).negate();
            }
            pivot.copy(under);
            pivot.below = turned;
            under.copy(turning);
            int kept = inside[i];
            inside[i] = outside[j];
            outside[j] = kept;
        }

        /** The cell times the pivot, less (or, turned, and) its row's share times the pivot row's cell. */
        private void changeCell(Whole changed, Whole share, Whole across, boolean turned) {
            boolean small = changed.isSmall() && share.isSmall() && across.isSmall();
            if (small && turning.isSmall() && under.isSmall()) {
                long product = share.small() * across.small();
                long sum = changed.small() * turning.small() + (turned ? product : -product);
                long by = under.small();
                changed.setLong(by == 0 ? sum : sum / by);
                return;
            }
            first.setProduct(changed, turning);
            second.setProduct(share, across);
            if (!turned) {
                second.negate();
            }
            first.add(second);
            first.divide(under, rest, spare);
            changed.copy(first);
        }
    }

    /** Finds answers case by case: a way for each row, a number for each whole variable. */
    private static final class Solver {
        private final Model model;
        final Tableau tableau = new Tableau();
        boolean answered;
        private boolean searched;
        private boolean searchedRelaxed;
        /** NONE while nothing is counted. */
        private int counted = NONE;
        private final int[] countedCase = new int[Model.CASES];
        private final long[] goalNumber = new long[Model.GOALS * Model.VARIABLES];
        private final long[] goalScale = new long[Model.GOALS];
        /** Where a variable starts from in this case, and its column, NONE if it stays there. */
        private final int[] start = new int[Model.VARIABLES];
        private final int[] column = new int[Model.VARIABLES];
        private final int[] chosen = new int[Model.ROWS];
        private final Whole[] answer = wholes(Model.VARIABLES);
        private final Whole[] answerGoal = wholes(Model.GOALS);
        private final Whole answerUnder = new Whole();
        private final Whole[] trial = wholes(Model.VARIABLES);
        /** The number that is to be told. */
        final Whole top = new Whole();
        final Whole bottom = new Whole();
        private final Whole[] spare = wholes(4);

        Solver(Model model) {
            this.model = model;
        }

        static Whole[] wholes(int many) {
            Whole[] made = new Whole[many];
            for (int i = 0; i < many; i++) {
                made[i] = new Whole();
            }
            return made;
        }

        void forget() {
            answered = false;
            searched = false;
            counted = NONE;
        }

        // ---- answers ----

        boolean findAnswer(boolean relaxed) {
            if (searched && searchedRelaxed == relaxed) {
                return answered;
            }
            searched = true;
            searchedRelaxed = relaxed;
            answered = false;
            scaleGoals();
            int cases = relaxed ? 1 : model.cases;
            for (int i = 0; i < cases; i++) {
                if ((relaxed || choose(i)) && lay(relaxed, model.goals) && settle(relaxed)) {
                    tryAnswer();
                }
            }
            return answered;
        }

        /** Goals are made whole and turned so that each is to be least; their numbers alone count nothing here. */
        void scaleGoals() {
            for (int g = 0; g < model.goals; g++) {
                long scale = 1;
                for (int k = 1; k <= model.variables; k++) {
                    int under = model.goalUnder[g * Model.NUMBERS + k];
                    scale *= under / Worker.divisor(scale, under);
                }
                goalScale[g] = scale;
                for (int k = 0; k < model.variables; k++) {
                    int at = g * Model.NUMBERS + k + 1;
                    int under = model.goalUnder[at];
                    long number = under == 0 ? 0 : scale / under * model.goalOver[at];
                    goalNumber[g * Model.VARIABLES + k] = model.goalMax[g] ? -number : number;
                }
            }
        }

        long scaleOf(int g) {
            return goalScale[g];
        }

        long scaledNumber(int g, int k) {
            return goalNumber[g * Model.VARIABLES + k];
        }

        /** The whole numbers and ways of a case, the first variable's number the slowest: whether they differ. */
        private boolean choose(int number) {
            int rest = number;
            for (int r = model.rows - 1; r >= 0; r--) {
                int ways = Math.max(1, model.ways[r]);
                chosen[r] = rest % ways;
                rest /= ways;
            }
            for (int k = model.variables - 1; k >= 0; k--) {
                if (model.whole[k]) {
                    int range = Math.max(1, model.range(k));
                    start[k] = model.from[k] + rest % range;
                    rest /= range;
                } else {
                    start[k] = model.from[k];
                }
            }
            return allDiffer();
        }

        private boolean allDiffer() {
            for (int d = 0; d < model.differents; d++) {
                if (!differ(model.different[d])) {
                    return false;
                }
            }
            return true;
        }

        private boolean differ(int bits) {
            for (int k = 0; k < model.variables; k++) {
                for (int j = 0; j < k; j++) {
                    if ((bits >> k & bits >> j & 1) != 0 && start[k] == start[j]) {
                        return false;
                    }
                }
            }
            return true;
        }

        /** Lays this case (or the relaxed model) out in the tableau: whether each way can hold by itself. */
        boolean lay(boolean relaxed, int goals) {
            int columns = 0;
            for (int k = 0; k < model.variables; k++) {
                boolean free = relaxed || !model.whole[k];
                column[k] = free ? ++columns : NONE;
                if (relaxed) {
                    start[k] = model.from[k];
                }
            }
            int rows = relaxed ? model.plainRows : model.rows;
            tableau.begin(rows + columns, goals, columns);
            int laid = 0;
            for (int r = 0; r < model.rows; r++) {
                if (!relaxed || model.ways[r] == 1) {
                    if (!layWay(laid, r, relaxed ? 0 : chosen[r])) {
                        return false;
                    }
                    laid++;
                }
            }
            for (int k = 0; k < model.variables; k++) {
                if (column[k] != NONE) {
                    tableau.cellAt(laid, 0).setLong(model.to[k] - model.from[k]);
                    tableau.cellAt(laid, column[k]).setLong(-1);
                    laid++;
                }
            }
            for (int g = 0; g < goals; g++) {
                layGoal(laid + g, g);
            }
            return true;
        }

        /** Puts a way into a row of the tableau: whether it can hold at all between from and to. */
        private boolean layWay(int at, int r, int w) {
            int sign = model.sign(r, w);
            int turn = sign == Model.AT_MOST ? -1 : 1;
            int alone = -turn * model.rightSide(r, w);
            int least = 0;
            int most = 0;
            for (int k = 0; k < model.variables; k++) {
                int number = turn * model.number(r, w, k);
                alone += number * start[k];
                if (number != 0 && column[k] != NONE) {
                    tableau.cellAt(at, column[k]).setLong(number);
                    int far = number * (model.to[k] - model.from[k]);
                    least += Math.min(far, 0);
                    most += Math.max(far, 0);
                }
            }
            tableau.cellAt(at, 0).setLong(alone);
            return alone + most >= 0 && (sign != Model.EVEN || alone + least <= 0);
        }

        private void layGoal(int at, int g) {
            Whole alone = tableau.cellAt(at, 0);
            for (int k = 0; k < model.variables; k++) {
                long number = scaledNumber(g, k);
                spare[1].setLong(start[k]);
                addTimes(alone, spare[1], number);
                if (column[k] != NONE) {
                    tableau.cellAt(at, column[k]).setLong(number);
                }
            }
        }

        /** Whether numbers keep what is laid out; then the tableau tells such numbers. */
        boolean settle(boolean relaxed) {
            int laid = 0;
            for (int r = 0; r < model.rows; r++) {
                if (!relaxed || model.ways[r] == 1) {
                    int sign = model.sign(r, relaxed ? 0 : chosen[r]);
                    if (sign == Model.EVEN && !tableau.holdAtNought(laid)) {
                        return false;
                    }
                    laid++;
                }
            }
            return tableau.canKeep();
        }

        private int goalRow(int g) {
            return tableau.rowCount() + g;
        }

        private void tryAnswer() {
            int order = 0;
            for (int g = 0; g < model.goals; g++) {
                tableau.makeLeast(goalRow(g));
                if (answered && order == 0) {
                    order = compare(tableau.cellAt(goalRow(g), 0), answerGoal[g]);
                    if (order > 0) {
                        return;
                    }
                }
            }
            for (int k = 0; k < model.variables; k++) {
                if (column[k] != NONE) {
                    tableau.sink(column[k] - 1);
                    tableau.keepSunk(column[k] - 1);
                }
            }
            takeNumbers(trial);
            for (int k = 0; k < model.variables && answered && order == 0; k++) {
                order = compare(trial[k], answer[k]);
            }
            if (!answered || order < 0) {
                keepAnswer();
            }
        }

        /** A number over the tableau's under against one over the answer's. */
        private int compare(Whole over, Whole answerOver) {
            spare[0].setProduct(over, answerUnder);
            spare[1].setProduct(answerOver, tableau.under);
            spare[1].negate();
            spare[0].add(spare[1]);
            return spare[0].sign();
        }

        /** The variables' numbers, times the tableau's under. */
        void takeNumbers(Whole[] into) {
            for (int k = 0; k < model.variables; k++) {
                into[k].setLong(0);
                addTimes(into[k], tableau.under, start[k]);
                int row = column[k] == NONE ? NONE : tableau.rowOf(column[k] - 1);
                if (row != NONE) {
                    into[k].add(tableau.cellAt(row, 0));
                }
            }
        }

        private void keepAnswer() {
            answered = true;
            answerUnder.copy(tableau.under);
            for (int k = 0; k < model.variables; k++) {
                answer[k].copy(trial[k]);
            }
            for (int g = 0; g < model.goals; g++) {
                answerGoal[g].copy(tableau.cellAt(goalRow(g), 0));
            }
        }

        int firstWay(int r) {
            for (int w = 0; w < model.ways[r]; w++) {
                Whole rest = spare[1];
                rest.setLong(0);
                addTimes(rest, answerUnder, -model.rightSide(r, w));
                for (int k = 0; k < model.variables; k++) {
                    addTimes(rest, answer[k], model.number(r, w, k));
                }
                int sign = model.sign(r, w);
                int order = rest.sign();
                if (order == 0 || order < 0 && sign == Model.AT_MOST || order > 0 && sign == Model.AT_LEAST) {
                    return w;
                }
            }
            return NONE;
        }

        /** Writes over the last two spare ones, which so can be neither of the two. */
        void addTimes(Whole into, Whole factor, long times) {
            if (times == 0) {
                return;
            }
            spare[2].setLong(times);
            spare[3].setProduct(factor, spare[2]);
            into.add(spare[3]);
        }

        // ---- numbers that are told ----

        void tellNumber(int k) {
            top.copy(answer[k]);
            bottom.copy(answerUnder);
        }

        void tellGoal(int g) {
            setGoal(g, answerGoal[g], answerUnder);
        }

        /** A goal's value is to be told: its scaled and turned part is over / under. */
        void setGoal(int g, Whole over, Whole under) {
            int aloneOver = model.goalOver[g * Model.NUMBERS];
            int aloneUnder = model.goalUnder[g * Model.NUMBERS];
            spare[0].setLong(0);
            addTimes(spare[0], under, goalScale[g]);
            bottom.setLong(0);
            addTimes(bottom, spare[0], aloneUnder);
            top.setLong(0);
            addTimes(top, over, model.goalMax[g] ? -aloneUnder : aloneUnder);
            addTimes(top, spare[0], aloneOver);
        }

        void shortenTold() {
            Whole a = spare[0];
            Whole b = spare[1];
            Whole rest = spare[2];
            a.copy(top);
            b.copy(bottom);
            // Each two turns halve the greater one, which has at most 420 bits.
            for (int turn = 0; turn < 1000 && b.length != 0; turn++) {
                a.divide(b, rest, spare[3]);
                Whole kept = a;
                a = b;
                b = rest;
                rest = kept;
            }
            a.below = false;
            if (!a.isOne()) {
                top.divide(a, rest, spare[3]);
                bottom.divide(a, rest, spare[3]);
            }
        }

        // ---- counting ----

        int countRows() {
            if (counted != NONE) {
                return counted;
            }
            int wholes = 1;
            for (int k = 0; k < model.variables; k++) {
                wholes *= model.whole[k] ? model.range(k) : 1;
            }
            int combined = wholes == 0 ? 0 : model.cases / wholes;
            counted = 0;
            for (int i = 0; i < wholes && counted < countedCase.length; i++) {
                boolean found = false;
                for (int j = 0; j < combined && !found; j++) {
                    found = choose(i * combined + j) && lay(false, 0) && settle(false);
                }
                if (found) {
                    countedCase[counted] = i * combined;
                    counted++;
                }
            }
            return counted;
        }

        int countedNumber(int k, int v) {
            choose(countedCase[k]);
            return start[v];
        }
    }

    /**
     * Makes the proof. Needs can be added up to what is to be proved just if multipliers (none below
     * 0 but those of even needs) make the sum of their sides the goal's; those of needs that leave
     * something over at a best place are 0. The multipliers are variables of the tableau, and a need
     * can be left out if its multiplier can be 0.
     */
    private static final class Prover {
        private static final int COLUMNS = Model.NEEDS + Model.ROWS;

        private final Model model;
        private final Solver solver;
        private final Tableau tableau;
        boolean made;
        private int keptNeeds;
        final boolean[] kept = new boolean[Model.NEEDS];
        private final Whole[] multiplier = Solver.wholes(Model.NEEDS);
        private final Whole multiplierUnder = new Whole();
        private final Whole proved = new Whole();
        private final Whole provedUnder = new Whole();
        /** The best place: its numbers and, without solutions, how much it falls short, all over under. */
        private final Whole[] place = Solver.wholes(Model.VARIABLES);
        private final Whole shortfall = new Whole();
        private final Whole under = new Whole();
        private final Whole leftOver = new Whole();
        /** The need of each column, and whether it counts turned there. */
        private final int[] need = new int[COLUMNS];
        private final int[] turn = new int[COLUMNS];
        private int columns;

        Prover(Model model, Solver solver) {
            this.model = model;
            this.solver = solver;
            tableau = solver.tableau;
        }

        void forget() {
            made = false;
        }

        int makeProof() {
            if (made) {
                return keptNeeds;
            }
            solver.scaleGoals();
            if (solver.lay(true, Math.min(1, model.goals)) && solver.settle(true)) {
                findBest();
                chooseColumns(false);
                layMultipliers(false);
            } else {
                findShortfall();
                chooseColumns(true);
                layMultipliers(true);
            }
            keptNeeds = 0;
            for (int i = model.needs() - 1; i >= 0; i--) {
                kept[i] = !canSink(i);
                if (kept[i]) {
                    keptNeeds++;
                } else {
                    dropNeed(i);
                }
            }
            takeMultipliers();
            made = true;
            return keptNeeds;
        }

        private void findBest() {
            shortfall.setLong(0);
            multiplierUnder.setLong(1);
            proved.setLong(0);
            provedUnder.setLong(1);
            if (model.goals > 0) {
                int row = tableau.rowCount();
                tableau.makeLeast(row);
                solver.setGoal(0, tableau.cellAt(row, 0), tableau.under);
                proved.copy(solver.top);
                provedUnder.copy(solver.bottom);
                if (model.goalMax[0]) {
                    proved.negate();
                }
                multiplierUnder.setLong(solver.scaleOf(0));
            }
            solver.takeNumbers(place);
            under.copy(tableau.under);
        }

        /**
         * Each from may be missed by t too: variable k is its from, less t, and a column's variable.
         * Column variables + 1 is t.
         */
        private void findShortfall() {
            int last = model.variables + 1;
            int rows = model.variables;
            for (int i = 0; i < model.plainRows; i++) {
                rows += model.isEvenNeed(i) ? 2 : 1;
            }
            tableau.begin(rows, 0, last);
            int laid = 0;
            for (int i = 0; i < model.needs(); i++) {
                if (model.needKind(i) != 1) {
                    layNeed(laid, i, 1);
                    laid++;
                    if (model.isEvenNeed(i)) {
                        layNeed(laid, i, -1);
                        laid++;
                    }
                }
            }
            tableau.canKeep();
            tableau.sink(last - 1);
            under.copy(tableau.under);
            takeColumn(shortfall, last - 1);
            for (int k = 0; k < model.variables; k++) {
                takeColumn(place[k], k);
                solver.addTimes(place[k], under, model.from[k]);
                solver.addTimes(place[k], shortfall, -1);
            }
            proved.copy(shortfall);
            provedUnder.copy(under);
            multiplierUnder.setLong(1);
        }

        private void layNeed(int at, int i, int sign) {
            int alone = -sign * model.needBound(i);
            int last = 1;
            for (int k = 0; k < model.variables; k++) {
                int number = sign * model.needNumber(i, k);
                tableau.cellAt(at, k + 1).setLong(number);
                alone += number * model.from[k];
                last -= number;
            }
            tableau.cellAt(at, 0).setLong(alone);
            tableau.cellAt(at, model.variables + 1).setLong(last);
        }

        private void takeColumn(Whole into, int variable) {
            int row = tableau.rowOf(variable);
            if (row == NONE) {
                into.setLong(0);
            } else {
                into.copy(tableau.cellAt(row, 0));
            }
        }

        /** Needs that leave nothing over at the best place, an even one both ways if it may count both. */
        private void chooseColumns(boolean isShort) {
            columns = 0;
            for (int i = 0; i < model.needs(); i++) {
                for (int sign = 1; sign >= (model.isEvenNeed(i) ? -1 : 1); sign -= 2) {
                    if (columns < COLUMNS && isTight(i, sign, isShort)) {
                        need[columns] = i;
                        turn[columns] = sign;
                        columns++;
                    }
                }
            }
        }

        private boolean isTight(int i, int sign, boolean isShort) {
            leftOver.setLong(0);
            solver.addTimes(leftOver, under, -sign * model.needBound(i));
            for (int k = 0; k < model.variables; k++) {
                solver.addTimes(leftOver, place[k], sign * model.needNumber(i, k));
            }
            if (isShort) {
                leftOver.add(shortfall);
            }
            return leftOver.length == 0;
        }

        /** A row for each variable's number in the sum; for a shortfall one more, for the multipliers' sum 1. */
        private void layMultipliers(boolean isShort) {
            int rows = isShort ? model.variables + 1 : model.variables;
            tableau.begin(rows, 0, columns);
            for (int k = 0; k < model.variables; k++) {
                for (int j = 0; j < columns; j++) {
                    tableau.cellAt(k, j + 1).setLong(turn[j] * model.needNumber(need[j], k));
                }
                if (!isShort && model.goals > 0) {
                    tableau.cellAt(k, 0).setLong(-solver.scaledNumber(0, k));
                }
            }
            if (isShort) {
                for (int j = 0; j < columns; j++) {
                    tableau.cellAt(model.variables, j + 1).setLong(1);
                }
                tableau.cellAt(model.variables, 0).setLong(-1);
            }
            for (int i = 0; i < rows; i++) {
                tableau.holdAtNought(i);
            }
            tableau.canKeep();
        }

        private boolean canSink(int i) {
            for (int j = 0; j < columns; j++) {
                if (need[j] == i && !tableau.sink(j)) {
                    return false;
                }
            }
            return true;
        }

        /** Columns outside go first: else one of an even need could come in for the other. */
        private void dropNeed(int i) {
            for (int j = 0; j < columns; j++) {
                if (need[j] == i && !tableau.isInside(j)) {
                    tableau.drop(j);
                }
            }
            for (int j = 0; j < columns; j++) {
                if (need[j] == i && tableau.isInside(j)) {
                    tableau.drop(j);
                }
            }
        }

        private void takeMultipliers() {
            for (int i = 0; i < model.needs(); i++) {
                multiplier[i].setLong(0);
            }
            for (int j = 0; j < columns; j++) {
                int row = tableau.rowOf(j);
                if (row != NONE && kept[need[j]]) {
                    solver.addTimes(multiplier[need[j]], tableau.cellAt(row, 0), turn[j]);
                }
            }
            leftOver.copy(multiplierUnder);
            multiplierUnder.setProduct(leftOver, tableau.under);
        }

        void tellProved() {
            solver.top.copy(proved);
            solver.bottom.copy(provedUnder);
        }

        void tellMultiplier(int i) {
            solver.top.copy(multiplier[i]);
            solver.bottom.copy(multiplierUnder);
        }
    }

    /** Holders with domains, and rules between them. */
    private static final class ValueDesk {
        static final int HOLDERS = 10;
        static final int RULES = 12;
        static final int VALUES = 16;
        static final int ALL_VALUES = (1 << VALUES) - 1;
        private static final int DIFFERENT = 0;
        private static final int ORDER = 1;
        private static final int SUM = 2;
        private static final int MOST = 3;
        private static final int PAIRS = 4;
        private static final int FARTHEST = 200;
        private static final int LISTED = 5000;
        private static final int LISTABLE = 20000;
        private static final int STEPS = 1000000;
        /** Sums are at most 150: so many longs have a bit for each. */
        private static final int SUM_LONGS = 3;

        int holders;
        int rules;
        final int[] pairs = new int[VALUES];
        private final int[] domain = new int[HOLDERS];
        private final int[] kind = new int[RULES];
        private final int[] a = new int[RULES];
        private final int[] b = new int[RULES];
        private final int[] c = new int[RULES];
        private final int[] rulePairs = new int[RULES * VALUES];
        private final int[] lastHolder = new int[RULES];
        /** What is left now, and for which rules it is (as bits; NONE if it is not done). */
        private final int[] now = new int[HOLDERS];
        private int doneFor = NONE;
        private boolean changed;
        /** Bits of the sums that the holders ahead of one can have, and those that can still come out. */
        private final long[] fore = new long[(HOLDERS + 1) * SUM_LONGS];
        private final long[] back = new long[(HOLDERS + 1) * SUM_LONGS];
        private final int[] together = new int[1 << HOLDERS];
        private final int[] member = new int[HOLDERS];
        /** Four bits for each holder's value; empty till a listing is asked for. */
        private long[] list = new long[0];
        private int listed;
        private boolean listDone;

        void forget() {
            holders = 0;
            rules = 0;
            change();
        }

        private void change() {
            doneFor = NONE;
            listDone = false;
        }

        boolean isHolder(int h) {
            return h >= 0 && h < holders;
        }

        private boolean isSet(int bits) {
            return bits > 0 && bits < 1 << holders;
        }

        private static boolean isWithin(int n, int far) {
            return n >= -far && n <= far;
        }

        int addHolder(int bits) {
            domain[holders] = bits;
            holders++;
            change();
            return holders - 1;
        }

        boolean isRule(int what, int p, int q, int r) {
            switch (what) {
                case DIFFERENT:
                    return isSet(p);
                case ORDER:
                    return isHolder(p) && isWithin(q, VALUES - 1) && isHolder(r);
                case SUM:
                    return isSet(p) && isWithin(q, FARTHEST) && isWithin(r, FARTHEST);
                case MOST:
                    return isSet(p) && isWithin(q, FARTHEST) && r >= 0 && r < VALUES;
                case PAIRS:
                    return isHolder(p) && isHolder(q) && p != q;
                default:
                    return false;
            }
        }

        int addRule(int what, int p, int q, int r) {
            kind[rules] = what;
            a[rules] = p;
            b[rules] = q;
            c[rules] = r;
            System.arraycopy(pairs, 0, rulePairs, rules * VALUES, VALUES);
            lastHolder[rules] = what == ORDER ? Math.max(p, r)
                : what == PAIRS ? Math.max(p, q) : highest(p);
            rules++;
            change();
            return rules - 1;
        }

        // ---- what is left ----

        int leftOf(int h) {
            narrow((1 << rules) - 1);
            return now[h];
        }

        int reasonFor(int h, int value) {
            if ((domain[h] >> value & 1) == 0 || (leftOf(h) >> value & 1) != 0) {
                return NONE;
            }
            int kept = (1 << rules) - 1;
            for (int r = rules - 1; r >= 0; r--) {
                int without = kept & ~(1 << r);
                narrow(without);
                if ((now[h] >> value & 1) == 0) {
                    kept = without;
                }
            }
            return kept;
        }

        private void narrow(int ruleBits) {
            if (doneFor == ruleBits) {
                return;
            }
            doneFor = ruleBits;
            System.arraycopy(domain, 0, now, 0, holders);
            changed = true;
            // Each turn but the last takes a value away.
            for (int turn = 0; turn <= HOLDERS * VALUES && changed; turn++) {
                changed = false;
                for (int r = 0; r < rules; r++) {
                    if ((ruleBits >> r & 1) != 0) {
                        narrowBy(r);
                        if (isAnyEmpty()) {
                            Arrays.fill(now, 0);
                            return;
                        }
                    }
                }
            }
        }

        private boolean isAnyEmpty() {
            for (int h = 0; h < holders; h++) {
                if (now[h] == 0) {
                    return true;
                }
            }
            return false;
        }

        private void cutTo(int h, int bits) {
            if ((now[h] & ~bits) != 0) {
                now[h] &= bits;
                changed = true;
            }
        }

        private void narrowBy(int r) {
            switch (kind[r]) {
                case DIFFERENT:
                    narrowDifferent(a[r]);
                    break;
                case ORDER:
                    narrowOrder(a[r], b[r], c[r]);
                    break;
                case SUM:
                    narrowSum(r);
                    break;
                case MOST:
                    narrowMost(r);
                    break;
                default:
                    narrowPairs(r);
            }
        }

        private int takeMembers(int bits) {
            int many = 0;
            for (int h = 0; h < holders; h++) {
                if ((bits >> h & 1) != 0) {
                    member[many] = h;
                    many++;
                }
            }
            return many;
        }

        /** Holders that have just as many values together as they are leave none of them to others. */
        private void narrowDifferent(int bits) {
            int many = takeMembers(bits);
            together[0] = 0;
            for (int i = 0; i < many; i++) {
                for (int group = 0; group < 1 << i; group++) {
                    together[group | 1 << i] = together[group] | now[member[i]];
                }
            }
            for (int group = 1; group < 1 << many; group++) {
                int spread = Integer.bitCount(together[group]) - Integer.bitCount(group);
                for (int i = 0; i < many && spread <= 0; i++) {
                    if (spread < 0 || (group >> i & 1) == 0) {
                        cutTo(member[i], spread < 0 ? 0 : ~together[group]);
                    }
                }
            }
        }

        private static int highest(int bits) {
            int found = NONE;
            for (int v = 0; v < VALUES; v++) {
                found = (bits >> v & 1) != 0 ? v : found;
            }
            return found;
        }

        private static int lowest(int bits) {
            int found = 0;
            while (found < VALUES && (bits >> found & 1) == 0) {
                found++;
            }
            return found;
        }

        private void narrowOrder(int i, int k, int j) {
            if (i == j) {
                cutTo(i, k <= 0 ? ALL_VALUES : 0);
                return;
            }
            int most = highest(now[j]) - k;
            cutTo(i, most < 0 ? 0 : most >= VALUES ? ALL_VALUES : (2 << most) - 1);
            int least = lowest(now[i]) + k;
            cutTo(j, least >= VALUES ? 0 : least <= 0 ? ALL_VALUES : ALL_VALUES & -1 << least);
        }

        private void narrowSum(int r) {
            int many = takeMembers(a[r]);
            Arrays.fill(fore, 0);
            Arrays.fill(back, 0);
            fore[0] = 1;
            for (int i = 0; i < many; i++) {
                for (int v = 0; v < VALUES; v++) {
                    if ((now[member[i]] >> v & 1) != 0) {
                        moveUp(i, v);
                    }
                }
            }
            for (int s = Math.max(0, b[r]); s <= c[r] && s < SUM_LONGS * 64; s++) {
                back[many * SUM_LONGS + (s >> 6)] |= 1L << (s & 63);
            }
            for (int i = many - 1; i >= 0; i--) {
                int fits = 0;
                for (int v = 0; v < VALUES; v++) {
                    if ((now[member[i]] >> v & 1) != 0 && moveDown(i, v)) {
                        fits |= 1 << v;
                    }
                }
                cutTo(member[i], fits);
            }
        }

        /** The sums ahead of the i-th, with v added, are sums ahead of the next one. */
        private void moveUp(int i, int v) {
            long carry = 0;
            for (int w = 0; w < SUM_LONGS; w++) {
                long part = fore[i * SUM_LONGS + w];
                fore[(i + 1) * SUM_LONGS + w] |= part << v | carry;
                carry = v == 0 ? 0 : part >>> 64 - v;
            }
        }

        /** The sums wanted behind the i-th, less v, are wanted ahead of it: whether one of them can be had. */
        private boolean moveDown(int i, int v) {
            long carry = 0;
            boolean had = false;
            for (int w = SUM_LONGS - 1; w >= 0; w--) {
                long part = back[(i + 1) * SUM_LONGS + w];
                long wanted = part >>> v | carry;
                carry = v == 0 ? 0 : part << 64 - v;
                back[i * SUM_LONGS + w] |= wanted;
                had = had || (wanted & fore[i * SUM_LONGS + w]) != 0;
            }
            return had;
        }

        private void narrowMost(int r) {
            int many = takeMembers(a[r]);
            int bit = 1 << c[r];
            int forced = 0;
            for (int i = 0; i < many; i++) {
                forced += now[member[i]] == bit ? 1 : 0;
            }
            for (int i = 0; i < many && forced >= b[r]; i++) {
                if (forced > b[r] || now[member[i]] != bit) {
                    cutTo(member[i], forced > b[r] ? 0 : ~bit);
                }
            }
        }

        private void narrowPairs(int r) {
            int i = a[r];
            int j = b[r];
            int fits = 0;
            int reached = 0;
            for (int v = 0; v < VALUES; v++) {
                int going = rulePairs[r * VALUES + v] & now[j];
                if ((now[i] >> v & 1) != 0 && going != 0) {
                    fits |= 1 << v;
                    reached |= going;
                }
            }
            cutTo(i, fits);
            cutTo(j, reached);
        }

        // ---- the listing ----

        int listingSize() {
            if (!listDone) {
                listDone = true;
                makeListing();
            }
            return listed;
        }

        int listedValue(int k, int h) {
            if (!isHolder(h) || k < 0 || k >= listingSize()) {
                return NONE;
            }
            return (int) (list[k] >> 4 * h & 15);
        }

        private boolean isListable() {
            int many = 1;
            for (int h = 0; h < holders && many <= LISTABLE; h++) {
                many *= Integer.bitCount(domain[h]);
            }
            return many <= LISTABLE;
        }

        private void makeListing() {
            listed = isListable() ? 0 : NONE;
            if (listed == NONE) {
                return;
            }
            if (holders == 0) {
                keepListed();
                return;
            }
            // Values that are not left are in no row.
            narrow((1 << rules) - 1);
            int at = 0;
            member[0] = NONE;
            for (int turn = 0; turn < STEPS && at >= 0 && listed < LISTED; turn++) {
                member[at] = nextValue(at);
                if (member[at] == NONE) {
                    at--;
                } else if (keepsAt(at)) {
                    if (at + 1 < holders) {
                        at++;
                        member[at] = NONE;
                    } else {
                        keepListed();
                    }
                }
            }
        }

        private int nextValue(int h) {
            for (int v = member[h] + 1; v < VALUES; v++) {
                if ((now[h] >> v & 1) != 0) {
                    return v;
                }
            }
            return NONE;
        }

        private void keepListed() {
            if (listed >= list.length) {
                list = Arrays.copyOf(list, Math.max(8, 2 * listed));
            }
            long row = 0;
            for (int h = holders - 1; h >= 0; h--) {
                row = row << 4 | member[h];
            }
            list[listed] = row;
            listed++;
        }

        /** Whether the values up to this holder keep the rules that have no holder behind it. */
        private boolean keepsAt(int h) {
            for (int r = 0; r < rules; r++) {
                if (lastHolder[r] == h && !keeps(r)) {
                    return false;
                }
            }
            return true;
        }

        private boolean keeps(int r) {
            if (kind[r] == ORDER) {
                return member[a[r]] + b[r] <= member[c[r]];
            }
            if (kind[r] == PAIRS) {
                return (rulePairs[r * VALUES + member[a[r]]] >> member[b[r]] & 1) != 0;
            }
            int seen = 0;
            int sum = 0;
            int many = 0;
            boolean differ = true;
            for (int h = 0; h < holders; h++) {
                if ((a[r] >> h & 1) != 0) {
                    differ = differ && (seen >> member[h] & 1) == 0;
                    seen |= 1 << member[h];
                    sum += member[h];
                    many += member[h] == c[r] ? 1 : 0;
                }
            }
            if (kind[r] == DIFFERENT) {
                return differ;
            }
            return kind[r] == SUM ? sum >= b[r] && sum <= c[r] : many <= b[r];
        }
    }

    /** Clauses with weights over twelve signs. */
    private static final class ClauseDesk {
        static final int CLAUSES = 24;
        static final int ROWS = 1 << 12;

        int clauses;
        private final int[] wants = new int[CLAUSES];
        private final int[] wantsNot = new int[CLAUSES];
        private final int[] weight = new int[CLAUSES];
        /** For each row of truths the clauses that it does not keep, as bits, and what they weigh. */
        private final int[] broken = new int[ROWS];
        private final int[] loss = new int[ROWS];
        private int musts;

        int addClause(int wanted, int unwanted, int weighs) {
            wants[clauses] = wanted;
            wantsNot[clauses] = unwanted;
            weight[clauses] = weighs;
            if (weighs == 0) {
                musts |= 1 << clauses;
            }
            mark(clauses, weighs);
            clauses++;
            return clauses - 1;
        }

        boolean dropClause() {
            if (clauses == 0) {
                return false;
            }
            clauses--;
            musts &= ~(1 << clauses);
            mark(clauses, -weight[clauses]);
            return true;
        }

        /** Each clause is marked once when it comes and once more when it goes. */
        private void mark(int i, int weighs) {
            for (int row = 0; row < ROWS; row++) {
                if ((row & wants[i]) == 0 && (row & wantsNot[i]) == wantsNot[i]) {
                    broken[row] ^= 1 << i;
                    loss[row] += weighs;
                }
            }
        }

        /** The least loss, or else the first row that has it. */
        int least(boolean asLoss) {
            int found = NONE;
            for (int row = 0; row < ROWS; row++) {
                if ((broken[row] & musts) == 0 && (found == NONE || loss[row] < loss[found])) {
                    found = row;
                }
            }
            return found == NONE || !asLoss ? found : loss[found];
        }

        int models() {
            int many = 0;
            for (int row = 0; row < ROWS; row++) {
                many += broken[row] == 0 ? 1 : 0;
            }
            return many;
        }

        int core() {
            int kept = (1 << clauses) - 1;
            if (canKeep(kept)) {
                return 0;
            }
            for (int i = clauses - 1; i >= 0; i--) {
                int without = kept & ~(1 << i);
                if (!canKeep(without)) {
                    kept = without;
                }
            }
            return kept;
        }

        private boolean canKeep(int bits) {
            for (int row = 0; row < ROWS; row++) {
                if ((broken[row] & bits) == 0) {
                    return true;
                }
            }
            return false;
        }
    }

    /** Arcs between twelve nodes. */
    private static final class NetDesk {
        static final int NODES = 12;
        static final int ARCS = 40;
        static final int STOPS = 8;
        /** Above all costs and lengths that can come up. */
        private static final int FAR = 1 << 29;
        /** A step costs a bit more than its arc, so that of equal costs fewer arcs are shorter. */
        private static final int LENGTH = 16;
        private static final int TURNS = 1000000;

        int arcs;
        private final int[] from = new int[ARCS];
        private final int[] to = new int[ARCS];
        private final int[] room = new int[ARCS];
        private final int[] cost = new int[ARCS];
        /** The nodes that fill() could still reach at its end, as bits. */
        int reached;
        private final int[] free = new int[NODES * NODES];
        private final int[] before = new int[NODES];
        private final int[] flow = new int[ARCS];
        private final int[] length = new int[NODES];
        private final int[] stop = new int[STOPS];
        private int stops;
        private final int[] price = new int[STOPS * STOPS];
        /** By the stops that are still to come (bits, but for the first one) and the stop that one is at. */
        private final int[] rest = new int[(1 << STOPS - 1) * STOPS];

        int addArc(int a, int b, int width, int costs) {
            from[arcs] = a;
            to[arcs] = b;
            room[arcs] = width;
            cost[arcs] = costs;
            arcs++;
            return arcs - 1;
        }

        boolean dropArc() {
            if (arcs == 0) {
                return false;
            }
            arcs--;
            return true;
        }

        // ---- flows ----

        int fill(int s, int t) {
            Arrays.fill(free, 0);
            for (int i = 0; i < arcs; i++) {
                free[from[i] * NODES + to[i]] += room[i];
            }
            int sum = 0;
            for (int turn = 0; turn < TURNS && reach(s, t); turn++) {
                int width = FAR;
                for (int node = t, i = 0; node != s && i < NODES; node = before[node], i++) {
                    width = Math.min(width, free[before[node] * NODES + node]);
                }
                for (int node = t, i = 0; node != s && i < NODES; node = before[node], i++) {
                    free[before[node] * NODES + node] -= width;
                    free[node * NODES + before[node]] += width;
                }
                sum += width;
            }
            return sum;
        }

        /** Goes out from s, the nearest nodes first: whether it comes to t. */
        private boolean reach(int s, int t) {
            reached = 1 << s;
            int edge = reached;
            for (int turn = 0; turn < NODES && edge != 0; turn++) {
                int following = 0;
                for (int i = 0; i < NODES; i++) {
                    for (int j = 0; j < NODES && (edge >> i & 1) != 0; j++) {
                        if ((reached >> j & 1) == 0 && free[i * NODES + j] > 0) {
                            before[j] = i;
                            reached |= 1 << j;
                            following |= 1 << j;
                        }
                    }
                }
                edge = following;
            }
            return (reached >> t & 1) != 0;
        }

        int leastCost(int s, int t, int amount) {
            if (amount < 0) {
                return NONE;
            }
            Arrays.fill(flow, 0);
            int missing = amount;
            int sum = 0;
            for (int turn = 0; turn < TURNS && missing > 0; turn++) {
                measure(s);
                if (length[t] >= FAR) {
                    return NONE;
                }
                int width = push(s, t, missing);
                missing -= width;
                sum += width * length[t];
            }
            return sum;
        }

        /** The cheapest way from s to each node over what the flow leaves; before is an arc, or back over one. */
        private void measure(int s) {
            Arrays.fill(length, FAR);
            length[s] = 0;
            boolean changed = true;
            for (int turn = 0; turn < NODES && changed; turn++) {
                changed = false;
                for (int i = 0; i < arcs; i++) {
                    if (flow[i] < room[i] && length[from[i]] < FAR && length[from[i]] + cost[i] < length[to[i]]) {
                        length[to[i]] = length[from[i]] + cost[i];
                        before[to[i]] = i;
                        changed = true;
                    }
                    if (flow[i] > 0 && length[to[i]] < FAR && length[to[i]] - cost[i] < length[from[i]]) {
                        length[from[i]] = length[to[i]] - cost[i];
                        before[from[i]] = i + ARCS;
                        changed = true;
                    }
                }
            }
        }

        private int push(int s, int t, int most) {
            int width = most;
            int node = t;
            for (int i = 0; i < NODES && node != s; i++) {
                int arc = before[node];
                width = Math.min(width, arc < ARCS ? room[arc] - flow[arc] : flow[arc - ARCS]);
                node = arc < ARCS ? from[arc] : to[arc - ARCS];
            }
            node = t;
            for (int i = 0; i < NODES && node != s; i++) {
                int arc = before[node];
                if (arc < ARCS) {
                    flow[arc] += width;
                    node = from[arc];
                } else {
                    flow[arc - ARCS] -= width;
                    node = to[arc - ARCS];
                }
            }
            return width;
        }

        // ---- ways ----

        int shortest(int s, int t, int i) {
            measureBack(t);
            boolean none = length[s] >= FAR;
            if (i == NONE - 1) {
                return none ? NONE : length[s] / LENGTH;
            }
            int nodes = none ? 0 : length[s] % LENGTH + 1;
            if (i == NONE - 2) {
                return nodes;
            }
            if (i < 0 || i >= nodes) {
                return NONE;
            }
            int node = s;
            for (int k = 0; k < i; k++) {
                node = nextNode(node);
            }
            return node;
        }

        private void measureBack(int t) {
            Arrays.fill(length, FAR);
            length[t] = 0;
            boolean changed = true;
            for (int turn = 0; turn < NODES && changed; turn++) {
                changed = false;
                for (int i = 0; i < arcs; i++) {
                    int far = length[to[i]] + cost[i] * LENGTH + 1;
                    if (length[to[i]] < FAR && far < length[from[i]]) {
                        length[from[i]] = far;
                        changed = true;
                    }
                }
            }
        }

        /** The least node that a shortest way goes on to. */
        private int nextNode(int node) {
            int found = node;
            for (int i = 0; i < arcs; i++) {
                boolean onWay = from[i] == node && length[to[i]] + cost[i] * LENGTH + 1 == length[node];
                if (onWay && (found == node || to[i] < found)) {
                    found = to[i];
                }
            }
            return found;
        }

        long treeArcs() {
            long bits = 0;
            long seen = 0;
            // Nodes that are joined have the same number here.
            int[] group = before;
            for (int i = 0; i < NODES; i++) {
                group[i] = i;
            }
            for (int turn = 0; turn < arcs; turn++) {
                int arc = cheapestUnseen(seen);
                seen |= 1L << arc;
                int gone = group[from[arc]];
                int kept = group[to[arc]];
                if (gone != kept) {
                    bits |= 1L << arc;
                    for (int i = 0; i < NODES; i++) {
                        group[i] = group[i] == gone ? kept : group[i];
                    }
                }
            }
            return bits;
        }

        private int cheapestUnseen(long seen) {
            int found = NONE;
            for (int i = 0; i < arcs; i++) {
                if ((seen >> i & 1) == 0 && (found == NONE || cost[i] < cost[found])) {
                    found = i;
                }
            }
            return Math.max(0, found);
        }

        // ---- tours ----

        int round(int nodes, int i) {
            takeStops(nodes);
            takePrices();
            int all = (1 << stops - 1) - 1;
            for (int left = 0; left <= all; left++) {
                for (int at = 0; at < stops; at++) {
                    rest[left * STOPS + at] = restFrom(left, at);
                }
            }
            int sum = rest[all * STOPS];
            if (sum >= FAR || i == NONE - 1) {
                return sum >= FAR ? NONE : sum;
            }
            if (i < 0 || i >= stops) {
                return NONE;
            }
            int left = all;
            int at = 0;
            for (int k = 0; k < i; k++) {
                at = nextStop(left, at);
                left &= ~(1 << at - 1);
            }
            return stop[at];
        }

        private void takeStops(int nodes) {
            stops = 0;
            for (int n = 0; n < NODES && stops < STOPS; n++) {
                if ((nodes >> n & 1) != 0) {
                    stop[stops] = n;
                    stops++;
                }
            }
        }

        private void takePrices() {
            Arrays.fill(price, FAR);
            for (int a = 0; a < stops; a++) {
                for (int b = 0; b < stops; b++) {
                    for (int i = 0; i < arcs; i++) {
                        if (from[i] == stop[a] && to[i] == stop[b]) {
                            price[a * STOPS + b] = Math.min(price[a * STOPS + b], cost[i]);
                        }
                    }
                }
            }
        }

        private int restFrom(int left, int at) {
            if (left == 0) {
                return price[at * STOPS];
            }
            int least = FAR;
            for (int b = 1; b < stops; b++) {
                if ((left >> b - 1 & 1) != 0) {
                    least = Math.min(least, costOver(left, at, b));
                }
            }
            return least;
        }

        private int costOver(int left, int at, int b) {
            return Math.min(FAR, price[at * STOPS + b] + rest[(left & ~(1 << b - 1)) * STOPS + b]);
        }

        private int nextStop(int left, int at) {
            for (int b = 1; b < stops; b++) {
                if ((left >> b - 1 & 1) != 0 && costOver(left, at, b) == rest[left * STOPS + at]) {
                    return b;
                }
            }
            return Math.max(1, stops - 1);
        }
    }
}
