/**
 * Jump threading on a small control-flow graph: an original program of basic
 * blocks and a current one, which starts as its copy and is optimized.
 * Every row is made once, with the object, so that no call makes new ones.
 */
public final class KnownTurns {
    public static final int BAD = -1, STATE = -2, FULL = -3, NONE = -4;

    private static final int TOP = 50;
    private static final int NIL = 51;
    private static final int VARIABLES = 4;
    private static final int INPUTS = 8;
    private static final int ACTS = 4;
    private static final int SIDES = 2;
    private static final int ORIGINAL_ROOM = 8;
    private static final int CURRENT_ROOM = 16;
    private static final int IMAGES = 2;
    private static final int SHEETS = 4;

    private static final int SET = 0, ADD = 1, SUB = 2, MOVE = 3, READ = 4, WRITE = 5;
    private static final int STOP = 0, GO = 1, LESS = 2, EQUAL = 3;

    private final Reader reader = new Reader();
    private final Program draft = new Program(ORIGINAL_ROOM);
    private final Program original = new Program(ORIGINAL_ROOM);
    private final Program current = new Program(CURRENT_ROOM);
    private final Program[] images = new Program[IMAGES];
    private final boolean[] kept = new boolean[IMAGES];
    private final Flow flow = new Flow();
    private final Paths paths = new Paths();
    private final Run run = new Run();
    private final Dice dice = new Dice();
    private final int[] inputs = new int[INPUTS];
    private final int[] trial = new int[INPUTS];
    private final Sheet[] sheets = new Sheet[SHEETS];
    private int mostActs = ACTS;
    private int tear = 0;
    private boolean analysed = false;

    public KnownTurns() {
        for (int k = 0; k < IMAGES; k++) {
            images[k] = new Program(CURRENT_ROOM);
        }
        for (int k = 0; k < SHEETS; k++) {
            sheets[k] = new Sheet();
        }
        for (int i = 0; i < INPUTS; i++) {
            inputs[i] = NIL;
        }
    }

    // ---- the text

    public int feed(int c) {
        if (!within(c, 127)) {
            return BAD;
        }
        return reader.append(c) ? reader.length : FULL;
    }

    public int end(int n) {
        if (!within(n, reader.length)) {
            return BAD;
        }
        int had = reader.length;
        reader.length = n;
        return had;
    }

    public int text() {
        boolean sound = reader.parse(draft);
        reader.length = 0;
        if (!sound) {
            return -10 - reader.place;
        }
        original.copyFrom(draft);
        startAnew();
        return original.size;
    }

    public int fault() {
        return reader.fault;
    }

    // ---- programs

    public int program(int p, int what) {
        if (!within(p, 1) || !within(what, 8)) {
            return BAD;
        }
        if (what <= 3) {
            return chosen(p).total(what);
        }
        if (p == 0) {
            return NONE;
        }
        refresh();
        switch (what) {
            case 4: return flow.reachedBlocks();
            case 5: return flow.openEdges();
            case 6: return Integer.bitCount(paths.heads);
            case 7: return edgesToThread();
            default: return flow.knownTests(current);
        }
    }

    public int block(int p, int b, int what) {
        if (!within(p, 1) || !within(what, 7) || !chosen(p).has(b)) {
            return BAD;
        }
        Block asked = chosen(p).at(b);
        switch (what) {
            case 0: return asked.acts;
            case 1: return asked.ending;
            case 2: return asked.hasEdge(0) ? asked.target(0) : NONE;
            case 3: return asked.hasEdge(1) ? asked.target(1) : NONE;
            case 7: return asked.origin;
            default: return asked.isTest() ? asked.testProperty(what) : NONE;
        }
    }

    public int act(int p, int b, int i, int what) {
        if (!within(p, 1) || !within(what, 2) || !chosen(p).has(b) || i < 0) {
            return BAD;
        }
        return chosen(p).at(b).actProperty(i, what);
    }

    public int range(int b, int v, int what) {
        if (!current.has(b) || !isVariable(v) || !within(what, 2)) {
            return BAD;
        }
        refresh();
        return flow.isReached(b) ? flow.before[b].property(v, what) : STATE;
    }

    public int along(int b, int side, int v, int what) {
        if (!current.hasEdge(b, side) || !isVariable(v) || !within(what, 2)) {
            return BAD;
        }
        refresh();
        return flow.isOpen(b, side) ? flow.along[SIDES * b + side].property(v, what) : STATE;
    }

    public int outcome(int b) {
        if (!current.has(b)) {
            return BAD;
        }
        refresh();
        if (!flow.isReached(b)) {
            return STATE;
        }
        return current.at(b).isTest() ? flow.outcomeAt(b) : NONE;
    }

    public int known(int b, int side) {
        if (!current.hasEdge(b, side)) {
            return BAD;
        }
        refresh();
        if (!flow.isOpen(b, side)) {
            return STATE;
        }
        Block next = current.at(current.at(b).target(side));
        return next.isTest() ? flow.outcomeAlong(b, side) : NONE;
    }

    public int why(int b, int side) {
        if (!current.hasEdge(b, side)) {
            return BAD;
        }
        refresh();
        return reasonAgainst(b, side);
    }

    public int dominates(int a, int b) {
        if (!current.has(a) || !current.has(b)) {
            return BAD;
        }
        refresh();
        return paths.isDominated(b, a) ? 1 : 0;
    }

    public int loop(int b, int what) {
        if (!current.has(b) || !within(what, 1)) {
            return BAD;
        }
        refresh();
        if (what == 0) {
            return paths.isHead(b) ? 1 : 0;
        }
        return paths.immediateDominator(b);
    }

    // ---- threading, folding, removing

    public int thread(int b, int side) {
        if (!current.hasEdge(b, side)) {
            return BAD;
        }
        refresh();
        if (reasonAgainst(b, side) != 0) {
            return STATE;
        }
        return threadEdge(b, side);
    }

    public int threads(int n) {
        if (n < 1 || n > 16) {
            return BAD;
        }
        for (int done = 0; done < n; done++) {
            refresh();
            if (!threadFirst()) {
                return done;
            }
        }
        return n;
    }

    public int fold() {
        refresh();
        int folded = 0;
        for (int b = 0; b < current.size; b++) {
            int result = flow.isKnownTest(current, b) ? flow.outcomeAt(b) : 0;
            if (result != 0) {
                Block test = current.at(b);
                test.becomeGo(test.target(result - 1));
                folded++;
            }
        }
        analysed = analysed && folded == 0;
        return folded;
    }

    public int sweep() {
        refresh();
        int removed = current.keepOnly(paths.reachable);
        analysed = analysed && removed == 0;
        return removed;
    }

    public int limit(int v) {
        if (!within(v, ACTS)) {
            return BAD;
        }
        int previous = mostActs;
        mostActs = v;
        return previous;
    }

    // ---- runs

    public int input(int i, int v) {
        if (!within(i, INPUTS - 1) || !within(v, NIL)) {
            return BAD;
        }
        int previous = inputs[i];
        inputs[i] = v;
        return previous;
    }

    public int ran(int p, int what) {
        if (!within(p, 1) || !within(what, 9)) {
            return BAD;
        }
        run.follow(chosen(p), inputs);
        return run.property(what);
    }

    public int wrote(int p, int i) {
        if (!within(p, 1) || i < 0) {
            return BAD;
        }
        run.follow(chosen(p), inputs);
        return i < run.outputs && i < run.written.length ? run.written[i] : NONE;
    }

    public int path(int p, int i) {
        if (!within(p, 1) || i < 0) {
            return BAD;
        }
        run.follow(chosen(p), inputs);
        return i < run.entered && i < run.visited.length ? run.visited[i] : NONE;
    }

    public int saved(int seed, int n) {
        if (n < 1 || n > 10) {
            return BAD;
        }
        dice.seed = seed;
        int sum = 0;
        for (int round = 0; round < n; round++) {
            for (int i = 0; i < INPUTS; i++) {
                trial[i] = dice.next(NIL + 1);
            }
            run.follow(original, trial);
            sum += run.tests;
            run.follow(current, trial);
            sum -= run.tests;
        }
        return sum;
    }

    // ---- changes of the original

    public int lead(int b, int side, int t) {
        if (!original.hasEdge(b, side) || !original.has(t)) {
            return BAD;
        }
        Block changed = original.at(b);
        int led = changed.target(side);
        changed.aim(side, t);
        startAnew();
        return led;
    }

    public int draw(int seed, int n) {
        if (n < 1 || n > ORIGINAL_ROOM) {
            return BAD;
        }
        dice.seed = seed;
        original.size = 0;
        for (int b = 0; b < n; b++) {
            dice.makeBlock(original.grow(), n);
        }
        startAnew();
        return original.total(2);
    }

    // ---- images, arrays

    public int keep(int k) {
        if (!within(k, IMAGES - 1)) {
            return BAD;
        }
        int had = kept[k] ? 1 : 0;
        images[k].copyFrom(current);
        kept[k] = true;
        return had;
    }

    public int back(int k) {
        if (!within(k, IMAGES - 1)) {
            return BAD;
        }
        if (!kept[k]) {
            return STATE;
        }
        current.copyFrom(images[k]);
        analysed = false;
        return current.size;
    }

    public int sheet(int k, int lane, int n) {
        if (!within(k, SHEETS - 1) || !within(lane, 2) || n > Sheet.ROOM) {
            return BAD;
        }
        if (n < 0) {
            return -14;
        }
        sheets[k].create(lane, n);
        return 1;
    }

    public int lay(int k, int i, int v) {
        if (!within(k, SHEETS - 1)) {
            return BAD;
        }
        if (sheets[k].isMissing()) {
            return -11;
        }
        return sheets[k].put(i, v) ? 1 : -12;
    }

    public int read(int k, int lane, int f, int n) {
        if (!within(k, SHEETS - 1) || !within(lane, 2) || !within(n, INPUTS)) {
            return BAD;
        }
        Sheet source = sheets[k];
        int met = 0;
        int taken = 0;
        while (taken < n && taken < INPUTS && met == 0) {
            met = source.faultAt(lane, f + taken);
            if (met == 0) {
                int value = source.element(f + taken);
                if (!within(value, NIL)) {
                    return -20 - taken;
                }
                trial[taken] = value;
                taken++;
            }
        }
        System.arraycopy(trial, 0, inputs, 0, taken);
        tear = met;
        return taken;
    }

    public int torn() {
        return tear;
    }

    public int count(int what) {
        switch (what) {
            case 0: return (kept[0] ? 1 : 0) + (kept[1] ? 1 : 0);
            case 1: return reader.length;
            case 2: return nilInputs();
            case 3: return sheets[0].isMissing() ? NONE : sheets[0].length;
            case 4: return mostActs;
            default: return BAD;
        }
    }

    // ---- inside

    private static boolean within(int value, int top) {
        return value >= 0 && value <= top;
    }

    private static boolean isVariable(int v) {
        return v >= 0 && v < VARIABLES;
    }

    private Program chosen(int p) {
        return p == 0 ? original : current;
    }

    private int nilInputs() {
        int nils = 0;
        for (int i = 0; i < INPUTS; i++) {
            if (inputs[i] == NIL) {
                nils++;
            }
        }
        return nils;
    }

    private void startAnew() {
        original.setOrigins();
        current.copyFrom(original);
        for (int k = 0; k < IMAGES; k++) {
            kept[k] = false;
        }
        analysed = false;
    }

    // The fixed point is dear, so it is kept until the current program changes.
    private void refresh() {
        if (!analysed) {
            flow.solve(current);
            flow.lookAhead(current);
            paths.solve(current);
            analysed = true;
        }
    }

    private int reasonAgainst(int b, int side) {
        if (!flow.isOpen(b, side)) {
            return 1;
        }
        int t = current.at(b).target(side);
        Block next = current.at(t);
        if (!next.isTest()) {
            return 2;
        }
        if (flow.outcomeAlong(b, side) == 0) {
            return 3;
        }
        if (paths.isHead(t)) {
            return 4;
        }
        if (next.acts > mostActs) {
            return 5;
        }
        return current.isFull() ? 6 : 0;
    }

    // Edges are numbered by block and then by side.
    private boolean canThread(int e) {
        return current.hasEdge(e / SIDES, e % SIDES) && reasonAgainst(e / SIDES, e % SIDES) == 0;
    }

    private int edgesToThread() {
        int found = 0;
        for (int e = 0; e < SIDES * current.size; e++) {
            found += canThread(e) ? 1 : 0;
        }
        return found;
    }

    private boolean threadFirst() {
        for (int e = 0; e < SIDES * current.size; e++) {
            if (canThread(e)) {
                threadEdge(e / SIDES, e % SIDES);
                return true;
            }
        }
        return false;
    }

    // Only for an edge against which there is no reason: then there is room and the outcome is 1 or 2.
    private int threadEdge(int b, int side) {
        Block from = current.at(b);
        Block next = current.at(from.target(side));
        int result = flow.outcomeAlong(b, side);
        int added = current.size;
        Block copy = current.grow();
        copy.copyFrom(next);
        copy.becomeGo(next.target(result - 1));
        from.aim(side, added);
        analysed = false;
        return added;
    }

    /** A basic block: acts, an end, and the block of the original that it is a copy of. */
    private static final class Block {
        int acts;
        final int[] kind = new int[ACTS];
        final int[] variable = new int[ACTS];
        final int[] operand = new int[ACTS];
        int ending;
        int left;
        boolean rightIsVariable;
        int right;
        int first;
        int second;
        int origin;

        void wipe() {
            acts = 0;
            ending = STOP;
            left = 0;
            rightIsVariable = false;
            right = 0;
            first = 0;
            second = 0;
            origin = 0;
        }

        void copyFrom(Block other) {
            acts = other.acts;
            for (int i = 0; i < ACTS; i++) {
                kind[i] = other.kind[i];
                variable[i] = other.variable[i];
                operand[i] = other.operand[i];
            }
            ending = other.ending;
            left = other.left;
            rightIsVariable = other.rightIsVariable;
            right = other.right;
            first = other.first;
            second = other.second;
            origin = other.origin;
        }

        void addAct(int itsKind, int v, int nOrW) {
            if (acts >= 0 && acts < ACTS) {
                kind[acts] = itsKind;
                variable[acts] = v;
                operand[acts] = nOrW;
                acts++;
            }
        }

        void becomeGo(int t) {
            ending = GO;
            first = t;
        }

        boolean isTest() {
            return ending == LESS || ending == EQUAL;
        }

        int edges() {
            return isTest() ? 2 : ending == GO ? 1 : 0;
        }

        boolean hasEdge(int side) {
            return side >= 0 && side < edges();
        }

        int target(int side) {
            return side == 0 ? first : second;
        }

        void aim(int side, int t) {
            if (side == 0) {
                first = t;
            } else {
                second = t;
            }
        }

        int testProperty(int what) {
            switch (what) {
                case 4: return left;
                case 5: return rightIsVariable ? 1 : 0;
                default: return right;
            }
        }

        int actProperty(int i, int what) {
            if (i < 0 || i >= acts || i >= ACTS) {
                return NONE;
            }
            switch (what) {
                case 0: return kind[i];
                case 1: return variable[i];
                default: return kind[i] == READ || kind[i] == WRITE ? NONE : operand[i];
            }
        }
    }

    /** A sequence of blocks, in a room that is made once. */
    private static final class Program {
        final Block[] blocks;
        final int[] renumbered;
        // Stands in for a block that does not exist, so that no lookup fails.
        final Block nowhere = new Block();
        int size = 0;

        Program(int room) {
            int usable = room > 0 ? room : 0;
            blocks = new Block[usable];
            renumbered = new int[usable];
            for (int b = 0; b < usable; b++) {
                blocks[b] = new Block();
            }
        }

        boolean has(int b) {
            return b >= 0 && b < size && b < blocks.length;
        }

        boolean hasEdge(int b, int side) {
            return has(b) && blocks[b].hasEdge(side);
        }

        boolean isFull() {
            return size >= blocks.length;
        }

        Block at(int b) {
            return has(b) ? blocks[b] : nowhere;
        }

        Block grow() {
            if (size < 0 || isFull()) {
                return nowhere;
            }
            Block fresh = blocks[size];
            fresh.wipe();
            size++;
            return fresh;
        }

        void copyFrom(Program other) {
            size = 0;
            for (int b = 0; b < other.size && b < blocks.length; b++) {
                blocks[b].copyFrom(other.at(b));
                size++;
            }
        }

        void setOrigins() {
            for (int b = 0; b < size; b++) {
                at(b).origin = b;
            }
        }

        boolean namesOnlyItsBlocks() {
            for (int b = 0; b < size; b++) {
                Block block = at(b);
                for (int side = 0; side < block.edges(); side++) {
                    if (!has(block.target(side))) {
                        return false;
                    }
                }
            }
            return true;
        }

        int total(int what) {
            int sum = 0;
            for (int b = 0; b < size; b++) {
                Block block = at(b);
                switch (what) {
                    case 0: sum++; break;
                    case 1: sum += block.acts; break;
                    case 2: sum += block.isTest() ? 1 : 0; break;
                    default: sum += block.edges(); break;
                }
            }
            return sum;
        }

        // The blocks in the mask must lead to blocks in the mask alone.
        int keepOnly(int mask) {
            int left = 0;
            for (int b = 0; b < size && b < blocks.length; b++) {
                renumbered[b] = left;
                if ((mask >> b & 1) != 0) {
                    if (left != b) {
                        blocks[left].copyFrom(blocks[b]);
                    }
                    left++;
                }
            }
            int removed = size - left;
            for (int b = 0; b < left; b++) {
                aimAnew(blocks[b]);
            }
            size = left;
            return removed;
        }

        private void aimAnew(Block block) {
            for (int side = 0; side < block.edges(); side++) {
                int t = block.target(side);
                if (has(t)) {
                    block.aim(side, renumbered[t]);
                }
            }
        }
    }

    /** The tape, and the reading of it, with one token at hand. */
    private static final class Reader {
        static final int ROOM = 200;
        static final int NOTHING = 0, WORD = 1, NUMBER = 2, SIGN = 3, STRANGE = 4;

        final int[] tape = new int[ROOM];
        int length = 0;
        int fault = 0;
        int place = 0;
        private int token = NOTHING;
        private int start = 0;
        private int next = 0;

        boolean append(int c) {
            if (length < 0 || length >= ROOM) {
                return false;
            }
            tape[length] = c;
            length++;
            return true;
        }

        boolean parse(Program draft) {
            draft.size = 0;
            fault = 0;
            next = 0;
            if (!advance()) {
                return false;
            }
            for (int b = 0; b < ORIGINAL_ROOM && token != NOTHING; b++) {
                if (!parseBlock(draft.grow())) {
                    return false;
                }
            }
            if (token != NOTHING) {
                return fail(token == WORD ? 5 : 2);
            }
            return draft.namesOnlyItsBlocks() || fail(6);
        }

        private boolean parseBlock(Block block) {
            for (int i = 0; i < ACTS; i++) {
                int kind = actAtHand();
                if (kind < 0) {
                    return parseEnd(block) && takeSign(';');
                }
                if (!parseAct(block, kind)) {
                    return false;
                }
            }
            if (actAtHand() >= 0) {
                return fail(5);
            }
            return parseEnd(block) && takeSign(';');
        }

        private boolean parseAct(Block block, int kind) {
            if (!advance()) {
                return false;
            }
            int v = takeVariable();
            if (v < 0) {
                return false;
            }
            int nOrW = 0;
            if (kind == MOVE) {
                nOrW = takeVariable();
            } else if (kind != READ && kind != WRITE) {
                nOrW = takeNumber(TOP);
            }
            if (nOrW < 0) {
                return false;
            }
            block.addAct(kind, v, nOrW);
            return true;
        }

        private boolean parseEnd(Block block) {
            if (isWord("stop")) {
                block.ending = STOP;
                return advance();
            }
            if (isWord("go")) {
                block.ending = GO;
                return advance() && parseTarget(block, 0);
            }
            if (isWord("if")) {
                return advance() && parseTest(block) && parseTarget(block, 0) && parseTarget(block, 1);
            }
            return fail(2);
        }

        private boolean parseTarget(Block block, int side) {
            int t = takeNumber(ORIGINAL_ROOM - 1);
            block.aim(side, t);
            return t >= 0;
        }

        private boolean parseTest(Block block) {
            block.left = takeVariable();
            if (block.left < 0) {
                return false;
            }
            block.ending = isSign('=') ? EQUAL : LESS;
            if (!takeSign(isSign('=') ? '=' : '<')) {
                return false;
            }
            block.rightIsVariable = token == WORD;
            block.right = token == NUMBER ? takeNumber(TOP) : takeVariable();
            return block.right >= 0;
        }

        private int actAtHand() {
            if (isWord("set")) {
                return SET;
            }
            if (isWord("add")) {
                return ADD;
            }
            if (isWord("sub")) {
                return SUB;
            }
            if (isWord("move")) {
                return MOVE;
            }
            if (isWord("read")) {
                return READ;
            }
            return isWord("write") ? WRITE : -1;
        }

        // Takers answer a negative number or false after a fault.
        private int takeVariable() {
            int letter = token == WORD && next - start == 1 ? byteAt(start) - 'a' : -1;
            if (!isVariable(letter)) {
                fail(2);
                return -1;
            }
            return advance() ? letter : -1;
        }

        private int takeNumber(int top) {
            int taken = token == NUMBER ? valueAtHand() : -1;
            if (taken < 0 || taken > top) {
                fail(taken < 0 ? 2 : 3);
                return -1;
            }
            return advance() ? taken : -1;
        }

        private boolean takeSign(char sign) {
            return isSign(sign) ? advance() : fail(2);
        }

        private boolean isSign(char sign) {
            return token == SIGN && byteAt(start) == sign;
        }

        private boolean isWord(String word) {
            if (token != WORD || next - start != word.length()) {
                return false;
            }
            for (int i = 0; i < word.length(); i++) {
                if (byteAt(start + i) != word.charAt(i)) {
                    return false;
                }
            }
            return true;
        }

        // At the end of the text the token begins at its length, where the document puts such faults.
        private boolean fail(int itsFault) {
            fault = itsFault;
            place = start;
            return false;
        }

        private boolean advance() {
            start = next;
            while (start < length && byteAt(start) == ' ') {
                start++;
            }
            if (start >= length) {
                token = NOTHING;
                next = start;
                return true;
            }
            token = sortOf(byteAt(start));
            next = start + 1;
            if (token == WORD || token == NUMBER) {
                while (next < length && sortOf(byteAt(next)) == token) {
                    next++;
                }
            }
            if (token == STRANGE || token == NUMBER && next - start > 2) {
                return fail(1);
            }
            return true;
        }

        private int valueAtHand() {
            int value = 0;
            for (int i = start; i < next; i++) {
                value = 10 * value + byteAt(i) - '0';
            }
            return value;
        }

        private int byteAt(int i) {
            return i >= 0 && i < length && i < ROOM ? tape[i] : 0;
        }

        private static int sortOf(int c) {
            if (c >= 'a' && c <= 'z') {
                return WORD;
            }
            if (c >= '0' && c <= '9') {
                return NUMBER;
            }
            return c == ';' || c == '<' || c == '=' ? SIGN : STRANGE;
        }
    }

    /**
     * What each variable can be. A variable that can be no number has a least one above
     * all numbers and a greatest one below all, so that joining and cutting need no special case.
     */
    private static final class Ranges {
        static final int ABOVE = TOP + 1, BELOW = -1;

        final int[] least = new int[VARIABLES];
        final int[] greatest = new int[VARIABLES];
        final boolean[] nil = new boolean[VARIABLES];

        void setAll(boolean canBeNil) {
            for (int v = 0; v < VARIABLES; v++) {
                setNumbers(v, ABOVE, BELOW);
                nil[v] = canBeNil;
            }
        }

        void copyFrom(Ranges other) {
            for (int v = 0; v < VARIABLES; v++) {
                copyVariable(v, other, v);
            }
        }

        boolean join(Ranges other) {
            boolean grown = false;
            for (int v = 0; v < VARIABLES; v++) {
                if (other.least[v] < least[v]) {
                    least[v] = other.least[v];
                    grown = true;
                }
                if (other.greatest[v] > greatest[v]) {
                    greatest[v] = other.greatest[v];
                    grown = true;
                }
                if (other.nil[v] && !nil[v]) {
                    nil[v] = true;
                    grown = true;
                }
            }
            return grown;
        }

        boolean leavesEachSomething() {
            for (int v = 0; v < VARIABLES; v++) {
                if (!nil[v] && least[v] > greatest[v]) {
                    return false;
                }
            }
            return true;
        }

        int property(int v, int what) {
            if (!isVariable(v)) {
                return NONE;
            }
            if (what == 2) {
                return nil[v] ? 1 : 0;
            }
            if (least[v] > greatest[v]) {
                return NONE;
            }
            return what == 0 ? least[v] : greatest[v];
        }

        void applyActs(Block block) {
            for (int i = 0; i < block.acts && i < ACTS; i++) {
                if (isVariable(block.variable[i])) {
                    applyAct(block.kind[i], block.variable[i], block.operand[i]);
                }
            }
        }

        private void applyAct(int kind, int v, int nOrW) {
            switch (kind) {
                case SET:
                    setNumbers(v, nOrW, nOrW);
                    nil[v] = false;
                    break;
                case ADD:
                    shift(v, nOrW);
                    break;
                case SUB:
                    shift(v, -nOrW);
                    break;
                case MOVE:
                    if (isVariable(nOrW)) {
                        copyVariable(v, this, nOrW);
                    }
                    break;
                case READ:
                    setNumbers(v, 0, TOP);
                    nil[v] = true;
                    break;
                default:
                    break;
            }
        }

        private void setNumbers(int v, int from, int to) {
            least[v] = from;
            greatest[v] = to;
        }

        private void shift(int v, int by) {
            if (least[v] <= greatest[v]) {
                least[v] = Math.max(0, Math.min(TOP, least[v] + by));
                greatest[v] = Math.max(0, Math.min(TOP, greatest[v] + by));
            }
        }

        private void copyVariable(int v, Ranges other, int w) {
            least[v] = other.least[w];
            greatest[v] = other.greatest[w];
            nil[v] = other.nil[w];
        }

        private void cut(int v, int from, int to) {
            if (from > least[v]) {
                least[v] = from;
            }
            if (to < greatest[v]) {
                greatest[v] = to;
            }
            if (least[v] > greatest[v]) {
                least[v] = ABOVE;
                greatest[v] = BELOW;
            }
        }

        void followSide(Block block, int side) {
            int v = block.left;
            int x = block.right;
            if (!block.isTest() || !isVariable(v)) {
                return;
            }
            if (!block.rightIsVariable) {
                if (block.ending == LESS) {
                    lessNumber(v, x, side);
                } else {
                    equalNumber(v, x, side);
                }
            } else if (isVariable(x)) {
                if (block.ending == LESS) {
                    lessVariable(v, x, side);
                } else {
                    equalVariable(v, x, side);
                }
            }
        }

        private void lessNumber(int v, int x, int side) {
            if (side == 0) {
                cut(v, 0, x - 1);
                nil[v] = false;
            } else {
                cut(v, x, TOP);
            }
        }

        // The bounds are taken before the first cut, since v and x may be the same variable.
        private void lessVariable(int v, int x, int side) {
            if (side == 0) {
                int above = least[v] + 1;
                int below = greatest[x] - 1;
                cut(v, 0, below);
                cut(x, above, TOP);
                nil[v] = false;
                nil[x] = false;
            } else if (!nil[v] && !nil[x]) {
                int from = least[x];
                int to = greatest[v];
                cut(v, from, TOP);
                cut(x, 0, to);
            }
        }

        private void equalNumber(int v, int x, int side) {
            if (side == 0) {
                cut(v, x, x);
                nil[v] = false;
            } else if (least[v] == x) {
                cut(v, x + 1, TOP);
            } else if (greatest[v] == x) {
                cut(v, 0, x - 1);
            }
        }

        private void equalVariable(int v, int x, int side) {
            if (side == 0) {
                int from = Math.max(least[v], least[x]);
                int to = Math.min(greatest[v], greatest[x]);
                cut(v, from, to);
                cut(x, from, to);
                nil[v] = false;
                nil[x] = false;
            }
        }
    }

    /** The ranges of a program: the least fixed point, reached by growing from nothing. */
    private static final class Flow {
        static final int EDGES = SIDES * CURRENT_ROOM;
        // A round goes on only if some range before a block grew, which each can at most some 50 times.
        static final int ROUNDS = 60 * VARIABLES * CURRENT_ROOM;

        final Ranges[] before = new Ranges[CURRENT_ROOM];
        final Ranges[] along = new Ranges[EDGES];
        final boolean[] reached = new boolean[CURRENT_ROOM];
        final boolean[] waiting = new boolean[CURRENT_ROOM];
        final boolean[] open = new boolean[EDGES];
        final int[] outcomes = new int[EDGES];
        final Ranges after = new Ranges();
        final Ranges trial = new Ranges();

        Flow() {
            for (int b = 0; b < CURRENT_ROOM; b++) {
                before[b] = new Ranges();
            }
            for (int e = 0; e < EDGES; e++) {
                along[e] = new Ranges();
            }
        }

        void solve(Program program) {
            startFromNothing();
            if (program.size == 0) {
                return;
            }
            before[0].setAll(true);
            reached[0] = true;
            waiting[0] = true;
            boolean growing = true;
            for (int round = 0; round < ROUNDS && growing; round++) {
                growing = false;
                for (int b = 0; b < CURRENT_ROOM; b++) {
                    if (waiting[b]) {
                        waiting[b] = false;
                        growing = true;
                        leave(b, program.at(b));
                    }
                }
            }
        }

        private void startFromNothing() {
            for (int b = 0; b < CURRENT_ROOM; b++) {
                before[b].setAll(false);
                reached[b] = false;
                waiting[b] = false;
            }
            for (int e = 0; e < EDGES; e++) {
                open[e] = false;
            }
        }

        private void leave(int b, Block block) {
            after.copyFrom(before[b]);
            after.applyActs(block);
            for (int side = 0; side < block.edges() && side < SIDES; side++) {
                int e = SIDES * b + side;
                along[e].copyFrom(after);
                along[e].followSide(block, side);
                if (along[e].leavesEachSomething()) {
                    open[e] = true;
                    enter(block.target(side), along[e]);
                }
            }
        }

        private void enter(int b, Ranges ranges) {
            if (b >= 0 && b < CURRENT_ROOM) {
                boolean grown = before[b].join(ranges);
                if (grown || !reached[b]) {
                    reached[b] = true;
                    waiting[b] = true;
                }
            }
        }

        boolean isReached(int b) {
            return b >= 0 && b < CURRENT_ROOM && reached[b];
        }

        boolean isOpen(int b, int side) {
            return isReached(b) && side >= 0 && side < SIDES && open[SIDES * b + side];
        }

        int reachedBlocks() {
            int found = 0;
            for (int b = 0; b < CURRENT_ROOM; b++) {
                found += reached[b] ? 1 : 0;
            }
            return found;
        }

        int openEdges() {
            int found = 0;
            for (int e = 0; e < EDGES; e++) {
                found += open[e] ? 1 : 0;
            }
            return found;
        }

        int knownTests(Program program) {
            int found = 0;
            for (int b = 0; b < program.size; b++) {
                found += isKnownTest(program, b) ? 1 : 0;
            }
            return found;
        }

        boolean isKnownTest(Program program, int b) {
            return isReached(b) && program.at(b).isTest() && outcomeAt(b) != 0;
        }

        // Only for a reached block with a test.
        int outcomeAt(int b) {
            return outcomeOf(isOpen(b, 0), isOpen(b, 1));
        }

        // Only for an open edge to a block with a test.
        int outcomeAlong(int b, int side) {
            return isOpen(b, side) ? outcomes[SIDES * b + side] : 0;
        }

        // Not found on demand, since calls from there would go too deep.
        void lookAhead(Program program) {
            for (int e = 0; e < EDGES; e++) {
                Block next = program.at(program.at(e / SIDES).target(e % SIDES));
                if (open[e] && next.isTest()) {
                    after.copyFrom(along[e]);
                    after.applyActs(next);
                    outcomes[e] = outcomeOf(opensAfter(next, 0), opensAfter(next, 1));
                }
            }
        }

        private boolean opensAfter(Block block, int side) {
            trial.copyFrom(after);
            trial.followSide(block, side);
            return trial.leavesEachSomething();
        }

        private static int outcomeOf(boolean firstIsOpen, boolean secondIsOpen) {
            if (firstIsOpen == secondIsOpen) {
                return 0;
            }
            return firstIsOpen ? 1 : 2;
        }
    }

    /** Dominators and heads, by edges alone, shut ones included. Sets of blocks are masks of bits. */
    private static final class Paths {
        final int[] nexts = new int[CURRENT_ROOM];
        final int[] dominators = new int[CURRENT_ROOM];
        int reachable = 0;
        int heads = 0;

        void solve(Program program) {
            for (int b = 0; b < CURRENT_ROOM; b++) {
                nexts[b] = nextsOf(program.at(b));
                dominators[b] = 0;
            }
            reachable = program.size == 0 ? 0 : reachedWithin(-1);
            for (int a = 0; a < CURRENT_ROOM; a++) {
                addDominator(a);
            }
            heads = 0;
            for (int b = 0; b < CURRENT_ROOM; b++) {
                heads |= nexts[b] & dominators[b];
            }
        }

        private static int nextsOf(Block block) {
            int mask = 0;
            for (int side = 0; side < block.edges(); side++) {
                mask |= 1 << block.target(side);
            }
            return mask;
        }

        private int reachedWithin(int allowed) {
            int seen = allowed & 1;
            boolean growing = true;
            for (int round = 0; round < CURRENT_ROOM && growing; round++) {
                int had = seen;
                for (int b = 0; b < CURRENT_ROOM; b++) {
                    if ((seen >> b & 1) != 0) {
                        seen |= nexts[b] & allowed;
                    }
                }
                growing = seen != had;
            }
            return seen;
        }

        private void addDominator(int a) {
            int cutOff = reachable & ~reachedWithin(~(1 << a));
            for (int b = 0; b < CURRENT_ROOM; b++) {
                if ((cutOff >> b & 1) != 0) {
                    dominators[b] |= 1 << a;
                }
            }
        }

        boolean isDominated(int b, int a) {
            return b >= 0 && b < CURRENT_ROOM && (dominators[b] >> a & 1) != 0;
        }

        boolean isHead(int b) {
            return (heads >> b & 1) != 0;
        }

        // The immediate one is dominated by exactly the others that dominate b, and itself.
        int immediateDominator(int b) {
            if (b < 0 || b >= CURRENT_ROOM) {
                return NONE;
            }
            int others = dominators[b] & ~(1 << b);
            for (int a = 0; a < CURRENT_ROOM; a++) {
                if ((others >> a & 1) != 0 && dominators[a] == others) {
                    return a;
                }
            }
            return NONE;
        }
    }

    /** One run of a program, and what it left. */
    private static final class Run {
        static final int MOST_BLOCKS = 60;

        final int[] values = new int[VARIABLES];
        final int[] visited = new int[MOST_BLOCKS];
        final int[] written = new int[MOST_BLOCKS * ACTS];
        int entered;
        int acts;
        int tests;
        int outputs;
        int reads;
        boolean stopped;

        void follow(Program program, int[] inputs) {
            startWithNil();
            stopped = program.size == 0;
            int b = 0;
            while (!stopped && entered < MOST_BLOCKS) {
                Block block = program.at(b);
                visited[entered] = b;
                entered++;
                for (int i = 0; i < block.acts && i < ACTS; i++) {
                    doAct(block.kind[i], block.variable[i], block.operand[i], inputs);
                }
                b = doEnd(block);
            }
        }

        private void startWithNil() {
            for (int v = 0; v < VARIABLES; v++) {
                values[v] = NIL;
            }
            entered = 0;
            acts = 0;
            tests = 0;
            outputs = 0;
            reads = 0;
        }

        private void doAct(int kind, int v, int nOrW, int[] inputs) {
            if (!isVariable(v)) {
                return;
            }
            acts++;
            switch (kind) {
                case SET:
                    values[v] = nOrW;
                    break;
                case ADD:
                    values[v] = values[v] == NIL ? NIL : Math.min(TOP, values[v] + nOrW);
                    break;
                case SUB:
                    values[v] = values[v] == NIL ? NIL : Math.max(0, values[v] - nOrW);
                    break;
                case MOVE:
                    values[v] = valueOf(nOrW);
                    break;
                case READ:
                    values[v] = reads >= 0 && reads < inputs.length ? inputs[reads] : NIL;
                    reads++;
                    break;
                default:
                    output(values[v]);
                    break;
            }
        }

        private int valueOf(int v) {
            return isVariable(v) ? values[v] : NIL;
        }

        private void output(int value) {
            if (outputs >= 0 && outputs < written.length) {
                written[outputs] = value;
                outputs++;
            }
        }

        private int doEnd(Block block) {
            if (block.isTest()) {
                tests++;
                return block.target(holds(block) ? 0 : 1);
            }
            stopped = block.ending == STOP;
            return block.target(0);
        }

        private boolean holds(Block block) {
            int left = valueOf(block.left);
            int right = block.rightIsVariable ? valueOf(block.right) : block.right;
            if (left == NIL || right == NIL) {
                return false;
            }
            return block.ending == LESS ? left < right : left == right;
        }

        int property(int what) {
            switch (what) {
                case 0: return entered;
                case 1: return acts;
                case 2: return tests;
                case 3: return outputs;
                case 4: return stopped ? 1 : 0;
                case 9: return reads;
                default: return valueOf(what - 5);
            }
        }
    }

    /** Pseudo-random draws, and a block made from them. */
    private static final class Dice {
        int seed = 0;

        int next(int modulo) {
            seed = seed * 1103515245 + 12345;
            int drawn = seed >> 16 & 32767;
            return modulo > 0 ? drawn % modulo : 0;
        }

        void makeBlock(Block block, int blocks) {
            int acts = next(4);
            for (int i = 0; i < acts; i++) {
                makeAct(block);
            }
            makeEnd(block);
            for (int side = 0; side < block.edges(); side++) {
                block.aim(side, next(blocks));
            }
        }

        private void makeAct(Block block) {
            int kind = next(6);
            int v = next(VARIABLES);
            int nOrW = 0;
            switch (kind) {
                case SET:
                    nOrW = next(TOP + 1);
                    break;
                case ADD:
                case SUB:
                    nOrW = next(5);
                    break;
                case MOVE:
                    nOrW = next(VARIABLES);
                    break;
                default:
                    break;
            }
            block.addAct(kind, v, nOrW);
        }

        private void makeEnd(Block block) {
            int drawn = next(5);
            block.ending = drawn == 4 ? LESS : drawn;
            if (block.isTest()) {
                block.left = next(VARIABLES);
                int g = next(32768);
                block.rightIsVariable = g % 2 != 0;
                block.right = g / 8 % (block.rightIsVariable ? VARIABLES : TOP + 1);
            }
        }
    }

    /** An array of bytes, shorts or ints, or a missing one. */
    private static final class Sheet {
        static final int ROOM = 40;
        static final int MISSING = -1;

        final int[] cells = new int[ROOM];
        int type = MISSING;
        int length = 0;

        boolean isMissing() {
            return type == MISSING;
        }

        void create(int lane, int n) {
            type = lane;
            length = n;
            for (int i = 0; i < ROOM; i++) {
                cells[i] = 0;
            }
        }

        private boolean hasIndex(int i) {
            return i >= 0 && i < length && i < ROOM;
        }

        boolean put(int i, int v) {
            if (!hasIndex(i)) {
                return false;
            }
            cells[i] = type == 0 ? (byte) v : type == 1 ? (short) v : v;
            return true;
        }

        int element(int i) {
            return hasIndex(i) ? cells[i] : 0;
        }

        int faultAt(int lane, int i) {
            if (isMissing()) {
                return 1;
            }
            if (type != lane) {
                return 3;
            }
            return hasIndex(i) ? 0 : 2;
        }
    }
}
