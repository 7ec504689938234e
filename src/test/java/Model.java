import java.util.ArrayList;
import java.util.Arrays;
import java.util.List;
import java.util.function.IntPredicate;
import java.util.regex.Matcher;
import java.util.regex.Pattern;

/**
 * A second telling of the document, plain and slow and in another form than the class: sets of values
 * in place of bounds, rounds over everything in place of a worklist. ModelTest compares the two.
 */
final class Model {
    static final int BAD = -1, STATE = -2, FULL = -3, NONE = -4, NIL = 51;

    record Act(int kind, int v, int n) { }

    record Block(List<Act> acts, int end, int v, boolean variable, int x, List<Integer> to, int origin) {
        boolean test() {
            return end >= 2;
        }

        Block leading(int side, int t) {
            List<Integer> changed = new ArrayList<>(to);
            changed.set(side, t);
            return new Block(acts, end, v, variable, x, changed, origin);
        }

        Block going(int t) {
            return new Block(acts, 1, 0, false, 0, List.of(t), origin);
        }

        Block from(int b) {
            return new Block(acts, end, v, variable, x, to, b);
        }
    }

    static final class Fault extends Exception {
        private static final long serialVersionUID = 1L;
        final int number;
        final int position;

        Fault(int number, int position) {
            this.number = number;
            this.position = position;
        }
    }

    private final StringBuilder tape = new StringBuilder();
    private List<Block> original = new ArrayList<>();
    private List<Block> current = new ArrayList<>();
    private final List<List<Block>> images = new ArrayList<>(Arrays.asList(null, null));
    private final int[] inputs = new int[8];
    private final long[][] arrays = new long[4][];
    private final int[] types = new int[4];
    private int limit = 4, fault = 0, torn = 0;
    private boolean[][][] ranges = null;

    Model() {
        Arrays.fill(inputs, NIL);
    }

    // ---- the text

    int feed(int c) {
        if (c < 0 || c > 127) {
            return BAD;
        }
        if (tape.length() == 200) {
            return FULL;
        }
        return tape.append((char) c).length();
    }

    int end(int n) {
        if (n < 0 || n > tape.length()) {
            return BAD;
        }
        int had = tape.length();
        tape.setLength(n);
        return had;
    }

    int text() {
        String text = tape.toString();
        tape.setLength(0);
        try {
            List<Block> blocks = new Grammar(text).blocks();
            fault = 0;
            original = blocks;
            anew();
            return blocks.size();
        } catch (Fault met) {
            fault = met.number;
            return -10 - met.position;
        }
    }

    int fault() {
        return fault;
    }

    private static final class Grammar {
        private static final Pattern TOKEN = Pattern.compile("[a-z]+|[0-9]+|[;<=]");
        private static final List<String> ACTS = List.of("set", "add", "sub", "move", "read", "write");
        private static final List<String> ENDS = List.of("stop", "go", "if");
        private final String text;
        private int at = 0;

        Grammar(String text) {
            this.text = text;
        }

        List<Block> blocks() throws Fault {
            List<Block> all = new ArrayList<>();
            for (String token = peek(); token != null; token = peek()) {
                if (all.size() == 8) {
                    throw new Fault(Character.isLetter(token.charAt(0)) ? 5 : 2, at);
                }
                all.add(block(all.size()));
            }
            for (Block block : all) {
                for (int t : block.to) {
                    if (t >= all.size()) {
                        throw new Fault(6, text.length());
                    }
                }
            }
            return all;
        }

        private Block block(int number) throws Fault {
            List<Act> acts = new ArrayList<>();
            while (ACTS.contains(word(peek()))) {
                if (acts.size() == 4) {
                    throw new Fault(5, at);
                }
                int kind = ACTS.indexOf(take());
                int v = variable();
                acts.add(new Act(kind, v, kind < 3 ? number(50) : kind == 3 ? variable() : 0));
            }
            if (!ENDS.contains(word(peek()))) {
                throw new Fault(2, at);
            }
            String end = take();
            Block block;
            if (end.equals("stop")) {
                block = new Block(acts, 0, 0, false, 0, List.of(), number);
            } else if (end.equals("go")) {
                block = new Block(acts, 1, 0, false, 0, List.of(number(7)), number);
            } else {
                int v = variable();
                String sign = word(peek());
                if (!sign.equals("<") && !sign.equals("=")) {
                    throw new Fault(2, at);
                }
                take();
                String x = word(peek());
                boolean isNumber = !x.isEmpty() && Character.isDigit(x.charAt(0));
                int right = isNumber ? number(50) : variable();
                int first = number(7);
                block = new Block(acts, sign.equals("<") ? 2 : 3, v, !isNumber, right, List.of(first, number(7)), number);
            }
            if (!word(peek()).equals(";")) {
                throw new Fault(2, at);
            }
            take();
            return block;
        }

        private static String word(String token) {
            return token == null ? "" : token;
        }

        private int variable() throws Fault {
            if (!word(peek()).matches("[a-d]")) {
                throw new Fault(2, at);
            }
            return take().charAt(0) - 'a';
        }

        private int number(int top) throws Fault {
            if (!word(peek()).matches("[0-9]+")) {
                throw new Fault(2, at);
            }
            if (Integer.parseInt(peek()) > top) {
                throw new Fault(3, at);
            }
            return Integer.parseInt(take());
        }

        /** The token at hand, null at the end of the text; moves over blanks alone. */
        private String peek() throws Fault {
            while (at < text.length() && text.charAt(at) == ' ') {
                at++;
            }
            if (at == text.length()) {
                return null;
            }
            Matcher matcher = TOKEN.matcher(text).region(at, text.length());
            if (!matcher.lookingAt() || matcher.group().matches("[0-9]{3,}")) {
                throw new Fault(1, at);
            }
            return matcher.group();
        }

        private String take() throws Fault {
            String token = peek();
            at += token.length();
            return token;
        }
    }

    // ---- programs

    private List<Block> chosen(int p) {
        return p == 0 ? original : current;
    }

    private static boolean in(int value, int top) {
        return value >= 0 && value <= top;
    }

    private void anew() {
        current = new ArrayList<>(original);
        images.set(0, null);
        images.set(1, null);
        ranges = null;
    }

    private boolean edge(List<Block> program, int b, int side) {
        return in(b, program.size() - 1) && in(side, program.get(b).to.size() - 1);
    }

    int program(int p, int what) {
        if (!in(p, 1) || !in(what, 8)) {
            return BAD;
        }
        List<Block> asked = chosen(p);
        switch (what) {
            case 0: return asked.size();
            case 1: return asked.stream().mapToInt(b -> b.acts.size()).sum();
            case 2: return (int) asked.stream().filter(Block::test).count();
            case 3: return asked.stream().mapToInt(b -> b.to.size()).sum();
            default: return p == 0 ? NONE : found(what);
        }
    }

    private int found(int what) {
        int found = 0;
        for (int b = 0; b < current.size(); b++) {
            if (what == 4 && outcome(b) != STATE) {
                found++;
            }
            if (what == 6 && loop(b, 0) == 1) {
                found++;
            }
            if (what == 8 && outcome(b) > 0) {
                found++;
            }
            for (int side = 0; side < current.get(b).to.size(); side++) {
                if (what == 5 && along(b, side, 0, 2) != STATE) {
                    found++;
                }
                if (what == 7 && why(b, side) == 0) {
                    found++;
                }
            }
        }
        return found;
    }

    int block(int p, int b, int what) {
        if (!in(p, 1) || !in(what, 7) || !in(b, chosen(p).size() - 1)) {
            return BAD;
        }
        Block asked = chosen(p).get(b);
        switch (what) {
            case 0: return asked.acts.size();
            case 1: return asked.end;
            case 2: return asked.to.size() > 0 ? asked.to.get(0) : NONE;
            case 3: return asked.to.size() > 1 ? asked.to.get(1) : NONE;
            case 4: return asked.test() ? asked.v : NONE;
            case 5: return asked.test() ? asked.variable ? 1 : 0 : NONE;
            case 6: return asked.test() ? asked.x : NONE;
            default: return asked.origin;
        }
    }

    int act(int p, int b, int i, int what) {
        if (!in(p, 1) || !in(what, 2) || !in(b, chosen(p).size() - 1) || i < 0) {
            return BAD;
        }
        List<Act> acts = chosen(p).get(b).acts;
        if (i >= acts.size()) {
            return NONE;
        }
        Act act = acts.get(i);
        return what == 0 ? act.kind : what == 1 ? act.v : act.kind < 4 ? act.n : NONE;
    }

    // ---- ranges: for each variable 52 flags, one a value; the numbers have no gaps

    private static boolean[] only(IntPredicate wanted) {
        boolean[] set = new boolean[52];
        for (int value = 0; value <= NIL; value++) {
            set[value] = wanted.test(value);
        }
        return closed(set);
    }

    private static int least(boolean[] set) {
        for (int value = 0; value < NIL; value++) {
            if (set[value]) {
                return value;
            }
        }
        return NONE;
    }

    private static int greatest(boolean[] set) {
        for (int value = NIL - 1; value >= 0; value--) {
            if (set[value]) {
                return value;
            }
        }
        return NONE;
    }

    private static boolean[] closed(boolean[] set) {
        int to = greatest(set);
        for (int value = least(set); value >= 0 && value <= to; value++) {
            set[value] = true;
        }
        return set;
    }

    private static boolean[][] afterActs(boolean[][] before, Block block) {
        boolean[][] after = new boolean[4][];
        for (int v = 0; v < 4; v++) {
            after[v] = before[v].clone();
        }
        for (Act act : block.acts) {
            boolean[] old = after[act.v];
            boolean[] changed = new boolean[52];
            for (int value = 0; value <= NIL; value++) {
                if (act.kind == 0) {
                    changed[value] = value == act.n;
                } else if (act.kind == 3) {
                    changed[value] = after[act.n][value];
                } else if (act.kind == 4) {
                    changed[value] = true;
                } else if (old[value]) {
                    changed[applied(act, value)] = true;
                }
            }
            after[act.v] = closed(changed);
        }
        return after;
    }

    private static int applied(Act act, int value) {
        if (value == NIL || act.kind == 5) {
            return value;
        }
        return act.kind == 1 ? Math.min(50, value + act.n) : Math.max(0, value - act.n);
    }

    private static boolean[][] alongSide(boolean[][] after, Block block, int side) {
        boolean[][] result = after.clone();
        if (!block.test()) {
            return result;
        }
        int v = block.v;
        int x = block.x;
        boolean[] ofV = after[v];
        if (!block.variable) {
            if (block.end == 2) {
                result[v] = only(n -> ofV[n] && (side == 0 ? n < x : n >= x));
            } else {
                result[v] = only(n -> ofV[n] && (side == 0) == (n == x));
            }
            return result;
        }
        boolean[] ofX = after[x];
        boolean none = least(ofV) == NONE || least(ofX) == NONE;
        if (block.end == 2 && side == 0) {
            restrict(result, v, n -> !none && n < greatest(ofX));
            restrict(result, x, n -> !none && n != NIL && n > least(ofV));
        } else if (block.end == 2 && !ofV[NIL] && !ofX[NIL]) {
            restrict(result, v, n -> n >= least(ofX));
            restrict(result, x, n -> n <= greatest(ofV));
        } else if (block.end == 3 && side == 0) {
            restrict(result, v, n -> n != NIL && ofX[n]);
            restrict(result, x, n -> n != NIL && ofV[n]);
        }
        return result;
    }

    private static void restrict(boolean[][] state, int v, IntPredicate wanted) {
        boolean[] old = state[v];
        state[v] = only(n -> old[n] && wanted.test(n));
    }

    private static boolean possible(boolean[][] state) {
        for (boolean[] set : state) {
            if (least(set) == NONE && !set[NIL]) {
                return false;
            }
        }
        return true;
    }

    /** The ranges before each block; null for a block that is not reached. */
    private boolean[][][] ranges() {
        if (ranges == null) {
            ranges = new boolean[current.size()][][];
            boolean[][][] next = onceMore(ranges);
            while (!Arrays.deepEquals(ranges, next)) {
                ranges = next;
                next = onceMore(ranges);
            }
        }
        return ranges;
    }

    private boolean[][][] onceMore(boolean[][][] old) {
        boolean[][][] next = new boolean[current.size()][][];
        for (int b = 0; b < current.size(); b++) {
            if (b == 0) {
                next[0] = new boolean[4][];
                for (int v = 0; v < 4; v++) {
                    next[0][v] = only(n -> n == NIL);
                }
            }
            for (int a = 0; a < current.size(); a++) {
                for (int side = 0; side < current.get(a).to.size(); side++) {
                    boolean[][] edge = old[a] == null ? null : alongSide(afterActs(old[a], current.get(a)), current.get(a), side);
                    if (current.get(a).to.get(side) == b && edge != null && possible(edge)) {
                        next[b] = next[b] == null ? new boolean[4][52] : next[b];
                        for (int v = 0; v < 4; v++) {
                            for (int n = 0; n <= NIL; n++) {
                                next[b][v][n] |= edge[v][n];
                            }
                            closed(next[b][v]);
                        }
                    }
                }
            }
        }
        return next;
    }

    private static int property(boolean[] set, int what) {
        return what == 0 ? least(set) : what == 1 ? greatest(set) : set[NIL] ? 1 : 0;
    }

    int range(int b, int v, int what) {
        if (!in(b, current.size() - 1) || !in(v, 3) || !in(what, 2)) {
            return BAD;
        }
        return ranges()[b] == null ? STATE : property(ranges()[b][v], what);
    }

    /** The ranges along an edge; null if it is shut. */
    private boolean[][] openEdge(int b, int side) {
        if (ranges()[b] == null) {
            return null;
        }
        boolean[][] edge = alongSide(afterActs(ranges()[b], current.get(b)), current.get(b), side);
        return possible(edge) ? edge : null;
    }

    int along(int b, int side, int v, int what) {
        if (!edge(current, b, side) || !in(v, 3) || !in(what, 2)) {
            return BAD;
        }
        boolean[][] edge = openEdge(b, side);
        return edge == null ? STATE : property(edge[v], what);
    }

    private static int outcomeFrom(boolean[][] before, Block block) {
        boolean[][] after = afterActs(before, block);
        boolean first = possible(alongSide(after, block, 0));
        boolean second = possible(alongSide(after, block, 1));
        return first && second ? 0 : first ? 1 : 2;
    }

    int outcome(int b) {
        if (!in(b, current.size() - 1)) {
            return BAD;
        }
        if (ranges()[b] == null) {
            return STATE;
        }
        return current.get(b).test() ? outcomeFrom(ranges()[b], current.get(b)) : NONE;
    }

    int known(int b, int side) {
        if (!edge(current, b, side)) {
            return BAD;
        }
        boolean[][] edge = openEdge(b, side);
        if (edge == null) {
            return STATE;
        }
        Block next = current.get(current.get(b).to.get(side));
        return next.test() ? outcomeFrom(edge, next) : NONE;
    }

    int why(int b, int side) {
        if (!edge(current, b, side)) {
            return BAD;
        }
        int known = known(b, side);
        int t = current.get(b).to.get(side);
        if (known == STATE) {
            return 1;
        }
        if (known == NONE) {
            return 2;
        }
        if (known == 0) {
            return 3;
        }
        if (loop(t, 0) == 1) {
            return 4;
        }
        if (current.get(t).acts.size() > limit) {
            return 5;
        }
        return current.size() == 16 ? 6 : 0;
    }

    private boolean reaches(int b, int without) {
        List<Integer> seen = new ArrayList<>();
        if (without != 0) {
            seen.add(0);
        }
        for (int i = 0; i < seen.size(); i++) {
            for (int t : current.get(seen.get(i)).to) {
                if (t != without && !seen.contains(t)) {
                    seen.add(t);
                }
            }
        }
        return seen.contains(b);
    }

    int dominates(int a, int b) {
        if (!in(a, current.size() - 1) || !in(b, current.size() - 1)) {
            return BAD;
        }
        return reaches(a, -1) && reaches(b, -1) && !reaches(b, a) ? 1 : 0;
    }

    int loop(int b, int what) {
        if (!in(b, current.size() - 1) || !in(what, 1)) {
            return BAD;
        }
        if (what == 0) {
            for (int a = 0; a < current.size(); a++) {
                if (current.get(a).to.contains(b) && dominates(b, a) == 1) {
                    return 1;
                }
            }
            return 0;
        }
        for (int a = 0; a < current.size(); a++) {
            if (a != b && dominates(a, b) == 1) {
                boolean last = true;
                for (int c = 0; c < current.size(); c++) {
                    last &= c == b || c == a || dominates(c, b) == 0 || dominates(c, a) == 1;
                }
                if (last) {
                    return a;
                }
            }
        }
        return NONE;
    }

    // ---- threading, folding, removing

    int thread(int b, int side) {
        if (!edge(current, b, side)) {
            return BAD;
        }
        if (why(b, side) != 0) {
            return STATE;
        }
        Block next = current.get(current.get(b).to.get(side));
        Block copy = next.going(next.to.get(known(b, side) - 1));
        current.add(copy);
        current.set(b, current.get(b).leading(side, current.size() - 1));
        ranges = null;
        return current.size() - 1;
    }

    int threads(int n) {
        if (n < 1 || n > 16) {
            return BAD;
        }
        int done = 0;
        while (done < n && threadFirst()) {
            done++;
        }
        return done;
    }

    private boolean threadFirst() {
        for (int b = 0; b < current.size(); b++) {
            for (int side = 0; side < 2; side++) {
                if (why(b, side) == 0) {
                    thread(b, side);
                    return true;
                }
            }
        }
        return false;
    }

    int fold() {
        List<Block> folded = new ArrayList<>(current);
        int count = 0;
        for (int b = 0; b < current.size(); b++) {
            if (outcome(b) > 0) {
                folded.set(b, current.get(b).going(current.get(b).to.get(outcome(b) - 1)));
                count++;
            }
        }
        current = folded;
        ranges = null;
        return count;
    }

    int sweep() {
        List<Integer> stay = new ArrayList<>();
        for (int b = 0; b < current.size(); b++) {
            if (reaches(b, -1)) {
                stay.add(b);
            }
        }
        List<Block> swept = new ArrayList<>();
        for (int b : stay) {
            Block block = current.get(b);
            for (int side = 0; side < block.to.size(); side++) {
                block = block.leading(side, stay.indexOf(block.to.get(side)));
            }
            swept.add(block);
        }
        int removed = current.size() - swept.size();
        current = swept;
        ranges = null;
        return removed;
    }

    int limit(int v) {
        if (!in(v, 4)) {
            return BAD;
        }
        int had = limit;
        limit = v;
        return had;
    }

    // ---- runs

    int input(int i, int v) {
        if (!in(i, 7) || !in(v, NIL)) {
            return BAD;
        }
        int had = inputs[i];
        inputs[i] = v;
        return had;
    }

    private static final class Run {
        final List<Integer> path = new ArrayList<>();
        final List<Integer> outputs = new ArrayList<>();
        final int[] values = {NIL, NIL, NIL, NIL};
        int acts = 0, tests = 0, reads = 0;
        boolean stopped = false;

        Run(List<Block> program, int[] inputs) {
            int b = program.isEmpty() ? -1 : 0;
            while (b >= 0 && path.size() < 60) {
                path.add(b);
                b = next(program.get(b), inputs);
            }
            stopped = b < 0;
        }

        private int next(Block block, int[] inputs) {
            for (Act act : block.acts) {
                acts++;
                switch (act.kind) {
                    case 0: values[act.v] = act.n; break;
                    case 1: case 2: values[act.v] = applied(act, values[act.v]); break;
                    case 3: values[act.v] = values[act.n]; break;
                    case 4: values[act.v] = reads < 8 ? inputs[reads] : NIL; reads++; break;
                    default: outputs.add(values[act.v]); break;
                }
            }
            if (!block.test()) {
                return block.end == 0 ? -1 : block.to.get(0);
            }
            tests++;
            int left = values[block.v];
            int right = block.variable ? values[block.x] : block.x;
            boolean numbers = left != NIL && right != NIL;
            boolean holds = numbers && (block.end == 2 ? left < right : left == right);
            return block.to.get(holds ? 0 : 1);
        }
    }

    int ran(int p, int what) {
        if (!in(p, 1) || !in(what, 9)) {
            return BAD;
        }
        Run run = new Run(chosen(p), inputs);
        int[] properties = {run.path.size(), run.acts, run.tests, run.outputs.size(), run.stopped ? 1 : 0,
            run.values[0], run.values[1], run.values[2], run.values[3], run.reads};
        return properties[what];
    }

    int wrote(int p, int i) {
        if (!in(p, 1) || i < 0) {
            return BAD;
        }
        List<Integer> outputs = new Run(chosen(p), inputs).outputs;
        return i < outputs.size() ? outputs.get(i) : NONE;
    }

    int path(int p, int i) {
        if (!in(p, 1) || i < 0) {
            return BAD;
        }
        List<Integer> path = new Run(chosen(p), inputs).path;
        return i < path.size() ? path.get(i) : NONE;
    }

    private int seed;

    private int drawn(int modulo) {
        seed = seed * 1103515245 + 12345;
        return ((seed >> 16) & 32767) % modulo;
    }

    int saved(int firstSeed, int n) {
        if (n < 1 || n > 10) {
            return BAD;
        }
        seed = firstSeed;
        int sum = 0;
        for (int i = 0; i < n; i++) {
            int[] drawn = new int[8];
            for (int k = 0; k < 8; k++) {
                drawn[k] = drawn(52);
            }
            sum += new Run(original, drawn).tests - new Run(current, drawn).tests;
        }
        return sum;
    }

    // ---- changes of the original

    int lead(int b, int side, int t) {
        if (!edge(original, b, side) || !in(t, original.size() - 1)) {
            return BAD;
        }
        int had = original.get(b).to.get(side);
        original.set(b, original.get(b).leading(side, t));
        anew();
        return had;
    }

    int draw(int firstSeed, int n) {
        if (n < 1 || n > 8) {
            return BAD;
        }
        seed = firstSeed;
        original = new ArrayList<>();
        for (int b = 0; b < n; b++) {
            List<Act> acts = new ArrayList<>();
            for (int left = drawn(4); left > 0; left--) {
                int kind = drawn(6);
                int v = drawn(4);
                acts.add(new Act(kind, v, kind == 0 ? drawn(51) : kind < 3 ? drawn(5) : kind == 3 ? drawn(4) : 0));
            }
            int end = new int[] {0, 1, 2, 3, 2}[drawn(5)];
            int v = end > 1 ? drawn(4) : 0;
            int g = end > 1 ? drawn(32768) : 0;
            List<Integer> to = new ArrayList<>();
            for (int side = 0; side < new int[] {0, 1, 2, 2}[end]; side++) {
                to.add(drawn(n));
            }
            original.add(new Block(acts, end, v, g % 2 == 1, g % 2 == 1 ? g / 8 % 4 : g / 8 % 51, to, b));
        }
        anew();
        return program(0, 2);
    }

    // ---- images, arrays

    int keep(int k) {
        if (!in(k, 1)) {
            return BAD;
        }
        return images.set(k, new ArrayList<>(current)) == null ? 0 : 1;
    }

    int back(int k) {
        if (!in(k, 1)) {
            return BAD;
        }
        if (images.get(k) == null) {
            return STATE;
        }
        current = new ArrayList<>(images.get(k));
        ranges = null;
        return current.size();
    }

    int sheet(int k, int lane, int n) {
        if (!in(k, 3) || !in(lane, 2) || n > 40) {
            return BAD;
        }
        if (n < 0) {
            return -14;
        }
        arrays[k] = new long[n];
        types[k] = lane;
        return 1;
    }

    int lay(int k, int i, int v) {
        if (!in(k, 3)) {
            return BAD;
        }
        if (arrays[k] == null) {
            return -11;
        }
        if (i < 0 || i >= arrays[k].length) {
            return -12;
        }
        int bits = new int[] {8, 16, 32}[types[k]];
        arrays[k][i] = ((long) v << 64 - bits) >> 64 - bits;
        return 1;
    }

    int read(int k, int lane, int f, int n) {
        if (!in(k, 3) || !in(lane, 2) || !in(n, 8)) {
            return BAD;
        }
        List<Integer> got = new ArrayList<>();
        int met = 0;
        for (long i = f; i < (long) f + n && met == 0; i++) {
            if (arrays[k] == null) {
                met = 1;
            } else if (types[k] != lane) {
                met = 3;
            } else if (i < 0 || i >= arrays[k].length) {
                met = 2;
            } else if (arrays[k][(int) i] < 0 || arrays[k][(int) i] > NIL) {
                return -20 - got.size();
            } else {
                got.add((int) arrays[k][(int) i]);
            }
        }
        for (int i = 0; i < got.size(); i++) {
            inputs[i] = got.get(i);
        }
        torn = met;
        return got.size();
    }

    int torn() {
        return torn;
    }

    int count(int what) {
        switch (what) {
            case 0: return (images.get(0) != null ? 1 : 0) + (images.get(1) != null ? 1 : 0);
            case 1: return tape.length();
            case 2: return (int) Arrays.stream(inputs).filter(v -> v == NIL).count();
            case 3: return arrays[0] == null ? NONE : arrays[0].length;
            case 4: return limit;
            default: return BAD;
        }
    }
}
