import java.util.ArrayDeque;
import java.util.ArrayList;
import java.util.Arrays;
import java.util.Deque;
import java.util.List;
import java.util.Set;
import java.util.TreeSet;

/**
 * The document done over in the plainest way that could be found, to be compared with LaneDesk:
 * a run in step is done anew from its beginning for every call, and a lane alone, too, with every X.
 */
final class PlainDesk {
    private static final String OPERATORS = "+-*<=&";

    private String text = "";
    private List<Node> kernel = null;
    private Set<Integer> varying = new TreeSet<>();
    private int place = -1;
    private final int[] inputs = new int[16];
    private int lanes = 8;
    private World together = null;
    private World apart = null;

    int type(long word, int n) {
        if (n < 1 || n > 8) {
            throw new IllegalArgumentException();
        }
        StringBuilder more = new StringBuilder();
        for (int k = n - 1; k >= 0; k--) {
            char c = (char) (word >> 8 * k & 255);
            if (c < 33 || c > 126) {
                throw new IllegalArgumentException();
            }
            more.append(c);
        }
        if (text.length() + n > 160) {
            throw new IllegalStateException();
        }
        text += more;
        return text.length();
    }

    void clear() {
        text = "";
    }

    int compile() {
        place = firstWrong(text);
        if (place >= 0) {
            return 1;
        }
        List<Node> nodes = new Tree(text).block(null);
        Set<Integer> found = whatVaries(nodes);
        for (Node node : all(nodes)) {
            if (node.kind == 'X' && isParted(node, found)) {
                place = node.place;
                return 2;
            }
        }
        kernel = nodes;
        varying = found;
        together = null;
        apart = null;
        return 0;
    }

    int place() {
        return place;
    }

    boolean varies(int v) {
        needKernel();
        if (v < 0 || v > 7) {
            throw new IllegalArgumentException();
        }
        return varying.contains(v);
    }

    void input(int i, int v) {
        if (i < 0 || i > 15) {
            throw new IllegalArgumentException();
        }
        needQuiet();
        inputs[i] = v;
    }

    void lanes(int n) {
        if (n < 1 || n > 8) {
            throw new IllegalArgumentException();
        }
        needQuiet();
        lanes = n;
    }

    void start() {
        needKernel();
        together = inStep(0);
    }

    int run(int fuel) {
        needStarted();
        if (fuel < 1 || fuel > 500) {
            throw new IllegalArgumentException();
        }
        if (!together.over) {
            together = inStep(together.issued + fuel);
        }
        return together.over ? 1 : 0;
    }

    int mask() {
        int bits = 0;
        if (together != null) {
            for (int lane : together.next) {
                bits += 1 << lane;
            }
        }
        return bits;
    }

    int spent(int what) {
        if (what != 0 && what != 1) {
            throw new IllegalArgumentException();
        }
        needStarted();
        return what == 0 ? together.issued : together.busy;
    }

    int alone(int fuel) {
        needKernel();
        if (fuel < 1 || fuel > 4000) {
            throw new IllegalArgumentException();
        }
        apart = allAlone(fuel);
        return apart == null ? 0 : 1;
    }

    int lane(boolean alone, int lane, int what) {
        if (lane < 0 || lane > 7 || what < 0 || what > 2) {
            throw new IllegalArgumentException();
        }
        World world = worldOf(alone);
        switch (what) {
            case 0: return world.numbers.get(lane).size();
            case 1: return world.traps[lane];
            default: return world.over || world.stopped.contains(lane) ? 1 : 0;
        }
    }

    int out(boolean alone, int lane, int k) {
        if (lane < 0 || lane > 7) {
            throw new IllegalArgumentException();
        }
        List<Integer> numbers = worldOf(alone).numbers.get(lane);
        if (k < 0 || k >= 20 || k >= numbers.size()) {
            throw new IndexOutOfBoundsException();
        }
        return numbers.get(k);
    }

    int cell(boolean alone, int lane, int k) {
        if (lane < 0 || lane > 7 || k < 0 || k > 15) {
            throw new IllegalArgumentException();
        }
        World world = worldOf(alone);
        return k < 8 ? world.cells[lane][k] : world.variables[lane][k - 8];
    }

    private World worldOf(boolean alone) {
        World world = alone ? apart : together;
        if (world == null) {
            throw new IllegalStateException();
        }
        return world;
    }

    private void needKernel() {
        if (kernel == null) {
            throw new IllegalStateException();
        }
    }

    private void needStarted() {
        if (together == null) {
            throw new IllegalStateException();
        }
    }

    private void needQuiet() {
        if (together != null && !together.over) {
            throw new IllegalStateException();
        }
    }

    /** Character by character with what may come next, so that nothing is read ahead; -1 when all is right. */
    static int firstWrong(String text) {
        Deque<Character> blocks = new ArrayDeque<>();
        Deque<Character> brackets = new ArrayDeque<>();
        String state = "statement";
        char tail = ';';
        int digits = 0;
        for (int at = 0; at <= text.length(); at++) {
            char c = at < text.length() ? text.charAt(at) : 0;
            if (state.equals("second?")) {
                if (c == '{') {
                    blocks.push('!');
                    state = "statement";
                    continue;
                }
                state = "statement";
            }
            if (state.equals("number")) {
                if (c >= '0' && c <= '9' && digits < 3) {
                    digits++;
                    continue;
                }
                state = "joint";
            }
            switch (state) {
                case "statement":
                    if (c == 0) {
                        return blocks.isEmpty() ? -1 : at;
                    } else if (c == '}' && !blocks.isEmpty()) {
                        state = blocks.pop() == '?' ? "second?" : "statement";
                    } else if (c >= 'a' && c <= 'h') {
                        state = "=";
                        tail = ';';
                    } else if (c == 'O') {
                        state = "term";
                        tail = ';';
                    } else if (c == 'L') {
                        state = "L[";
                        tail = ';';
                    } else if (c == 'X') {
                        state = "v";
                        tail = ';';
                    } else if (c == 'R') {
                        state = ";";
                    } else if (c == '?' || c == '*') {
                        state = "term";
                        tail = c;
                    } else {
                        return at;
                    }
                    break;
                case "=":
                    if (c != '=') {
                        return at;
                    }
                    state = "term";
                    break;
                case ";":
                    if (c != ';') {
                        return at;
                    }
                    state = "statement";
                    break;
                case "v":
                case "w":
                    if (c < 'a' || c > 'h') {
                        return at;
                    }
                    state = state.equals("v") ? "w" : "term";
                    break;
                case "L[":
                    if (c != '[') {
                        return at;
                    }
                    brackets.push('L');
                    state = "term";
                    break;
                case "[":
                    if (c != '[' || brackets.size() == 4) {
                        return at;
                    }
                    brackets.push('[');
                    state = "term";
                    break;
                case "term":
                    if (c >= '0' && c <= '9') {
                        state = "number";
                        digits = 1;
                    } else if (c == 'n' || c >= 'a' && c <= 'h') {
                        state = "joint";
                    } else if (c == 'I' || c == 'L') {
                        state = "[";
                    } else if (c == '(' && brackets.size() < 4) {
                        brackets.push('(');
                    } else {
                        return at;
                    }
                    break;
                default:
                    if (c != 0 && OPERATORS.indexOf(c) >= 0) {
                        state = "term";
                    } else if (!brackets.isEmpty()) {
                        char open = brackets.peek();
                        if (c != (open == '(' ? ')' : ']')) {
                            return at;
                        }
                        brackets.pop();
                        state = open == 'L' ? "=" : "joint";
                    } else if (tail == ';' && c == ';') {
                        state = "statement";
                    } else if (tail != ';' && c == '{' && blocks.size() < 4) {
                        blocks.push(tail);
                        state = "statement";
                    } else {
                        return at;
                    }
                    break;
            }
        }
        throw new AssertionError(text);
    }

    private static final class Node {
        char kind;
        int place;
        int v;
        int w;
        String first;
        String second;
        List<Node> block = new ArrayList<>();
        List<Node> otherBlock = new ArrayList<>();
        Node around;
    }

    /** Cuts a text that is right into statements; expressions stay texts. */
    private static final class Tree {
        private final String text;
        private int at = 0;

        Tree(String text) {
            this.text = text;
        }

        List<Node> block(Node around) {
            List<Node> nodes = new ArrayList<>();
            while (at < text.length() && text.charAt(at) != '}') {
                nodes.add(statement(around));
            }
            at++;
            return nodes;
        }

        private Node statement(Node around) {
            Node node = new Node();
            node.around = around;
            node.place = at;
            node.kind = text.charAt(at);
            String rest = text.substring(at);
            if (node.kind == '?' || node.kind == '*') {
                int brace = rest.indexOf('{');
                node.first = rest.substring(1, brace);
                at += brace + 1;
                node.block = block(node);
                if (node.kind == '?' && at < text.length() && text.charAt(at) == '{') {
                    at++;
                    node.otherBlock = block(node);
                }
                return node;
            }
            String whole = rest.substring(0, rest.indexOf(';'));
            at += whole.length() + 1;
            if (node.kind == 'O') {
                node.first = whole.substring(1);
            } else if (node.kind == 'X') {
                node.v = whole.charAt(1) - 'a';
                node.w = whole.charAt(2) - 'a';
                node.first = whole.substring(3);
            } else if (node.kind == 'L') {
                int end = 1;
                for (int open = 0; end == 1 || open > 0; end++) {
                    open += "([".indexOf(whole.charAt(end)) >= 0 ? 1 : 0;
                    open -= ")]".indexOf(whole.charAt(end)) >= 0 ? 1 : 0;
                }
                node.first = whole.substring(2, end - 1);
                node.second = whole.substring(end + 1);
            } else if (node.kind != 'R') {
                node.kind = '=';
                node.v = whole.charAt(0) - 'a';
                node.first = whole.substring(2);
            }
            return node;
        }
    }

    private static List<Node> all(List<Node> nodes) {
        List<Node> found = new ArrayList<>();
        for (Node node : nodes) {
            found.add(node);
            found.addAll(all(node.block));
            found.addAll(all(node.otherBlock));
        }
        return found;
    }

    private static Set<Integer> whatVaries(List<Node> nodes) {
        Set<Integer> found = new TreeSet<>();
        boolean grows = true;
        while (grows) {
            grows = false;
            for (Node node : all(nodes)) {
                boolean given = node.kind == 'X'
                        || node.kind == '=' && (varies(node.first, found) || isParted(node, found));
                grows |= given && found.add(node.v);
            }
        }
        return found;
    }

    private static boolean varies(String expression, Set<Integer> found) {
        return expression.chars().anyMatch(c -> c == 'n' || c == 'L' || c >= 'a' && c <= 'h' && found.contains(c - 'a'));
    }

    private static boolean isParted(Node node, Set<Integer> found) {
        for (Node around = node.around; around != null; around = around.around) {
            if (varies(around.first, found)) {
                return true;
            }
        }
        return false;
    }

    private static final class Trap extends Exception {
        private static final long serialVersionUID = 1;
    }

    private static final class Halt extends Exception {
        private static final long serialVersionUID = 1;
    }

    private final class World {
        final int[][] variables = new int[8][8];
        final int[][] cells = new int[8][8];
        final List<List<Integer>> numbers = new ArrayList<>();
        final int[] traps = new int[8];
        final Set<Integer> stopped = new TreeSet<>();
        boolean over = false;
        Set<Integer> next = new TreeSet<>();
        int limit;
        int issued = 0;
        int busy = 0;
        /** For a lane alone: what its X were told before, and the X that it waits at now. */
        List<Integer> told = null;
        int heard = 0;
        Node waitsAt = null;

        World(int limit) {
            this.limit = limit;
            for (int lane = 0; lane < 8; lane++) {
                numbers.add(new ArrayList<>());
                if (lane >= lanes) {
                    stopped.add(lane);
                }
            }
        }

        Set<Integer> without(Set<Integer> mask) {
            Set<Integer> rest = new TreeSet<>(mask);
            rest.removeAll(stopped);
            return rest;
        }

        void issue(Set<Integer> mask) throws Halt {
            if (issued == limit) {
                next = mask;
                throw new Halt();
            }
            issued++;
            busy += mask.size();
        }

        void block(List<Node> nodes, Set<Integer> mask) throws Halt {
            for (Node node : nodes) {
                Set<Integer> now = without(mask);
                if (now.isEmpty()) {
                    return;
                }
                if (node.kind == '*') {
                    while (!now.isEmpty()) {
                        issue(now);
                        Set<Integer> agreeing = agreeing(node, now);
                        block(node.block, agreeing);
                        now = without(agreeing);
                    }
                    continue;
                }
                issue(now);
                if (node.kind == '?') {
                    Set<Integer> agreeing = agreeing(node, now);
                    Set<Integer> others = without(now);
                    others.removeAll(agreeing);
                    block(node.block, agreeing);
                    block(node.otherBlock, others);
                } else if (node.kind == 'X') {
                    exchange(node, now);
                } else {
                    for (int lane : now) {
                        simple(node, lane);
                    }
                }
            }
        }

        Set<Integer> agreeing(Node node, Set<Integer> mask) {
            Set<Integer> found = new TreeSet<>();
            for (int lane : mask) {
                try {
                    if (value(node.first, lane) != 0) {
                        found.add(lane);
                    }
                } catch (Trap e) {
                    stop(node, lane);
                }
            }
            return found;
        }

        void stop(Node node, int lane) {
            traps[lane] = node.place + 1;
            stopped.add(lane);
        }

        void simple(Node node, int lane) {
            try {
                if (node.kind == 'R') {
                    stopped.add(lane);
                } else if (node.kind == 'O') {
                    numbers.get(lane).add(value(node.first, lane));
                } else if (node.kind == '=') {
                    variables[lane][node.v] = value(node.first, lane);
                } else {
                    int k = value(node.first, lane);
                    int value = value(node.second, lane);
                    if (k < 0 || k > 7) {
                        throw new Trap();
                    }
                    cells[lane][k] = value;
                }
            } catch (Trap e) {
                stop(node, lane);
            }
        }

        void exchange(Node node, Set<Integer> mask) throws Halt {
            if (told != null) {
                hear(node, mask.iterator().next());
                return;
            }
            int[] sources = new int[8];
            int[][] before = new int[8][];
            for (int lane : mask) {
                before[lane] = variables[lane].clone();
                try {
                    sources[lane] = ((value(node.first, lane) % 8) + 8) % 8;
                } catch (Trap e) {
                    stop(node, lane);
                    before[lane] = null;
                }
            }
            for (int lane : without(mask)) {
                int[] source = before[sources[lane]];
                variables[lane][node.v] = source == null ? 0 : source[node.w];
            }
        }

        void hear(Node node, int lane) throws Halt {
            try {
                value(node.first, lane);
            } catch (Trap e) {
                stop(node, lane);
                return;
            }
            if (heard == told.size()) {
                waitsAt = node;
                throw new Halt();
            }
            variables[lane][node.v] = told.get(heard);
            heard++;
        }

        int value(String expression, int lane) throws Trap {
            return new Value(this, expression, lane).sum();
        }
    }

    /** Reckons an expression from its text. */
    private final class Value {
        private final World world;
        private final String text;
        private final int lane;
        private int at = 0;

        Value(World world, String text, int lane) {
            this.world = world;
            this.text = text;
            this.lane = lane;
        }

        int sum() throws Trap {
            int value = term();
            while (at < text.length() && OPERATORS.indexOf(text.charAt(at)) >= 0) {
                char operator = text.charAt(at++);
                int right = term();
                switch (operator) {
                    case '+': value += right; break;
                    case '-': value -= right; break;
                    case '*': value *= right; break;
                    case '<': value = value < right ? 1 : 0; break;
                    case '=': value = value == right ? 1 : 0; break;
                    default: value &= right; break;
                }
            }
            return value;
        }

        private int term() throws Trap {
            char c = text.charAt(at++);
            if (c == 'n') {
                return lane;
            }
            if (c >= 'a') {
                return world.variables[lane][c - 'a'];
            }
            if (c == '(') {
                return inside();
            }
            if (c == 'I' || c == 'L') {
                at++;
                int k = inside();
                if (k < 0 || k >= (c == 'I' ? 16 : 8)) {
                    throw new Trap();
                }
                return c == 'I' ? inputs[k] : world.cells[lane][k];
            }
            int from = at - 1;
            while (at < text.length() && Character.isDigit(text.charAt(at))) {
                at++;
            }
            return Integer.parseInt(text.substring(from, at));
        }

        private int inside() throws Trap {
            int value = sum();
            at++;
            return value;
        }
    }

    private World inStep(int limit) {
        World world = new World(limit);
        Set<Integer> mask = world.without(Set.of(0, 1, 2, 3, 4, 5, 6, 7));
        try {
            world.block(kernel, mask);
            world.over = true;
        } catch (Halt e) {
            world.over = false;
        }
        return world;
    }

    /** Null when the fuel does not do. */
    private World allAlone(int fuel) {
        List<List<Integer>> told = new ArrayList<>();
        for (int lane = 0; lane < 8; lane++) {
            told.add(new ArrayList<>());
        }
        while (true) {
            World[] each = new World[8];
            int cost = 0;
            for (int lane = 0; lane < lanes; lane++) {
                each[lane] = oneAlone(lane, told.get(lane), fuel);
                if (each[lane] == null) {
                    return null;
                }
                cost += each[lane].issued;
            }
            if (cost > fuel) {
                return null;
            }
            if (Arrays.stream(each).noneMatch(world -> world != null && world.waitsAt != null)) {
                return joined(each);
            }
            tell(each, told);
        }
    }

    private World oneAlone(int lane, List<Integer> told, int fuel) {
        World world = new World(fuel);
        world.told = told;
        try {
            world.block(kernel, Set.of(lane));
        } catch (Halt e) {
            return world.waitsAt == null ? null : world;
        }
        return world;
    }

    private void tell(World[] each, List<List<Integer>> told) {
        for (int lane = 0; lane < lanes; lane++) {
            Node node = each[lane].waitsAt;
            if (node == null) {
                continue;
            }
            try {
                World source = each[Math.floorMod(each[lane].value(node.first, lane), 8)];
                int from = Math.floorMod(each[lane].value(node.first, lane), 8);
                boolean gives = source != null && source.waitsAt != null;
                told.get(lane).add(gives ? source.variables[from][source.waitsAt.w] : 0);
            } catch (Trap e) {
                throw new AssertionError(e);
            }
        }
    }

    private World joined(World[] each) {
        World whole = new World(0);
        whole.over = true;
        for (int lane = 0; lane < lanes; lane++) {
            whole.variables[lane] = each[lane].variables[lane];
            whole.cells[lane] = each[lane].cells[lane];
            whole.numbers.set(lane, each[lane].numbers.get(lane));
            whole.traps[lane] = each[lane].traps[lane];
        }
        return whole;
    }
}
