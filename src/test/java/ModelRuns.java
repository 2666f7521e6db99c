import java.util.ArrayDeque;
import java.util.ArrayList;
import java.util.Arrays;
import java.util.Collections;
import java.util.Deque;
import java.util.HashSet;
import java.util.LinkedHashMap;
import java.util.List;
import java.util.Map;
import java.util.Random;
import java.util.Set;
import java.util.TreeSet;
import java.util.regex.Matcher;
import java.util.regex.Pattern;

/**
 * Runs of calls, the same ones in each run of this test, against a model of the document that is
 * built of lists and sets, and against what mathematics says of planar graphs.
 */
public final class ModelRuns {
    private static final int NO_SUCH = -1;
    private static final int BAD_VALUE = -2;
    private static final int TOO_MANY = -3;
    private static final int NOT_POSSIBLE = -4;
    private static final int NONE = -5;
    private static int wrong = 0;
    private static final List<String> calls = new ArrayList<>();

    private ModelRuns() {
    }

    private static void due(String call, double got, double want) {
        if (got != want) {
            wrong++;
            if (wrong <= 20) {
                System.out.println(String.join(", ", calls) + ": " + call + " answered " + got
                        + ", due is " + want);
            }
        }
    }

    private static boolean vertex(int v) {
        return v >= 0 && v <= 9;
    }

    /** A block with its embedding: cycles of vertices, in lists. */
    private static final class Block {
        final Set<List<Integer>> edges;
        final TreeSet<Integer> vertices = new TreeSet<>();
        final Set<List<Integer>> placedEdges = new HashSet<>();
        final TreeSet<Integer> placed = new TreeSet<>();
        final List<List<Integer>> faces = new ArrayList<>();
        boolean planar = true;

        Block(Set<List<Integer>> edges) {
            this.edges = edges;
            for (List<Integer> edge : edges) {
                vertices.addAll(edge);
            }
            if (edges.size() == 1) {
                placedEdges.addAll(edges);
            } else {
                embed();
            }
        }

        static List<Integer> edge(int a, int b) {
            return List.of(Math.min(a, b), Math.max(a, b));
        }

        List<Integer> leastEdge(Set<List<Integer>> set) {
            List<Integer> least = null;
            for (List<Integer> e : set) {
                if (least == null || e.get(0) < least.get(0)
                        || (e.get(0).equals(least.get(0)) && e.get(1) < least.get(1))) {
                    least = e;
                }
            }
            return least;
        }

        /** The paths come out of the queue by length, and in lexicographic order. */
        List<Integer> shortest(int from, Set<Integer> targets, Set<List<Integer>> usable,
                Set<Integer> between) {
            Deque<List<Integer>> queue = new ArrayDeque<>();
            Set<Integer> met = new HashSet<>();
            queue.add(List.of(from));
            met.add(from);
            while (!queue.isEmpty()) {
                List<Integer> path = queue.remove();
                int end = path.get(path.size() - 1);
                if (path.size() > 1 && targets.contains(end)) {
                    return path;
                }
                for (int v : vertices) {
                    if (!met.contains(v) && usable.contains(edge(end, v))
                            && (targets.contains(v) || between.contains(v))) {
                        met.add(v);
                        List<Integer> longer = new ArrayList<>(path);
                        longer.add(v);
                        queue.add(longer);
                    }
                }
            }
            throw new IllegalStateException("no path");
        }

        void place(List<Integer> path) {
            placed.addAll(path);
            for (int i = 1; i < path.size(); i++) {
                placedEdges.add(edge(path.get(i - 1), path.get(i)));
            }
        }

        List<Set<List<Integer>>> fragments() {
            List<Set<List<Integer>>> found = new ArrayList<>();
            Set<List<Integer>> left = new HashSet<>(edges);
            left.removeAll(placedEdges);
            while (!left.isEmpty()) {
                List<Integer> least = leastEdge(left);
                Set<List<Integer>> fragment = new HashSet<>();
                fragment.add(least);
                boolean grows = true;
                while (grows) {
                    grows = false;
                    for (List<Integer> e : left) {
                        if (!fragment.contains(e) && meetsInside(fragment, e)) {
                            fragment.add(e);
                            grows = true;
                        }
                    }
                }
                left.removeAll(fragment);
                found.add(fragment);
            }
            return found;
        }

        boolean meetsInside(Set<List<Integer>> fragment, List<Integer> edge) {
            for (List<Integer> e : fragment) {
                for (int v : e) {
                    if (edge.contains(v) && !placed.contains(v)) {
                        return true;
                    }
                }
            }
            return false;
        }

        TreeSet<Integer> contacts(Set<List<Integer>> fragment) {
            TreeSet<Integer> found = new TreeSet<>();
            for (List<Integer> e : fragment) {
                found.addAll(e);
            }
            found.retainAll(placed);
            return found;
        }

        List<Integer> fits(Set<List<Integer>> fragment) {
            List<Integer> found = new ArrayList<>();
            for (int f = 0; f < faces.size(); f++) {
                if (faces.get(f).containsAll(contacts(fragment))) {
                    found.add(f);
                }
            }
            return found;
        }

        void embed() {
            List<Integer> first = leastEdge(edges);
            Set<List<Integer>> others = new HashSet<>(edges);
            others.remove(first);
            List<Integer> cycle = new ArrayList<>();
            cycle.add(first.get(0));
            List<Integer> path = shortest(first.get(1), Set.of(first.get(0)), others, vertices);
            place(path);
            placedEdges.add(first);
            cycle.addAll(path.subList(0, path.size() - 1));
            faces.add(cycle);
            List<Integer> back = new ArrayList<>(cycle);
            Collections.reverse(back);
            faces.add(back);
            while (placedEdges.size() < edges.size()) {
                Set<List<Integer>> chosen = null;
                List<Set<List<Integer>>> all = fragments();
                for (Set<List<Integer>> fragment : all) {
                    int number = fits(fragment).size();
                    if (number == 0) {
                        planar = false;
                        return;
                    }
                    if (number == 1 && chosen == null) {
                        chosen = fragment;
                    }
                }
                if (chosen == null) {
                    chosen = all.get(0);
                }
                placeIn(chosen, fits(chosen).get(0));
            }
        }

        void placeIn(Set<List<Integer>> fragment, int number) {
            TreeSet<Integer> targets = contacts(fragment);
            int u = targets.pollFirst();
            Set<Integer> between = new HashSet<>(vertices);
            between.removeAll(placed);
            List<Integer> path = shortest(u, targets, fragment, between);
            place(path);
            int w = path.get(path.size() - 1);
            List<Integer> inner = path.subList(1, path.size() - 1);
            List<Integer> face = new ArrayList<>(faces.get(number));
            Collections.rotate(face, -face.indexOf(u));
            int split = face.indexOf(w);
            List<Integer> kept = new ArrayList<>(face.subList(0, split + 1));
            List<Integer> reversed = new ArrayList<>(inner);
            Collections.reverse(reversed);
            kept.addAll(reversed);
            List<Integer> added = new ArrayList<>(face.subList(split, face.size()));
            added.add(u);
            added.addAll(inner);
            faces.set(number, kept);
            faces.add(added);
        }

        int successor(int v, int x) {
            if (edges.size() == 1) {
                return x;
            }
            for (List<Integer> face : faces) {
                int size = face.size();
                for (int i = 0; i < size; i++) {
                    if (face.get(i) == x && face.get((i + 1) % size) == v) {
                        return face.get((i + 2) % size);
                    }
                }
            }
            throw new IllegalStateException("no successor");
        }

        int mask() {
            int mask = 0;
            for (int v : vertices) {
                mask |= 1 << v;
            }
            return mask;
        }
    }

    /** A graph and all that the queries ask of it. */
    private static final class Graph {
        final boolean[][] edge;
        final List<Block> blocks = new ArrayList<>();
        final int[] depth = new int[10];
        final int[] low = new int[10];
        final Deque<List<Integer>> stack = new ArrayDeque<>();
        final Map<List<Integer>, Integer> walkOf = new LinkedHashMap<>();
        final List<List<Integer>> walks = new ArrayList<>();
        int components = 0;
        boolean planar = true;

        Graph(boolean[][] edge) {
            this.edge = edge;
            List<Set<List<Integer>>> found = new ArrayList<>();
            for (int v = 0; v < 10; v++) {
                if (depth[v] == 0) {
                    components++;
                    visit(v, -1, 1, found);
                }
            }
            for (int a = 0; a < 10; a++) {
                for (int b = a + 1; b < 10; b++) {
                    for (Set<List<Integer>> set : found) {
                        if (set.contains(List.of(a, b)) && blockOf(a, b) < 0) {
                            blocks.add(new Block(set));
                        }
                    }
                }
            }
            for (Block block : blocks) {
                planar &= block.planar;
            }
        }

        /** The blocks by a depth-first search with a stack of edges. */
        void visit(int v, int parent, int level, List<Set<List<Integer>>> found) {
            depth[v] = level;
            low[v] = level;
            for (int w = 0; w < 10; w++) {
                if (!edge[v][w] || w == parent) {
                    continue;
                }
                if (depth[w] == 0) {
                    List<Integer> e = Block.edge(v, w);
                    stack.push(e);
                    visit(w, v, level + 1, found);
                    low[v] = Math.min(low[v], low[w]);
                    if (low[w] >= level) {
                        Set<List<Integer>> block = new HashSet<>();
                        while (!block.contains(e)) {
                            block.add(stack.pop());
                        }
                        found.add(block);
                    }
                } else if (depth[w] < level) {
                    stack.push(Block.edge(v, w));
                    low[v] = Math.min(low[v], depth[w]);
                }
            }
        }

        int blockOf(int a, int b) {
            for (int i = 0; i < blocks.size(); i++) {
                if (blocks.get(i).edges.contains(Block.edge(a, b))) {
                    return i;
                }
            }
            return -1;
        }

        int edges() {
            int number = 0;
            for (Block block : blocks) {
                number += block.edges.size();
            }
            return number;
        }

        List<Integer> order(int v) {
            List<Integer> order = new ArrayList<>();
            for (Block block : blocks) {
                if (block.vertices.contains(v)) {
                    int x = 0;
                    while (!block.edges.contains(Block.edge(x, v))) {
                        x++;
                    }
                    while (!order.contains(x)) {
                        order.add(x);
                        x = block.successor(v, x);
                    }
                }
            }
            return order;
        }

        int next(int v, int x) {
            List<Integer> order = order(v);
            return order.get((order.indexOf(x) + 1) % order.size());
        }

        void walk() {
            for (int v = 0; v < 10; v++) {
                for (int w = 0; w < 10; w++) {
                    if (edge[v][w] && !walkOf.containsKey(List.of(v, w))) {
                        List<Integer> walk = new ArrayList<>();
                        List<Integer> dart = List.of(v, w);
                        while (!walkOf.containsKey(dart)) {
                            walkOf.put(dart, walks.size());
                            walk.add(dart.get(0));
                            dart = List.of(dart.get(1), next(dart.get(1), dart.get(0)));
                        }
                        walks.add(walk);
                    }
                }
            }
        }

        static boolean[][] copy(boolean[][] edge) {
            boolean[][] copy = new boolean[10][];
            for (int v = 0; v < 10; v++) {
                copy[v] = edge[v].clone();
            }
            return copy;
        }

        static boolean planarFlipped(boolean[][] edge, int a, int b) {
            boolean[][] other = copy(edge);
            other[a][b] = !other[a][b];
            other[b][a] = other[a][b];
            return new Graph(other).planar;
        }

        boolean[][] forbidden() {
            boolean[][] left = copy(edge);
            for (int a = 0; a < 10; a++) {
                for (int b = a + 1; b < 10; b++) {
                    if (left[a][b] && !planarFlipped(left, a, b)) {
                        left[a][b] = false;
                        left[b][a] = false;
                    }
                }
            }
            return left;
        }
    }

    /** The whole object, as the document tells it. */
    private static final class Model {
        private static final Pattern LIST = Pattern.compile(
                "(?:add|drop|flip) ([0-9])-(?!\\1)[0-9](?:;(?:add|drop|flip) ([0-9])-(?!\\2)[0-9])*");

        record State(boolean[][] edge, int added, int dropped) {
        }

        boolean[][] edge = new boolean[10][10];
        int added = 0;
        int dropped = 0;
        String text = "";
        State snapshot = null;
        final Deque<State> history = new ArrayDeque<>();

        State state() {
            return new State(Graph.copy(edge), added, dropped);
        }

        void become(State state) {
            edge = Graph.copy(state.edge());
            added = state.added();
            dropped = state.dropped();
        }

        void record() {
            history.addLast(state());
            if (history.size() > 5) {
                history.removeFirst();
            }
        }

        int edges() {
            int number = 0;
            for (boolean[] row : edge) {
                for (boolean e : row) {
                    number += e ? 1 : 0;
                }
            }
            return number / 2;
        }

        void flip(int a, int b) {
            if (edge[a][b]) {
                dropped++;
            } else {
                added++;
            }
            edge[a][b] = !edge[a][b];
            edge[b][a] = edge[a][b];
        }

        int add(int a, int b) {
            if (!vertex(a) || !vertex(b)) {
                return NO_SUCH;
            }
            if (a == b) {
                return BAD_VALUE;
            }
            if (edge[a][b]) {
                return NOT_POSSIBLE;
            }
            record();
            flip(a, b);
            return edges();
        }

        int drop(int a, int b) {
            if (!vertex(a) || !vertex(b) || !edge[a][b]) {
                return NO_SUCH;
            }
            record();
            flip(a, b);
            return edges();
        }

        int clear() {
            record();
            int number = edges();
            dropped += number;
            edge = new boolean[10][10];
            return number;
        }

        int complete() {
            if (!new Graph(edge).planar) {
                return NOT_POSSIBLE;
            }
            record();
            int number = 0;
            for (int a = 0; a < 10; a++) {
                for (int b = a + 1; b < 10; b++) {
                    if (!edge[a][b] && Graph.planarFlipped(edge, a, b)) {
                        flip(a, b);
                        number++;
                    }
                }
            }
            return number;
        }

        int append(int character) {
            if (character < 32 || character > 126) {
                return BAD_VALUE;
            }
            if (text.length() == 80) {
                return TOO_MANY;
            }
            text += (char) character;
            return text.length();
        }

        int clearText() {
            int length = text.length();
            text = "";
            return length;
        }

        /** The first prefix with which no list begins: neither a match nor one that could go on. */
        int fault() {
            for (int end = 1; end <= text.length(); end++) {
                Matcher matcher = LIST.matcher(text.substring(0, end));
                if (!matcher.matches() && !matcher.hitEnd()) {
                    return end - 1;
                }
            }
            return LIST.matcher(text).matches() ? NONE : text.length();
        }

        int run() {
            if (fault() != NONE) {
                return -100 - fault();
            }
            record();
            int number = 0;
            for (String edit : text.split(";")) {
                String[] words = edit.split("[ -]");
                int a = Integer.parseInt(words[1]);
                int b = Integer.parseInt(words[2]);
                if (!words[0].equals(edge[a][b] ? "add" : "drop")) {
                    flip(a, b);
                    number++;
                }
            }
            return number;
        }

        int undo() {
            if (history.isEmpty()) {
                return NONE;
            }
            become(history.removeLast());
            return history.size();
        }

        int save() {
            snapshot = state();
            return edges();
        }

        int restore() {
            if (snapshot == null) {
                return NOT_POSSIBLE;
            }
            record();
            become(snapshot);
            return edges();
        }
    }

    private static int code(boolean exists, boolean planar, int answer) {
        return !exists ? NO_SUCH : !planar ? NOT_POSSIBLE : answer;
    }

    private static void compareCounts(PlanarityTester x, Model m, Graph g) {
        int cuts = 0;
        for (int v = 0; v < 10; v++) {
            int number = 0;
            int mask = 0;
            for (Block block : g.blocks) {
                number += block.vertices.contains(v) ? 1 : 0;
            }
            cuts += number > 1 ? 1 : 0;
            for (int w = 0; w < 10; w++) {
                mask |= m.edge[v][w] ? 1 << w : 0;
            }
            due("neighbors(" + v + ")", x.neighbors(v), mask);
        }
        int bridges = 0;
        for (Block block : g.blocks) {
            bridges += block.edges.size() == 1 ? 1 : 0;
        }
        int[] counts = {m.edges(), g.components, g.blocks.size(), cuts, bridges, m.added,
            m.dropped, m.history.size(), m.text.length(), BAD_VALUE};
        for (int what = 0; what < counts.length; what++) {
            due("count(" + what + ")", x.count(what), counts[what]);
        }
        due("density()", x.density(), m.edges() / 24.0);
        due("fault()", x.fault(), m.fault());
        due("planar()", x.planar(), g.planar ? 1 : 0);
    }

    private static void compareBlocks(PlanarityTester x, Graph g) {
        for (int i = 0; i <= g.blocks.size(); i++) {
            boolean there = i < g.blocks.size();
            Block b = there ? g.blocks.get(i) : null;
            int[] infos = there ? new int[] {b.mask(), b.edges.size(), b.planar ? 1 : 0,
                b.planar ? Math.max(1, b.faces.size()) : NONE, b.placedEdges.size(), BAD_VALUE}
                    : new int[] {NO_SUCH, NO_SUCH, NO_SUCH, NO_SUCH, NO_SUCH, NO_SUCH};
            for (int what = 0; what < infos.length; what++) {
                due("blockInfo(" + i + ", " + what + ")", x.blockInfo(i, what), infos[what]);
            }
        }
    }

    private static void comparePairs(PlanarityTester x, Model m, Graph g) {
        boolean[][] forbidden = g.planar ? null : g.forbidden();
        for (int a = -1; a <= 10; a++) {
            for (int b = -1; b <= 10; b++) {
                boolean there = vertex(a) && vertex(b) && m.edge[a][b];
                String pair = "(" + a + ", " + b + ")";
                due("block" + pair, x.block(a, b), there ? g.blockOf(a, b) : NO_SUCH);
                due("next" + pair, x.next(a, b),
                        code(there, g.planar, there && g.planar ? g.next(a, b) : 0));
                due("walkOf" + pair, x.walkOf(a, b),
                        code(there, g.planar, there && g.planar ? g.walkOf.get(List.of(a, b)) : 0));
                due("inForbidden" + pair, x.inForbidden(a, b),
                        !there ? NO_SUCH : g.planar ? NONE : forbidden[a][b] ? 1 : 0);
            }
        }
        int[] infos = {NONE, NONE, NONE, NONE, BAD_VALUE};
        if (!g.planar) {
            Arrays.fill(infos, 0, 4, 0);
            for (int v = 0; v < 10; v++) {
                int degree = degree(forbidden, v);
                infos[0] += degree;
                infos[1] |= degree > 0 ? 1 << v : 0;
                infos[2] |= degree > 2 ? 1 << v : 0;
                infos[3] += degree > 2 ? 1 : 0;
            }
            infos[0] /= 2;
            due("certificate of the forbidden subgraph", isObstruction(x) ? 1 : 0, 1);
        }
        for (int what = 0; what < infos.length; what++) {
            due("forbidden(" + what + ")", x.forbidden(what), infos[what]);
        }
    }

    private static int degree(boolean[][] edge, int v) {
        int degree = 0;
        for (int w = 0; w < 10; w++) {
            degree += edge[v][w] ? 1 : 0;
        }
        return degree;
    }

    private static void compareWalks(PlanarityTester x, Graph g) {
        if (!g.planar) {
            due("walks()", x.walks(), NOT_POSSIBLE);
            due("walkLength(0)", x.walkLength(0), NOT_POSSIBLE);
            due("walkVertex(-1, -1)", x.walkVertex(-1, -1), NOT_POSSIBLE);
            return;
        }
        due("walks()", x.walks(), g.walks.size());
        int isolated = 0;
        for (int v = 0; v < 10; v++) {
            isolated += degree(g.edge, v) == 0 ? 1 : 0;
        }
        due("walks() by Euler's formula", x.walks(),
                g.edges() - (10 - isolated) + 2 * (g.components - isolated));
        for (int i = -1; i <= g.walks.size(); i++) {
            boolean there = i >= 0 && i < g.walks.size();
            List<Integer> walk = there ? g.walks.get(i) : List.of();
            due("walkLength(" + i + ")", x.walkLength(i), there ? walk.size() : NO_SUCH);
            for (int place = -1; place <= walk.size(); place++) {
                due("walkVertex(" + i + ", " + place + ")", x.walkVertex(i, place),
                        place >= 0 && place < walk.size() ? walk.get(place) : NO_SUCH);
            }
        }
    }

    /** Whether the program's forbidden subgraph becomes a K5 or K3,3 without vertices of degree 2. */
    private static boolean isObstruction(PlanarityTester x) {
        boolean[][] edge = new boolean[10][10];
        for (int a = 0; a < 10; a++) {
            for (int b = 0; b < 10; b++) {
                edge[a][b] = x.inForbidden(a, b) == 1;
            }
        }
        for (int v = 0; v < 10; v++) {
            if (degree(edge, v) == 2) {
                int a = 0;
                while (!edge[v][a]) {
                    a++;
                }
                int b = a + 1;
                while (!edge[v][b]) {
                    b++;
                }
                if (edge[a][b]) {
                    return false;
                }
                edge[a][v] = edge[v][a] = edge[b][v] = edge[v][b] = false;
                edge[a][b] = edge[b][a] = true;
            }
        }
        List<Integer> branches = new ArrayList<>();
        for (int v = 0; v < 10; v++) {
            if (degree(edge, v) > 0) {
                branches.add(v);
            }
        }
        if (branches.size() == 5) {
            for (int v : branches) {
                if (degree(edge, v) != 4) {
                    return false;
                }
            }
            return true;
        }
        if (branches.size() != 6) {
            return false;
        }
        int first = branches.get(0);
        for (int v : branches) {
            for (int w : branches) {
                boolean sameSide = edge[first][v] == edge[first][w];
                if (edge[v][w] == sameSide) {
                    return false;
                }
            }
        }
        return true;
    }

    private static void compareFlips(PlanarityTester x, Model m) {
        for (int a = -1; a <= 10; a++) {
            int joinable = 0;
            for (int b = -1; b <= 10; b++) {
                int want = !vertex(a) || !vertex(b) ? NO_SUCH : a == b ? BAD_VALUE
                        : Graph.planarFlipped(m.edge, a, b) ? 1 : 0;
                due("ifFlipped(" + a + ", " + b + ")", x.ifFlipped(a, b), want);
                joinable |= want == 1 && !m.edge[a][b] ? 1 << b : 0;
            }
            due("joinable(" + a + ")", x.joinable(a), vertex(a) ? joinable : NO_SUCH);
        }
    }

    private static void compareAll(PlanarityTester x, Model m, boolean flips) {
        Graph g = new Graph(m.edge);
        if (g.planar) {
            g.walk();
        }
        compareCounts(x, m, g);
        compareBlocks(x, g);
        comparePairs(x, m, g);
        compareWalks(x, g);
        if (flips) {
            compareFlips(x, m);
        }
        compareCounts(x, m, g);
    }

    /** A text that is a list of edits, at times with one wrong character. */
    private static String someText(Random random) {
        StringBuilder text = new StringBuilder();
        String[] words = {"add ", "drop ", "flip "};
        int edits = 1 + random.nextInt(11);
        for (int i = 0; i < edits; i++) {
            text.append(i == 0 ? "" : ";").append(words[random.nextInt(3)]);
            int a = random.nextInt(10);
            int b = (a + 1 + random.nextInt(random.nextInt(8) == 0 ? 10 : 9)) % 10;
            text.append(a).append('-').append(b);
        }
        if (random.nextInt(3) == 0) {
            String signs = "adropflip -;0123456789x~ A";
            text.setCharAt(random.nextInt(text.length()), signs.charAt(random.nextInt(26)));
        }
        return text.toString();
    }

    private static void write(PlanarityTester x, Model m, String text) {
        calls.add("clearText()");
        due("clearText()", x.clearText(), m.clearText());
        calls.add("the text '" + text + "'");
        for (int i = 0; i < text.length(); i++) {
            due("append(" + text.charAt(i) + ")", x.append(text.charAt(i)), m.append(text.charAt(i)));
            due("fault()", x.fault(), m.fault());
        }
    }

    /** One call on both; the weights decide between thick and thin graphs. */
    private static void act(PlanarityTester x, Model m, Random random, int addWeight) {
        int choice = random.nextInt(addWeight + 16);
        int a = random.nextInt(10);
        int b = random.nextInt(10);
        if (random.nextInt(20) == 0) {
            a = random.nextInt(14) - 2;
        }
        String pair = "(" + a + ", " + b + ")";
        if (choice < addWeight) {
            calls.add("add" + pair);
            due("add" + pair, x.add(a, b), m.add(a, b));
        } else if (choice < addWeight + 6) {
            calls.add("drop" + pair);
            due("drop" + pair, x.drop(a, b), m.drop(a, b));
        } else if (choice < addWeight + 9) {
            calls.add("undo()");
            due("undo()", x.undo(), m.undo());
        } else if (choice < addWeight + 11) {
            calls.add("save()");
            due("save()", x.save(), m.save());
        } else if (choice < addWeight + 12) {
            calls.add("restore()");
            due("restore()", x.restore(), m.restore());
        } else if (choice < addWeight + 13) {
            write(x, m, someText(random));
        } else if (choice < addWeight + 15) {
            calls.add("run()");
            due("run()", x.run(), m.run());
        } else if (random.nextInt(3) == 0) {
            calls.add("complete()");
            due("complete()", x.complete(), m.complete());
        } else if (random.nextInt(4) == 0) {
            calls.add("clear()");
            due("clear()", x.clear(), m.clear());
        }
    }

    private static void runOfActions(int seed) {
        Random random = new Random(seed);
        PlanarityTester x = new PlanarityTester();
        Model m = new Model();
        calls.clear();
        int addWeight = 10 + random.nextInt(60);
        for (int i = 0; i < 60; i++) {
            act(x, m, random, addWeight);
            if (i % 4 == 3) {
                compareAll(x, m, i % 20 == 19);
            }
        }
    }

    /** Graphs with a chosen number of edges, so that those about to be planar are met often. */
    private static void runOfGraph(int seed) {
        Random random = new Random(seed);
        PlanarityTester x = new PlanarityTester();
        Model m = new Model();
        calls.clear();
        int vertices = 4 + random.nextInt(7);
        int edges = random.nextInt(vertices * (vertices - 1) / 2 + 1);
        if (random.nextInt(3) > 0) {
            edges = vertices - 1 + random.nextInt(2 * vertices);
        }
        for (int i = 0; i < edges; i++) {
            int a = random.nextInt(vertices);
            int b = random.nextInt(vertices);
            calls.add("add(" + a + ", " + b + ")");
            due("add(" + a + ", " + b + ")", x.add(a, b), m.add(a, b));
        }
        compareAll(x, m, seed % 8 == 0);
        if (seed % 2 == 0) {
            calls.add("complete()");
            due("complete()", x.complete(), m.complete());
            for (int i = 0; i < seed % 5; i++) {
                int a = random.nextInt(10);
                int b = random.nextInt(10);
                calls.add("drop(" + a + ", " + b + ")");
                due("drop(" + a + ", " + b + ")", x.drop(a, b), m.drop(a, b));
            }
            compareAll(x, m, false);
        }
    }

    public static void main(String[] args) {
        int runs = args.length > 0 ? Integer.parseInt(args[0]) : 300;
        for (int seed = 0; seed < runs; seed++) {
            runOfActions(seed);
            for (int i = 0; i < 4; i++) {
                runOfGraph(4 * seed + i);
            }
        }
        System.out.println(runs + " runs, " + wrong + " wrong answers");
        if (wrong != 0) {
            System.exit(1);
        }
    }
}
