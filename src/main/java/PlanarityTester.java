/**
 * A planarity tester for graphs with ten vertices: blocks, embeddings that are built face by face,
 * walks, forbidden subgraphs, edges that can be added, and lists of edits read from a text.
 *
 * Sets of vertices are bit masks (bit k stands for the vertex k); a set of edges is a long in which
 * the bits stand for the pairs of vertices from the least to the greatest. All rows are made once,
 * in the constructors, because all calls of a run share one small room.
 */
public final class PlanarityTester {
    public static final int NO_SUCH = -1;
    public static final int BAD_VALUE = -2;
    public static final int TOO_MANY = -3;
    public static final int NOT_POSSIBLE = -4;
    public static final int NONE = -5;

    private static final int VERTICES = 10;
    private static final int ALL_VERTICES = (1 << VERTICES) - 1;
    private static final int PAIRS = VERTICES * (VERTICES - 1) / 2;
    /** Rows with one element for each ordered pair of vertices have this length. */
    private static final int CELLS = VERTICES * VERTICES;
    private static final int MAX_PLANAR_EDGES = 3 * VERTICES - 6;
    private static final int MAX_FACES = 2 * VERTICES - 4;
    private static final int MAX_BLOCKS = VERTICES - 1;
    private static final int MAX_DARTS = 2 * MAX_PLANAR_EDGES;
    private static final int MAX_TEXT = 80;
    /** The shortest edit has 7 characters and a semicolon before the next one. */
    private static final int MAX_EDITS = (MAX_TEXT + 1) / 8;
    private static final int MAX_HISTORY = 5;
    private static final int FIRST_SIGN = 32;
    private static final int LAST_SIGN = 126;
    /** What run answers if the text has the fault 0. */
    private static final int FAULT_BASE = -100;

    private final State now = new State();
    private final State snapshot = new State();
    private boolean snapshotTaken;
    private final History history = new History();
    private final EditText text = new EditText();
    private final Plan plan = new Plan();
    /** For graphs that are only tried, so that the plan of the present graph stays. */
    private final Plan trial = new Plan();
    private final Walks cycles = new Walks();
    private final Obstruction obstruction = new Obstruction();

    public PlanarityTester() {
    }

    // ---- actions

    public int add(int a, int b) {
        if (!isVertex(a) || !isVertex(b)) {
            return NO_SUCH;
        }
        if (a == b) {
            return BAD_VALUE;
        }
        if (now.joins(a, b)) {
            return NOT_POSSIBLE;
        }
        history.remember(now);
        now.flip(a, b);
        return now.size();
    }

    public int drop(int a, int b) {
        if (!now.joins(a, b)) {
            return NO_SUCH;
        }
        history.remember(now);
        now.flip(a, b);
        return now.size();
    }

    public int clear() {
        int all = now.size();
        history.remember(now);
        now.removeAll();
        return all;
    }

    public int complete() {
        if (!plan.read(now.edges())) {
            return NOT_POSSIBLE;
        }
        history.remember(now);
        int before = now.size();
        for (int a = 0; a < VERTICES; a++) {
            for (int b = a + 1; b < VERTICES; b++) {
                if (!now.joins(a, b) && trial.read(now.edges() | pairBit(a, b))) {
                    now.flip(a, b);
                }
            }
        }
        return now.size() - before;
    }

    // ---- text

    public int append(int character) {
        if (character < FIRST_SIGN || character > LAST_SIGN) {
            return BAD_VALUE;
        }
        return text.write((char) character) ? text.length() : TOO_MANY;
    }

    public int clearText() {
        int length = text.length();
        text.erase();
        return length;
    }

    public int fault() {
        return text.scan();
    }

    public int run() {
        int fault = text.scan();
        if (fault != NONE) {
            return FAULT_BASE - fault;
        }
        history.remember(now);
        int done = 0;
        for (int i = 0; i < MAX_EDITS && i < text.edits(); i++) {
            if (carryOut(text.kindOf(i), text.firstOf(i), text.secondOf(i))) {
                done++;
            }
        }
        return done;
    }

    // ---- history and snapshot

    public int undo() {
        return history.giveBack(now) ? history.size() : NONE;
    }

    public int save() {
        snapshot.become(now.edges(), now.added(), now.dropped());
        snapshotTaken = true;
        return now.size();
    }

    public int restore() {
        if (!snapshotTaken) {
            return NOT_POSSIBLE;
        }
        history.remember(now);
        now.become(snapshot.edges(), snapshot.added(), snapshot.dropped());
        return now.size();
    }

    // ---- queries about the graph; they change nothing

    public int neighbors(int vertex) {
        if (!isVertex(vertex)) {
            return NO_SUCH;
        }
        plan.read(now.edges());
        return plan.near(vertex);
    }

    public int count(int what) {
        plan.read(now.edges());
        switch (what) {
            case 0: return now.size();
            case 1: return plan.components();
            case 2: return plan.blocks();
            case 3: return plan.cutVertices();
            case 4: return plan.bridges();
            case 5: return now.added();
            case 6: return now.dropped();
            case 7: return history.size();
            case 8: return text.length();
            default: return BAD_VALUE;
        }
    }

    public int block(int a, int b) {
        if (!now.joins(a, b)) {
            return NO_SUCH;
        }
        plan.read(now.edges());
        return plan.blockOf(a, b);
    }

    public int blockInfo(int block, int what) {
        plan.read(now.edges());
        if (block < 0 || block >= plan.blocks()) {
            return NO_SUCH;
        }
        switch (what) {
            case 0: return plan.verticesOf(block);
            case 1: return plan.edgesOf(block);
            case 2: return plan.isPlanar(block) ? 1 : 0;
            case 3: return plan.isPlanar(block) ? plan.facesOf(block) : NONE;
            case 4: return plan.placedOf(block);
            default: return BAD_VALUE;
        }
    }

    public int planar() {
        return plan.read(now.edges()) ? 1 : 0;
    }

    // ---- queries about the embedding

    public int next(int vertex, int neighbor) {
        if (!now.joins(vertex, neighbor)) {
            return NO_SUCH;
        }
        return traced() ? cycles.behind(vertex, neighbor) : NOT_POSSIBLE;
    }

    public int walks() {
        return traced() ? cycles.size() : NOT_POSSIBLE;
    }

    public int walkLength(int walk) {
        if (!traced()) {
            return NOT_POSSIBLE;
        }
        return cycles.holds(walk) ? cycles.lengthOf(walk) : NO_SUCH;
    }

    public int walkVertex(int walk, int place) {
        if (!traced()) {
            return NOT_POSSIBLE;
        }
        if (!cycles.holds(walk) || place < 0 || place >= cycles.lengthOf(walk)) {
            return NO_SUCH;
        }
        return cycles.vertexOf(walk, place);
    }

    public int walkOf(int from, int to) {
        if (!now.joins(from, to)) {
            return NO_SUCH;
        }
        return traced() ? cycles.ofDart(from, to) : NOT_POSSIBLE;
    }

    // ---- forbidden subgraphs and edges that can be added

    public int forbidden(int what) {
        if (what < 0 || what > 3) {
            return BAD_VALUE;
        }
        if (plan.read(now.edges())) {
            return NONE;
        }
        obstruction.find(now.edges(), trial);
        switch (what) {
            case 0: return obstruction.size();
            case 1: return obstruction.verticesInMoreThan(0);
            case 2: return obstruction.verticesInMoreThan(2);
            default: return Integer.bitCount(obstruction.verticesInMoreThan(2));
        }
    }

    public int inForbidden(int a, int b) {
        if (!now.joins(a, b)) {
            return NO_SUCH;
        }
        if (plan.read(now.edges())) {
            return NONE;
        }
        obstruction.find(now.edges(), trial);
        return obstruction.holds(a, b) ? 1 : 0;
    }

    public int ifFlipped(int a, int b) {
        if (!isVertex(a) || !isVertex(b)) {
            return NO_SUCH;
        }
        if (a == b) {
            return BAD_VALUE;
        }
        return trial.read(now.edges() ^ pairBit(a, b)) ? 1 : 0;
    }

    public int joinable(int vertex) {
        if (!isVertex(vertex)) {
            return NO_SUCH;
        }
        int found = 0;
        for (int other = 0; other < VERTICES; other++) {
            if (other != vertex && !now.joins(vertex, other)
                    && trial.read(now.edges() | pairBit(vertex, other))) {
                found |= bit(other);
            }
        }
        return found;
    }

    public double density() {
        return (double) now.size() / (double) MAX_PLANAR_EDGES;
    }

    // ---- help for the calls

    /** Carries out one edit; false if it finds nothing to do. */
    private boolean carryOut(char kind, int a, int b) {
        boolean there = now.joins(a, b);
        if ((kind == 'a' && there) || (kind == 'd' && !there)) {
            return false;
        }
        now.flip(a, b);
        return true;
    }

    /** Brings the walks up to the present graph; false if it is not planar. */
    private boolean traced() {
        if (!plan.read(now.edges())) {
            return false;
        }
        cycles.trace(plan);
        return true;
    }

    // ---- vertices, pairs and rows; each of these answers for any arguments

    private static boolean isVertex(int vertex) {
        return vertex >= 0 && vertex < VERTICES;
    }

    private static int bit(int vertex) {
        return vertex >= 0 && vertex < VERTICES ? 1 << vertex : 0;
    }

    private static boolean has(int set, int vertex) {
        return vertex >= 0 && vertex < VERTICES && (set >> vertex & 1) != 0;
    }

    /** The least vertex of a set, NO_SUCH if the set is empty. */
    private static int least(int set) {
        for (int v = 0; v < VERTICES; v++) {
            if ((set >> v & 1) != 0) {
                return v;
            }
        }
        return NO_SUCH;
    }

    /** The bit of the pair in a set of edges; no bit if these are not two different vertices. */
    private static long pairBit(int a, int b) {
        int low = Math.min(a, b);
        int high = Math.max(a, b);
        if (low < 0 || high >= VERTICES || low == high) {
            return 0L;
        }
        int pairsBefore = low * (2 * VERTICES - 1 - low) / 2;
        return 1L << (pairsBefore + high - low - 1);
    }

    private static int cell(int row, int column) {
        return row * VERTICES + column;
    }

    /** The element at this index, 0 if the row has no such index. */
    private static int at(int[] row, int index) {
        return index >= 0 && index < row.length ? row[index] : 0;
    }

    private static void put(int[] row, int index, int value) {
        if (index >= 0 && index < row.length) {
            row[index] = value;
        }
    }

    /** All neighbors of the vertices of a set; near holds the neighbors of each vertex. */
    private static int around(int[] near, int set) {
        int found = 0;
        for (int v = 0; v < near.length; v++) {
            if ((set >> v & 1) != 0) {
                found |= near[v];
            }
        }
        return found;
    }

    /** The vertices that paths inside the allowed set reach from the start. */
    private static int reach(int[] near, int start, int allowed) {
        int found = start & allowed;
        for (int round = 0; round < VERTICES; round++) {
            int more = found | (around(near, found) & allowed);
            if (more == found) {
                break;
            }
            found = more;
        }
        return found;
    }

    /** What actions change and undo and restore bring back. */
    private static final class State {
        private long edges;
        private int added;
        private int dropped;

        long edges() {
            return edges;
        }

        int added() {
            return added;
        }

        int dropped() {
            return dropped;
        }

        int size() {
            return Long.bitCount(edges);
        }

        boolean joins(int a, int b) {
            return (edges & pairBit(a, b)) != 0L;
        }

        void become(long newEdges, int newAdded, int newDropped) {
            edges = newEdges;
            added = newAdded;
            dropped = newDropped;
        }

        /** Drops the edge if it is there, adds it if it is not. */
        void flip(int a, int b) {
            if (joins(a, b)) {
                dropped++;
            } else {
                added++;
            }
            edges ^= pairBit(a, b);
        }

        void removeAll() {
            dropped += size();
            edges = 0L;
        }
    }

    /** The latest states before actions, the oldest one first. */
    private static final class History {
        private final long[] edges = new long[MAX_HISTORY];
        private final int[] added = new int[MAX_HISTORY];
        private final int[] dropped = new int[MAX_HISTORY];
        private int size;

        int size() {
            return size;
        }

        void remember(State state) {
            if (size >= MAX_HISTORY) {
                forgetOldest();
            }
            if (size >= 0 && size < MAX_HISTORY) {
                edges[size] = state.edges();
                added[size] = state.added();
                dropped[size] = state.dropped();
                size++;
            }
        }

        /** Makes the state the latest one that was recorded; false if there is none. */
        boolean giveBack(State state) {
            int latest = size - 1;
            if (latest < 0 || latest >= MAX_HISTORY) {
                return false;
            }
            state.become(edges[latest], added[latest], dropped[latest]);
            size = latest;
            return true;
        }

        private void forgetOldest() {
            for (int i = 1; i < MAX_HISTORY; i++) {
                edges[i - 1] = edges[i];
                added[i - 1] = added[i];
                dropped[i - 1] = dropped[i];
            }
            size = MAX_HISTORY - 1;
        }
    }

    /** The text, and the edits that were read from it. */
    private static final class EditText {
        /** In a form, a digit sign stands for any vertex. */
        private static final char VERTEX_SIGN = '#';
        private static final String ADD_FORM = "add #-#";
        private static final String DROP_FORM = "drop #-#";
        private static final String FLIP_FORM = "flip #-#";

        private final int[] signs = new int[MAX_TEXT];
        private int length;
        private final int[] starts = new int[MAX_EDITS];
        private final int[] ends = new int[MAX_EDITS];
        private int edits;

        int length() {
            return length;
        }

        int edits() {
            return edits;
        }

        /** Kinds are told by their first character. */
        char kindOf(int edit) {
            return (char) at(signs, at(starts, edit));
        }

        int firstOf(int edit) {
            return at(signs, at(ends, edit) - 3) - '0';
        }

        int secondOf(int edit) {
            return at(signs, at(ends, edit) - 1) - '0';
        }

        /** False if there is no more room. */
        boolean write(char sign) {
            if (length >= MAX_TEXT) {
                return false;
            }
            put(signs, length, sign);
            length++;
            return true;
        }

        void erase() {
            length = 0;
        }

        /** Reads the edits; answers the fault of the text, or NONE. */
        int scan() {
            edits = 0;
            int start = 0;
            for (int round = 0; round <= MAX_EDITS; round++) {
                String form = formAt(start);
                int right = signsRight(start, form);
                int end = start + right;
                if (form.isEmpty() || right < form.length()) {
                    return end;
                }
                put(starts, edits, start);
                put(ends, edits, end);
                edits++;
                if (end >= length) {
                    return NONE;
                }
                if (signAt(end) != ';') {
                    return end;
                }
                start = end + 1;
            }
            return length;
        }

        /** No sign of a form is 0, so that the end of the text is told apart. */
        private int signAt(int index) {
            return index < length ? at(signs, index) : 0;
        }

        private String formAt(int start) {
            switch (signAt(start)) {
                case 'a': return ADD_FORM;
                case 'd': return DROP_FORM;
                case 'f': return FLIP_FORM;
                default: return "";
            }
        }

        /** How many signs from the start on are as the form wants them. */
        private int signsRight(int start, String form) {
            int last = form.length() - 1;
            for (int i = 0; i < form.length(); i++) {
                int sign = signAt(start + i);
                char due = form.charAt(i);
                boolean fits = due == VERTEX_SIGN ? sign >= '0' && sign <= '9' : sign == due;
                if (!fits || (i == last && sign == signAt(start + i - 2))) {
                    return i;
                }
            }
            return form.length();
        }
    }

    /** Embeds one block, face by face, as the document tells. */
    private static final class Embedding {
        /** The neighbors of each vertex in the block, and those along edges that are placed. */
        private final int[] near = new int[VERTICES];
        private final int[] joined = new int[VERTICES];
        private int vertices;
        private int placed;
        private int edges;
        private int placedEdges;
        /** A face is the set of its vertices, with the vertex behind each of them. */
        private final int[] faceSets = new int[MAX_FACES];
        private final int[] followers = new int[MAX_FACES * VERTICES];
        private int faces;
        /** The chosen fragment: its vertices that are not placed, its contacts, and its face. */
        private int inside;
        private int contacts;
        private int face;
        /** In how many faces the chosen fragment fits; 0 as long as none is chosen. */
        private int fitting;
        private final int[] path = new int[VERTICES];
        private int pathLength;
        /** From the vertices in layer k, the shortest way to a target has k edges. */
        private final int[] layers = new int[VERTICES];

        int edges() {
            return edges;
        }

        int placedEdges() {
            return placedEdges;
        }

        int faces() {
            return faces;
        }

        /** Embeds the block of the graph that has these vertices. */
        void embed(int[] graph, int block) {
            start(graph, block);
            if (edges == 1) {
                placedEdges = 1;
                faces = 1;
                return;
            }
            boolean going = placeCycle();
            for (int step = 0; step < PAIRS && going && placedEdges < edges; step++) {
                going = chooseFragment() && choosePath();
                if (going) {
                    splitFace();
                }
            }
        }

        /** Writes the successor y of the neighbor x at the vertex v into the cell (v, x). */
        void writeSuccessors(int[] successors) {
            if (edges == 1) {
                int a = least(vertices);
                int b = least(vertices & ~bit(a));
                put(successors, cell(a, b), b);
                put(successors, cell(b, a), a);
                return;
            }
            for (int f = 0; f < faces; f++) {
                for (int x = 0; x < VERTICES; x++) {
                    if (has(at(faceSets, f), x)) {
                        int v = at(followers, cell(f, x));
                        put(successors, cell(v, x), at(followers, cell(f, v)));
                    }
                }
            }
        }

        private void start(int[] graph, int block) {
            vertices = block;
            placed = 0;
            placedEdges = 0;
            faces = 0;
            int ends = 0;
            for (int v = 0; v < VERTICES; v++) {
                int neighbors = has(block, v) ? at(graph, v) & block : 0;
                put(near, v, neighbors);
                put(joined, v, 0);
                ends += Integer.bitCount(neighbors);
            }
            edges = ends / 2;
        }

        /** False if there is no cycle, which no block with more than one edge can bring about. */
        private boolean placeCycle() {
            int a = least(vertices);
            int b = least(at(near, a));
            if (!findPath(b, bit(a), vertices & ~bit(a) & ~bit(b))) {
                return false;
            }
            put(followers, cell(0, a), b);
            put(followers, cell(1, b), a);
            placeEdge(a, b);
            for (int i = 1; i < pathLength; i++) {
                int v = at(path, i - 1);
                int w = at(path, i);
                put(followers, cell(0, v), w);
                put(followers, cell(1, w), v);
                placeEdge(v, w);
            }
            put(faceSets, 0, placed);
            put(faceSets, 1, placed);
            faces = 2;
            return true;
        }

        private void placeEdge(int v, int w) {
            put(joined, v, at(joined, v) | bit(w));
            put(joined, w, at(joined, w) | bit(v));
            placed |= bit(v) | bit(w);
            placedEdges++;
        }

        /**
         * Finds the shortest path from a vertex through a set to a target, and of several the first
         * one in lexicographic order. It passes at least one vertex of the set.
         */
        private boolean findPath(int from, int targets, int through) {
            int left = through;
            int layer = targets;
            int depth = 0;
            put(layers, 0, targets);
            for (int k = 1; k < VERTICES && depth == 0; k++) {
                layer = around(near, layer) & left;
                left &= ~layer;
                put(layers, k, layer);
                depth = (layer & at(near, from)) == 0 ? 0 : k;
            }
            if (depth == 0) {
                return false;
            }
            put(path, 0, from);
            pathLength = 1;
            int v = from;
            for (int k = depth; k >= 0; k--) {
                v = least(at(near, v) & at(layers, k));
                put(path, pathLength, v);
                pathLength++;
            }
            return true;
        }

        /** Goes through the fragments by their least edges; false if one of them fits no face. */
        private boolean chooseFragment() {
            fitting = 0;
            int free = vertices & ~placed;
            int seen = 0;
            for (int a = 0; a < VERTICES; a++) {
                for (int b = a + 1; b < VERTICES; b++) {
                    int ends = bit(a) | bit(b);
                    boolean unplaced = has(at(near, a), b) && !has(at(joined, a), b);
                    if (unplaced && (ends & seen) == 0) {
                        int component = reach(near, ends & free, free);
                        int touched = component == 0 ? ends : around(near, component) & placed;
                        seen |= component;
                        if (!weigh(component, touched)) {
                            return false;
                        }
                    }
                }
            }
            return fitting > 0;
        }

        /** Chooses this fragment if it comes before the chosen one; false if it fits no face. */
        private boolean weigh(int component, int touched) {
            int fits = 0;
            int firstFace = 0;
            for (int f = faces - 1; f >= 0; f--) {
                if ((touched & ~at(faceSets, f)) == 0) {
                    fits++;
                    firstFace = f;
                }
            }
            if (fits > 0 && (fitting == 0 || (fits == 1 && fitting > 1))) {
                inside = component;
                contacts = touched;
                face = firstFace;
                fitting = fits;
            }
            return fits > 0;
        }

        private boolean choosePath() {
            int from = least(contacts);
            int targets = contacts & ~bit(from);
            if (inside != 0) {
                return findPath(from, targets, inside);
            }
            put(path, 0, from);
            put(path, 1, least(targets));
            pathLength = 2;
            return true;
        }

        /** Places the path in the chosen face, which keeps its number, and makes the new face. */
        private void splitFace() {
            int from = at(path, 0);
            int to = at(path, pathLength - 1);
            int moved = bit(to);
            int v = to;
            for (int i = 0; i < VERTICES && v != from; i++) {
                int w = at(followers, cell(face, v));
                put(followers, cell(faces, v), w);
                moved |= bit(w);
                v = w;
            }
            int onPath = bit(from);
            for (int i = 1; i < pathLength; i++) {
                int x = at(path, i - 1);
                int y = at(path, i);
                put(followers, cell(faces, x), y);
                put(followers, cell(face, y), x);
                onPath |= bit(y);
                placeEdge(x, y);
            }
            put(faceSets, face, (at(faceSets, face) & ~moved) | onPath);
            put(faceSets, faces, moved | onPath);
            faces++;
        }
    }

    /** All that is known of one graph: its blocks, their embeddings, and whether it is planar. */
    private static final class Plan {
        private final int[] near = new int[VERTICES];
        private final int[] blockVertices = new int[MAX_BLOCKS];
        private final int[] blockEdges = new int[MAX_BLOCKS];
        private final int[] blockFaces = new int[MAX_BLOCKS];
        private final int[] blockPlaced = new int[MAX_BLOCKS];
        private final int[] successors = new int[CELLS];
        private final Embedding embedding = new Embedding();
        private int blocks;
        private boolean flat;
        private long edges;
        /** The answers stay as long as the same edges are asked for. */
        private boolean known;

        /** Takes up the graph with these edges, and tells whether it is planar. */
        boolean read(long newEdges) {
            if (known && edges == newEdges) {
                return flat;
            }
            known = true;
            edges = newEdges;
            blocks = 0;
            flat = true;
            fillNear();
            for (int a = 0; a < VERTICES; a++) {
                for (int b = a + 1; b < VERTICES; b++) {
                    if (has(at(near, a), b) && blockOf(a, b) == NO_SUCH) {
                        int block = blockAround(a, b);
                        embedding.embed(near, block);
                        keepBlock(block);
                    }
                }
            }
            return flat;
        }

        long edges() {
            return edges;
        }

        int near(int vertex) {
            return at(near, vertex);
        }

        int blocks() {
            return blocks;
        }

        int verticesOf(int block) {
            return at(blockVertices, block);
        }

        int edgesOf(int block) {
            return at(blockEdges, block);
        }

        int facesOf(int block) {
            return at(blockFaces, block);
        }

        int placedOf(int block) {
            return at(blockPlaced, block);
        }

        boolean isPlanar(int block) {
            return at(blockPlaced, block) == at(blockEdges, block);
        }

        int successor(int vertex, int neighbor) {
            return at(successors, cell(vertex, neighbor));
        }

        /** The block with both ends of an edge: two blocks never share two vertices. */
        int blockOf(int a, int b) {
            int ends = bit(a) | bit(b);
            for (int i = 0; i < blocks; i++) {
                if ((ends & ~at(blockVertices, i)) == 0) {
                    return i;
                }
            }
            return NO_SUCH;
        }

        int components() {
            int found = 0;
            int seen = 0;
            for (int v = 0; v < VERTICES; v++) {
                if (!has(seen, v)) {
                    seen |= reach(near, bit(v), ALL_VERTICES);
                    found++;
                }
            }
            return found;
        }

        int cutVertices() {
            int once = 0;
            int again = 0;
            for (int i = 0; i < blocks; i++) {
                int members = at(blockVertices, i);
                again |= once & members;
                once |= members;
            }
            return Integer.bitCount(again);
        }

        int bridges() {
            int found = 0;
            for (int i = 0; i < blocks; i++) {
                if (at(blockEdges, i) == 1) {
                    found++;
                }
            }
            return found;
        }

        private void fillNear() {
            for (int v = 0; v < VERTICES; v++) {
                int found = 0;
                for (int w = 0; w < VERTICES; w++) {
                    if ((edges & pairBit(v, w)) != 0L) {
                        found |= bit(w);
                    }
                }
                put(near, v, found);
            }
        }

        /**
         * The vertices of the block of an edge. A vertex lies outside the block just when some other
         * vertex separates it from the edge.
         */
        private int blockAround(int a, int b) {
            int ends = bit(a) | bit(b);
            int found = ALL_VERTICES;
            for (int v = 0; v < VERTICES; v++) {
                int others = ALL_VERTICES & ~bit(v);
                found &= reach(near, ends & others, others) | bit(v);
            }
            return found;
        }

        private void keepBlock(int block) {
            put(blockVertices, blocks, block);
            put(blockEdges, blocks, embedding.edges());
            put(blockPlaced, blocks, embedding.placedEdges());
            put(blockFaces, blocks, embedding.faces());
            if (isPlanar(blocks)) {
                embedding.writeSuccessors(successors);
            } else {
                flat = false;
            }
            blocks++;
        }
    }

    /** The orders around the vertices of a planar graph, and its walks. */
    private static final class Walks {
        /** In the cell (v, x) the neighbor behind x in the order around v. */
        private final int[] order = new int[CELLS];
        /** In the cell (v, w) the number of the walk of this dart, NO_SUCH before it has one. */
        private final int[] walkAt = new int[CELLS];
        /** Where each walk begins in the row of vertices; one element more for the end. */
        private final int[] starts = new int[MAX_DARTS + 1];
        private final int[] vertices = new int[MAX_DARTS];
        private int size;
        private int darts;
        private long edges;
        private boolean known;

        void trace(Plan plan) {
            if (known && edges == plan.edges()) {
                return;
            }
            known = true;
            edges = plan.edges();
            size = 0;
            darts = 0;
            for (int i = 0; i < CELLS; i++) {
                put(walkAt, i, NO_SUCH);
            }
            for (int v = 0; v < VERTICES; v++) {
                orderAround(plan, v);
            }
            for (int v = 0; v < VERTICES; v++) {
                for (int w = 0; w < VERTICES; w++) {
                    if (has(plan.near(v), w) && ofDart(v, w) == NO_SUCH) {
                        follow(v, w);
                    }
                }
            }
        }

        int size() {
            return size;
        }

        boolean holds(int walk) {
            return walk >= 0 && walk < size;
        }

        int lengthOf(int walk) {
            return at(starts, walk + 1) - at(starts, walk);
        }

        int vertexOf(int walk, int place) {
            return at(vertices, at(starts, walk) + place);
        }

        int ofDart(int from, int to) {
            return at(walkAt, cell(from, to));
        }

        int behind(int vertex, int neighbor) {
            return at(order, cell(vertex, neighbor));
        }

        /** Links the neighbors block by block, and the last one back to the first. */
        private void orderAround(Plan plan, int vertex) {
            int first = NO_SUCH;
            int last = NO_SUCH;
            for (int i = 0; i < plan.blocks(); i++) {
                int members = plan.verticesOf(i);
                int left = has(members, vertex) ? plan.near(vertex) & members : 0;
                int x = least(left);
                for (int turn = 0; turn < VERTICES && left != 0; turn++) {
                    if (first == NO_SUCH) {
                        first = x;
                    } else {
                        put(order, cell(vertex, last), x);
                    }
                    last = x;
                    left &= ~bit(x);
                    x = plan.successor(vertex, x);
                }
            }
            if (first != NO_SUCH) {
                put(order, cell(vertex, last), first);
            }
        }

        /** Follows the walk that begins with this dart. */
        private void follow(int from, int to) {
            int v = from;
            int w = to;
            put(starts, size, darts);
            for (int i = 0; i < MAX_DARTS && ofDart(v, w) == NO_SUCH; i++) {
                put(walkAt, cell(v, w), size);
                put(vertices, darts, v);
                darts++;
                int x = behind(w, v);
                v = w;
                w = x;
            }
            size++;
            put(starts, size, darts);
        }
    }

    /** The forbidden subgraph of a graph that is not planar. */
    private static final class Obstruction {
        private long kept;
        private long edges;
        private boolean known;

        void find(long newEdges, Plan trial) {
            if (known && edges == newEdges) {
                return;
            }
            known = true;
            edges = newEdges;
            kept = newEdges;
            for (int a = 0; a < VERTICES; a++) {
                for (int b = a + 1; b < VERTICES; b++) {
                    long without = kept & ~pairBit(a, b);
                    if (without != kept && !trial.read(without)) {
                        kept = without;
                    }
                }
            }
        }

        int size() {
            return Long.bitCount(kept);
        }

        boolean holds(int a, int b) {
            return (kept & pairBit(a, b)) != 0L;
        }

        /** The vertices that belong to more than this number of its edges. */
        int verticesInMoreThan(int limit) {
            int found = 0;
            for (int v = 0; v < VERTICES; v++) {
                int degree = 0;
                for (int w = 0; w < VERTICES; w++) {
                    if (holds(v, w)) {
                        degree++;
                    }
                }
                if (degree > limit) {
                    found |= bit(v);
                }
            }
            return found;
        }
    }
}
