/** The promises of the document one by one: ordinary inputs, edges, and wrong inputs. */
public final class PromiseTests {
    private static final int[] NO_VERTICES = {-1, 10, 11, 100, Integer.MIN_VALUE, Integer.MAX_VALUE};
    private static int wrong = 0;
    private static int promise = 0;

    private PromiseTests() {
    }

    private static void due(String call, double got, double want) {
        if (got != want) {
            wrong++;
            System.out.println("promise " + promise + ": " + call + " answered " + got
                    + ", due is " + want);
        }
    }

    private static PlanarityTester withEdges(int... ends) {
        PlanarityTester x = new PlanarityTester();
        for (int i = 0; i < ends.length; i += 2) {
            x.add(ends[i], ends[i + 1]);
        }
        return x;
    }

    private static PlanarityTester completeGraph(int vertices) {
        PlanarityTester x = new PlanarityTester();
        for (int a = 0; a < vertices; a++) {
            for (int b = a + 1; b < vertices; b++) {
                x.add(a, b);
            }
        }
        return x;
    }

    private static PlanarityTester withText(String text) {
        PlanarityTester x = new PlanarityTester();
        write(x, text);
        return x;
    }

    private static void write(PlanarityTester x, String text) {
        for (int i = 0; i < text.length(); i++) {
            x.append(text.charAt(i));
        }
    }

    private static void dueCounts(PlanarityTester x, int... wants) {
        for (int what = 0; what < wants.length; what++) {
            due("count(" + what + ")", x.count(what), wants[what]);
        }
    }

    private static void newObject() {
        PlanarityTester other = withEdges(0, 1, 1, 2, 0, 2);
        other.save();
        other.append('a');
        PlanarityTester x = new PlanarityTester();
        dueCounts(x, 0, 10, 0, 0, 0, 0, 0, 0, 0);
        due("fault()", x.fault(), 0);
        due("undo()", x.undo(), PlanarityTester.NONE);
        due("restore()", x.restore(), PlanarityTester.NOT_POSSIBLE);
        due("clearText()", x.clearText(), 0);
        due("walks()", x.walks(), 0);
        for (int v = 0; v < 10; v++) {
            due("neighbors(" + v + ")", x.neighbors(v), 0);
        }
    }

    private static void add() {
        PlanarityTester x = new PlanarityTester();
        due("add(0, 1)", x.add(0, 1), 1);
        due("add(9, 8)", x.add(9, 8), 2);
        due("add(1, 0)", x.add(1, 0), PlanarityTester.NOT_POSSIBLE);
        due("add(8, 9)", x.add(8, 9), PlanarityTester.NOT_POSSIBLE);
        due("add(3, 3)", x.add(3, 3), PlanarityTester.BAD_VALUE);
        for (int v : NO_VERTICES) {
            due("add(" + v + ", 0)", x.add(v, 0), PlanarityTester.NO_SUCH);
            due("add(0, " + v + ")", x.add(0, v), PlanarityTester.NO_SUCH);
            due("add of " + v + " twice", x.add(v, v), PlanarityTester.NO_SUCH);
        }
        dueCounts(x, 2, 8, 2, 0, 2, 2, 0, 2, 0);
        due("neighbors(9)", x.neighbors(9), 1 << 8);
        x = new PlanarityTester();
        int edges = 0;
        for (int a = 9; a >= 0; a--) {
            for (int b = 0; b < a; b++) {
                edges++;
                due("add(" + a + ", " + b + ")", x.add(a, b), edges);
            }
        }
        due("edges of all pairs", x.count(0), 45);
    }

    private static void drop() {
        PlanarityTester x = withEdges(0, 1, 4, 7, 8, 9);
        due("drop(7, 4)", x.drop(7, 4), 2);
        due("drop(7, 4) again", x.drop(7, 4), PlanarityTester.NO_SUCH);
        due("drop(3, 3)", x.drop(3, 3), PlanarityTester.NO_SUCH);
        due("drop(0, 2)", x.drop(0, 2), PlanarityTester.NO_SUCH);
        for (int v : NO_VERTICES) {
            due("drop(" + v + ", 0)", x.drop(v, 0), PlanarityTester.NO_SUCH);
            due("drop(0, " + v + ")", x.drop(0, v), PlanarityTester.NO_SUCH);
        }
        dueCounts(x, 2, 8, 2, 0, 2, 3, 1, 4, 0);
        due("drop(0, 1)", x.drop(0, 1), 1);
        due("drop(8, 9)", x.drop(8, 9), 0);
        due("neighbors(4)", x.neighbors(4), 0);
        due("add(4, 7)", x.add(4, 7), 1);
    }

    private static void clear() {
        PlanarityTester x = withEdges(0, 1, 1, 2);
        x.append('a');
        due("clear()", x.clear(), 2);
        dueCounts(x, 0, 10, 0, 0, 0, 2, 2, 3, 1);
        due("clear() of no edges", x.clear(), 0);
        due("it is recorded", x.count(7), 4);
        due("undo()", x.undo(), 3);
        due("undo()", x.undo(), 2);
        dueCounts(x, 2, 8, 2, 1, 2, 2, 0, 2, 1);
    }

    private static void complete() {
        PlanarityTester x = new PlanarityTester();
        due("complete()", x.complete(), 24);
        dueCounts(x, 24, 1, 1, 0, 0, 24, 0, 1, 0);
        due("complete() again", x.complete(), 0);
        due("it is recorded", x.count(7), 2);
        due("neighbors(0) are the others", x.neighbors(0), 1022);
        due("neighbors(1) are the others", x.neighbors(1), 1021);
        due("neighbors(9) are 0, 1 and 7", x.neighbors(9), 1 | 2 | 128);
        x = withEdges(2, 3, 8, 9);
        due("complete() of two edges", x.complete(), 22);
        due("2-3 stays", x.block(2, 3), 0);
        x = completeGraph(5);
        due("complete() of K5", x.complete(), PlanarityTester.NOT_POSSIBLE);
        dueCounts(x, 10, 6, 1, 0, 0, 10, 0, 5, 0);
        due("drop(0, 1)", x.drop(0, 1), 9);
        due("complete() of K5 without 0-1", x.complete(), 15);
        due("0-1 can not come back", x.block(0, 1), PlanarityTester.NO_SUCH);
        due("undo()", x.undo(), 4);
        dueCounts(x, 9, 6, 1, 0, 0, 10, 1, 4, 0);
    }

    private static void append() {
        PlanarityTester x = new PlanarityTester();
        int[] outside = {31, 127, 0, -1, 255, 1000, Integer.MIN_VALUE, Integer.MAX_VALUE,
            65536 + 'a'};
        for (int character : outside) {
            due("append(" + character + ")", x.append(character), PlanarityTester.BAD_VALUE);
        }
        due("append(32)", x.append(32), 1);
        due("append(126)", x.append(126), 2);
        for (int i = 3; i <= 80; i++) {
            due("append(97)", x.append(97), i);
        }
        due("append(97) of a full text", x.append(97), PlanarityTester.TOO_MANY);
        due("append(31) of a full text", x.append(31), PlanarityTester.BAD_VALUE);
        due("count(8)", x.count(8), 80);
        due("it is no action", x.count(7), 0);
        due("fault()", x.fault(), 0);
    }

    private static void clearText() {
        PlanarityTester x = withText("add 0-1");
        due("clearText()", x.clearText(), 7);
        due("count(8)", x.count(8), 0);
        due("clearText() again", x.clearText(), 0);
        due("run()", x.run(), -100);
        due("append(97)", x.append('a'), 1);
        due("fault() sees nothing of the old text", x.fault(), 1);
        due("it is no action", x.count(7), 0);
    }

    private static void fault() {
        String[] texts = {"", "a", "b", "ad", "add", "addx", "add ", "add  ", "add a", "add 0",
            "add 0_", "add 0-", "add 0-0", "add 0-:", "add 0-/", "add 0-1", "add 9-0",
            "add 0-1;", "add 0-1;;", "add 0-1 ", "add 0-12", "add 0-1; add 1-2",
            "add 0-1;drop 1-0", "add 0-1;drop 1-0;flip 9-8", "add 0-1;drop 1-1",
            "d", "drip", "drop 4-4", "drop 4-5", "drop 4-5x", "flop", "flip", "flip 7-3",
            "flip 7-7", "ADD 0-1", " add 0-1", "add 0-1,add 1-2", "add 00-1", "add 0--1",
            "add 0-1;x", "add 0-1;flip 2", "add 0-1;flip 2-2;x", "add+0-1", "~", "adx 0-0"};
        int[] faults = {0, 1, 0, 2, 3, 3, 4, 4, 4, 5,
            5, 6, 6, 6, 6, -5, -5,
            8, 8, 7, 7, 8,
            -5, -5, 15,
            1, 2, 7, -5, 8, 2, 4, -5,
            7, 0, 0, 7, 5, 6,
            8, 14, 15, 3, 0, 2};
        for (int i = 0; i < texts.length; i++) {
            PlanarityTester x = withText(texts[i]);
            due("fault() of '" + texts[i] + "'", x.fault(), faults[i]);
            due("count(8) behind it", x.count(8), texts[i].length());
        }
        StringBuilder full = new StringBuilder("add 0-1");
        for (int i = 1; i < 10; i++) {
            full.append(";add 0-1");
        }
        PlanarityTester x = withText(full.toString());
        due("fault() of ten edits", x.fault(), PlanarityTester.NONE);
        write(x, ";");
        due("fault() of 80 characters and no room", x.fault(), 80);
        due("run() of 80 characters and no room", x.run(), -180);
    }

    private static void run() {
        PlanarityTester x = withText("add 0-1;add 1-0;drop 2-3;flip 0-1;flip 1-0;flip 4-3;drop 4-3");
        due("run()", x.run(), 5);
        dueCounts(x, 1, 9, 1, 0, 1, 3, 2, 1, 60);
        due("neighbors(0)", x.neighbors(0), 2);
        due("run() again", x.run(), 4);
        due("the text stays", x.fault(), PlanarityTester.NONE);
        due("undo()", x.undo(), 1);
        dueCounts(x, 1, 9, 1, 0, 1, 3, 2, 1, 60);
        x = withEdges(5, 6);
        write(x, "add 6-5;drop 0-1");
        due("run() of skipped edits", x.run(), 0);
        due("it is recorded", x.count(7), 2);
        write(x, ";");
        due("run() of a text with a fault", x.run(), -117);
        due("it is not recorded", x.count(7), 2);
        x.clearText();
        write(x, "drop 5-6;drop 5-5");
        due("run() of a text with a fault", x.run(), -116);
        due("none of it is done", x.count(0), 1);
        due("none of it is counted", x.count(6), 0);
        x = withText("add 0-1;add 0-2;add 0-3;add 0-4;add 0-5;add 0-6;add 0-7;add 0-8;add 0-9;add 1-9");
        due("run() of ten edits", x.run(), 10);
        due("neighbors(0)", x.neighbors(0), 1022);
        due("neighbors(9)", x.neighbors(9), 3);
    }

    private static void undo() {
        PlanarityTester x = new PlanarityTester();
        due("undo() of nothing", x.undo(), PlanarityTester.NONE);
        for (int i = 1; i <= 7; i++) {
            x.add(0, i);
            due("count(7)", x.count(7), Math.min(i, 5));
        }
        x.append('a');
        x.save();
        for (int left = 4; left >= 0; left--) {
            due("undo()", x.undo(), left);
            due("count(0)", x.count(0), left + 2);
            due("count(5)", x.count(5), left + 2);
            due("count(7)", x.count(7), left);
        }
        due("undo() of an empty history", x.undo(), PlanarityTester.NONE);
        due("neighbors(0)", x.neighbors(0), 6);
        due("the text stays", x.count(8), 1);
        due("the snapshot stays", x.restore(), 7);
        due("undo() of restore", x.undo(), 0);
        due("count(0)", x.count(0), 2);
    }

    private static void save() {
        PlanarityTester x = withEdges(0, 1, 1, 2);
        due("save()", x.save(), 2);
        due("it is no action", x.count(7), 2);
        x.drop(0, 1);
        due("save() again", x.save(), 1);
        x.clear();
        due("restore() of the second snapshot", x.restore(), 1);
        due("neighbors(1)", x.neighbors(1), 4);
        x = new PlanarityTester();
        due("save() of no edges", x.save(), 0);
        x.add(0, 1);
        due("restore() of no edges", x.restore(), 0);
    }

    private static void restore() {
        PlanarityTester x = withEdges(0, 1);
        due("restore() without a snapshot", x.restore(), PlanarityTester.NOT_POSSIBLE);
        due("it is not recorded", x.count(7), 1);
        x.save();
        x.clear();
        x.append('f');
        due("restore()", x.restore(), 1);
        dueCounts(x, 1, 9, 1, 0, 1, 1, 0, 3, 1);
        x.add(0, 2);
        due("restore() again", x.restore(), 1);
        due("it is recorded", x.count(7), 5);
        due("undo()", x.undo(), 4);
        dueCounts(x, 2, 8, 2, 1, 2, 2, 0, 4, 1);
    }

    private static void neighbors() {
        PlanarityTester x = withEdges(0, 9, 9, 4, 3, 4);
        due("neighbors(9)", x.neighbors(9), 1 | 16);
        due("neighbors(4)", x.neighbors(4), 512 | 8);
        due("neighbors(0)", x.neighbors(0), 512);
        due("neighbors(1)", x.neighbors(1), 0);
        for (int v : NO_VERTICES) {
            due("neighbors(" + v + ")", x.neighbors(v), PlanarityTester.NO_SUCH);
        }
        due("neighbors(7) in K10", completeGraph(10).neighbors(7), 1023 - 128);
    }

    private static void count() {
        PlanarityTester x = withEdges(0, 1, 1, 2, 2, 0, 2, 3, 3, 4, 4, 2, 4, 5, 7, 8);
        x.append('a');
        dueCounts(x, 8, 4, 4, 2, 2, 8, 0, 5, 1);
        due("count(9)", x.count(9), PlanarityTester.BAD_VALUE);
        due("count(-1)", x.count(-1), PlanarityTester.BAD_VALUE);
        due("count of the least int", x.count(Integer.MIN_VALUE), PlanarityTester.BAD_VALUE);
        due("count of the greatest int", x.count(Integer.MAX_VALUE), PlanarityTester.BAD_VALUE);
        PlanarityTester star = new PlanarityTester();
        for (int v = 0; v < 9; v++) {
            star.add(9, v);
        }
        dueCounts(star, 9, 1, 9, 1, 9, 9, 0, 5, 0);
        PlanarityTester way = new PlanarityTester();
        for (int v = 0; v < 9; v++) {
            way.add(v, v + 1);
        }
        dueCounts(way, 9, 1, 9, 8, 9, 9, 0, 5, 0);
        way.add(9, 0);
        dueCounts(way, 10, 1, 1, 0, 0, 10, 0, 5, 0);
        dueCounts(completeGraph(10), 45, 1, 1, 0, 0, 45, 0, 5, 0);
    }

    private static void block() {
        PlanarityTester x = withEdges(0, 5, 5, 6, 6, 0, 1, 2, 5, 1, 6, 9, 9, 8, 8, 6);
        due("block(0, 5)", x.block(0, 5), 0);
        due("block(6, 5)", x.block(6, 5), 0);
        due("block(1, 2)", x.block(1, 2), 1);
        due("block(1, 5)", x.block(1, 5), 2);
        due("block(9, 6)", x.block(9, 6), 3);
        due("block(8, 9)", x.block(8, 9), 3);
        due("block(0, 1)", x.block(0, 1), PlanarityTester.NO_SUCH);
        due("block(5, 5)", x.block(5, 5), PlanarityTester.NO_SUCH);
        for (int v : NO_VERTICES) {
            due("block(" + v + ", 0)", x.block(v, 0), PlanarityTester.NO_SUCH);
            due("block(0, " + v + ")", x.block(0, v), PlanarityTester.NO_SUCH);
        }
    }

    private static void dueBlock(PlanarityTester x, int block, int... wants) {
        for (int what = 0; what < wants.length; what++) {
            due("blockInfo(" + block + ", " + what + ")", x.blockInfo(block, what), wants[what]);
        }
    }

    private static void blockInfo() {
        PlanarityTester x = completeGraph(5);
        x.add(4, 9);
        x.add(6, 7);
        x.add(7, 8);
        x.add(8, 6);
        dueBlock(x, 0, 31, 10, 0, PlanarityTester.NONE, 7);
        dueBlock(x, 1, 16 | 512, 1, 1, 1, 1);
        dueBlock(x, 2, 64 | 128 | 256, 3, 1, 2, 3);
        due("blockInfo(3, 0)", x.blockInfo(3, 0), PlanarityTester.NO_SUCH);
        due("blockInfo(-1, 0)", x.blockInfo(-1, 0), PlanarityTester.NO_SUCH);
        due("blockInfo(3, 9)", x.blockInfo(3, 9), PlanarityTester.NO_SUCH);
        due("blockInfo(2, 5)", x.blockInfo(2, 5), PlanarityTester.BAD_VALUE);
        due("blockInfo(2, -1)", x.blockInfo(2, -1), PlanarityTester.BAD_VALUE);
        due("blockInfo of no block", new PlanarityTester().blockInfo(0, 0), PlanarityTester.NO_SUCH);
        dueBlock(completeGraph(4), 0, 15, 6, 1, 4, 6);
        PlanarityTester full = new PlanarityTester();
        full.complete();
        dueBlock(full, 0, 1023, 24, 1, 16, 24);
    }

    private static void planar() {
        due("planar() of K4", completeGraph(4).planar(), 1);
        due("planar() of K5", completeGraph(5).planar(), 0);
        due("planar() of K10", completeGraph(10).planar(), 0);
        PlanarityTester x = withEdges(0, 3, 0, 4, 0, 5, 1, 3, 1, 4, 1, 5, 2, 3, 2, 4, 2, 5);
        due("planar() of K3,3", x.planar(), 0);
        x.drop(2, 5);
        due("planar() of K3,3 without an edge", x.planar(), 1);
        x.add(2, 9);
        x.add(9, 5);
        due("planar() of a subdivision of K3,3", x.planar(), 0);
        PlanarityTester petersen = withEdges(0, 1, 1, 2, 2, 3, 3, 4, 4, 0, 0, 5, 1, 6, 2, 7, 3, 8,
                4, 9, 5, 7, 7, 9, 9, 6, 6, 8, 8, 5);
        due("planar() of the Petersen graph", petersen.planar(), 0);
        due("planar() of the prism of five sides", withEdges(0, 1, 1, 2, 2, 3, 3, 4, 4, 0, 0, 5, 1,
                6, 2, 7, 3, 8, 4, 9, 5, 6, 6, 7, 7, 8, 8, 9, 9, 5).planar(), 1);
        long[] planarGraphs = {1, 1, 2, 8, 64, 1023, 32071};
        for (int vertices = 1; vertices < planarGraphs.length; vertices++) {
            due("planar graphs with " + vertices + " vertices", planarGraphs(vertices),
                    planarGraphs[vertices]);
        }
    }

    /** How many of all graphs with these vertices the program calls planar. */
    private static long planarGraphs(int vertices) {
        long found = 0;
        int pairs = vertices * (vertices - 1) / 2;
        for (int graph = 0; graph < 1 << pairs; graph++) {
            PlanarityTester x = new PlanarityTester();
            int pair = 0;
            for (int a = 0; a < vertices; a++) {
                for (int b = a + 1; b < vertices; b++) {
                    if ((graph >> pair & 1) != 0) {
                        x.add(a, b);
                    }
                    pair++;
                }
            }
            found += x.planar();
        }
        return found;
    }

    private static void next() {
        PlanarityTester x = completeGraph(4);
        int[][] orders = {{0, 1, 2, 3}, {1, 0, 3, 2}, {2, 0, 1, 3}, {3, 0, 2, 1}};
        for (int[] order : orders) {
            for (int i = 1; i <= 3; i++) {
                due("next(" + order[0] + ", " + order[i] + ")", x.next(order[0], order[i]),
                        order[i % 3 + 1]);
            }
        }
        due("next(0, 4)", x.next(0, 4), PlanarityTester.NO_SUCH);
        due("next(0, 0)", x.next(0, 0), PlanarityTester.NO_SUCH);
        for (int v : NO_VERTICES) {
            due("next(" + v + ", 0)", x.next(v, 0), PlanarityTester.NO_SUCH);
            due("next(0, " + v + ")", x.next(0, v), PlanarityTester.NO_SUCH);
        }
        x.add(0, 9);
        x.add(0, 7);
        due("next(0, 3)", x.next(0, 3), 7);
        due("next(0, 7)", x.next(0, 7), 9);
        due("next(0, 9)", x.next(0, 9), 1);
        due("next(9, 0)", x.next(9, 0), 0);
        PlanarityTester no = completeGraph(5);
        no.add(8, 9);
        due("next(8, 9) of a graph that is not planar", no.next(8, 9), PlanarityTester.NOT_POSSIBLE);
        due("next(8, 7) of a graph that is not planar", no.next(8, 7), PlanarityTester.NO_SUCH);
    }

    private static void walks() {
        due("walks() of an edge", withEdges(3, 4).walks(), 1);
        due("walks() of two edges", withEdges(3, 4, 0, 1).walks(), 2);
        due("walks() of K4", completeGraph(4).walks(), 4);
        due("walks() of K5", completeGraph(5).walks(), PlanarityTester.NOT_POSSIBLE);
        PlanarityTester x = new PlanarityTester();
        x.complete();
        due("walks() of 24 edges", x.walks(), 16);
        due("walks() of five edges", withEdges(0, 1, 2, 3, 4, 5, 6, 7, 8, 9).walks(), 5);
        x = completeGraph(4);
        x.walks();
        x.drop(0, 1);
        due("walks() behind a drop", x.walks(), 3);
        x.undo();
        due("walks() behind undo", x.walks(), 4);
    }

    private static void dueWalk(PlanarityTester x, int walk, int... vertices) {
        due("walkLength(" + walk + ")", x.walkLength(walk), vertices.length);
        for (int place = 0; place < vertices.length; place++) {
            String call = "walkVertex(" + walk + ", " + place + ")";
            due(call, x.walkVertex(walk, place), vertices[place]);
            int to = vertices[(place + 1) % vertices.length];
            due("walkOf(" + vertices[place] + ", " + to + ")", x.walkOf(vertices[place], to), walk);
        }
        int[] outside = {-1, vertices.length, Integer.MIN_VALUE, Integer.MAX_VALUE};
        for (int place : outside) {
            String call = "walkVertex(" + walk + ", " + place + ")";
            due(call, x.walkVertex(walk, place), PlanarityTester.NO_SUCH);
        }
    }

    private static PlanarityTester houses() {
        PlanarityTester x = completeGraph(4);
        x.add(0, 9);
        x.add(5, 6);
        return x;
    }

    private static void walkLength() {
        PlanarityTester x = houses();
        int[] lengths = {5, 3, 3, 3, 2};
        for (int walk = 0; walk < lengths.length; walk++) {
            due("walkLength(" + walk + ")", x.walkLength(walk), lengths[walk]);
        }
        int[] outside = {-1, 5, Integer.MIN_VALUE, Integer.MAX_VALUE};
        for (int walk : outside) {
            due("walkLength(" + walk + ")", x.walkLength(walk), PlanarityTester.NO_SUCH);
        }
        due("walkLength(0) of no edges", new PlanarityTester().walkLength(0),
                PlanarityTester.NO_SUCH);
        due("walkLength(-1) of K5", completeGraph(5).walkLength(-1), PlanarityTester.NOT_POSSIBLE);
    }

    private static void walkVertex() {
        PlanarityTester x = houses();
        dueWalk(x, 0, 0, 1, 3, 0, 9);
        dueWalk(x, 1, 0, 2, 1);
        dueWalk(x, 2, 0, 3, 2);
        dueWalk(x, 3, 1, 2, 3);
        dueWalk(x, 4, 5, 6);
        due("walkVertex(5, 0)", x.walkVertex(5, 0), PlanarityTester.NO_SUCH);
        due("walkVertex(-1, 0)", x.walkVertex(-1, 0), PlanarityTester.NO_SUCH);
        due("walkVertex(0, 0) of K5", completeGraph(5).walkVertex(0, 0),
                PlanarityTester.NOT_POSSIBLE);
        due("walkVertex(99, 99) of K5", completeGraph(5).walkVertex(99, 99),
                PlanarityTester.NOT_POSSIBLE);
    }

    private static void walkOf() {
        PlanarityTester x = houses();
        due("walkOf(0, 9)", x.walkOf(0, 9), 0);
        due("walkOf(9, 0)", x.walkOf(9, 0), 0);
        due("walkOf(1, 0)", x.walkOf(1, 0), 1);
        due("walkOf(6, 5)", x.walkOf(6, 5), 4);
        due("walkOf(0, 5)", x.walkOf(0, 5), PlanarityTester.NO_SUCH);
        due("walkOf(4, 4)", x.walkOf(4, 4), PlanarityTester.NO_SUCH);
        for (int v : NO_VERTICES) {
            due("walkOf(" + v + ", 0)", x.walkOf(v, 0), PlanarityTester.NO_SUCH);
            due("walkOf(0, " + v + ")", x.walkOf(0, v), PlanarityTester.NO_SUCH);
        }
        due("walkOf(0, 1) of K5", completeGraph(5).walkOf(0, 1), PlanarityTester.NOT_POSSIBLE);
        due("walkOf(0, 5) of K5", completeGraph(5).walkOf(0, 5), PlanarityTester.NO_SUCH);
    }

    private static void dueForbidden(PlanarityTester x, int... wants) {
        for (int what = 0; what < wants.length; what++) {
            due("forbidden(" + what + ")", x.forbidden(what), wants[what]);
        }
        due("forbidden(4)", x.forbidden(4), PlanarityTester.BAD_VALUE);
        due("forbidden(-1)", x.forbidden(-1), PlanarityTester.BAD_VALUE);
    }

    private static void forbidden() {
        int none = PlanarityTester.NONE;
        dueForbidden(new PlanarityTester(), none, none, none, none);
        dueForbidden(completeGraph(4), none, none, none, none);
        dueForbidden(completeGraph(5), 10, 31, 31, 5);
        PlanarityTester x = completeGraph(5);
        x.drop(0, 1);
        x.add(0, 7);
        x.add(7, 1);
        x.add(7, 8);
        dueForbidden(x, 11, 31 | 128, 31, 5);
        // All edges of a lesser vertex can go as long as a K5 of the greatest ones is left.
        dueForbidden(completeGraph(6), 10, 62, 62, 5);
        dueForbidden(completeGraph(10), 10, 992, 992, 5);
    }

    private static void inForbidden() {
        PlanarityTester x = completeGraph(6);
        due("inForbidden(0, 1)", x.inForbidden(0, 1), 0);
        due("inForbidden(2, 1)", x.inForbidden(2, 1), 1);
        due("inForbidden(4, 5)", x.inForbidden(4, 5), 1);
        due("inForbidden(0, 9)", x.inForbidden(0, 9), PlanarityTester.NO_SUCH);
        due("inForbidden(4, 4)", x.inForbidden(4, 4), PlanarityTester.NO_SUCH);
        for (int v : NO_VERTICES) {
            due("inForbidden(" + v + ", 0)", x.inForbidden(v, 0), PlanarityTester.NO_SUCH);
            due("inForbidden(0, " + v + ")", x.inForbidden(0, v), PlanarityTester.NO_SUCH);
        }
        x = completeGraph(4);
        due("inForbidden(0, 1) of K4", x.inForbidden(0, 1), PlanarityTester.NONE);
        due("inForbidden(0, 4) of K4", x.inForbidden(0, 4), PlanarityTester.NO_SUCH);
    }

    private static void ifFlipped() {
        PlanarityTester x = completeGraph(5);
        due("ifFlipped(2, 4)", x.ifFlipped(2, 4), 1);
        due("ifFlipped(8, 9)", x.ifFlipped(8, 9), 0);
        due("ifFlipped(5, 5)", x.ifFlipped(5, 5), PlanarityTester.BAD_VALUE);
        for (int v : NO_VERTICES) {
            due("ifFlipped(" + v + ", 0)", x.ifFlipped(v, 0), PlanarityTester.NO_SUCH);
            due("ifFlipped(0, " + v + ")", x.ifFlipped(0, v), PlanarityTester.NO_SUCH);
            due("ifFlipped of " + v + " twice", x.ifFlipped(v, v), PlanarityTester.NO_SUCH);
        }
        dueCounts(x, 10, 6, 1, 0, 0, 10, 0, 5, 0);
        x.drop(0, 1);
        due("ifFlipped(1, 0) of what is left", x.ifFlipped(1, 0), 0);
        due("ifFlipped(2, 3) of what is left", x.ifFlipped(2, 3), 1);
        due("ifFlipped(0, 9) of what is left", x.ifFlipped(0, 9), 1);
    }

    private static void joinable() {
        PlanarityTester x = new PlanarityTester();
        due("joinable(0) of no edges", x.joinable(0), 1022);
        due("joinable(9) of no edges", x.joinable(9), 511);
        for (int v : NO_VERTICES) {
            due("joinable(" + v + ")", x.joinable(v), PlanarityTester.NO_SUCH);
        }
        x = completeGraph(5);
        due("joinable(9) of K5", x.joinable(9), 0);
        x.drop(3, 4);
        due("joinable(3)", x.joinable(3), 992);
        due("joinable(0)", x.joinable(0), 992);
        due("joinable(7)", x.joinable(7), 1023 - 128);
        due("it changes nothing", x.count(7), 5);
    }

    private static void density() {
        due("density() of no edges", new PlanarityTester().density(), 0.0);
        due("density() of an edge", withEdges(0, 1).density(), 1.0 / 24.0);
        due("density() of K5", completeGraph(5).density(), 10.0 / 24.0);
        due("density() of K10", completeGraph(10).density(), 45.0 / 24.0);
        PlanarityTester x = new PlanarityTester();
        x.complete();
        due("density() of 24 edges", x.density(), 1.0);
    }

    /** Every call with arguments of all sizes, so that a machine's exception would end the test. */
    private static void anyArguments(PlanarityTester x) {
        int[] values = {Integer.MIN_VALUE, -65536, -33, -2, -1, 0, 1, 4, 9, 10, 11, 31, 32, 64, 100,
            126, 127, 65536, Integer.MAX_VALUE - 1, Integer.MAX_VALUE};
        for (int a : values) {
            x.append(a);
            x.neighbors(a);
            x.count(a);
            x.walkLength(a);
            x.forbidden(a);
            x.joinable(a);
            for (int b : values) {
                x.block(a, b);
                x.blockInfo(a, b);
                x.next(a, b);
                x.walkVertex(a, b);
                x.walkOf(a, b);
                x.inForbidden(a, b);
                x.ifFlipped(a, b);
                x.add(a, b);
                x.drop(b, a);
            }
        }
    }

    public static void main(String[] args) {
        Runnable[] promises = {PromiseTests::newObject, PromiseTests::add, PromiseTests::drop,
            PromiseTests::clear, PromiseTests::complete, PromiseTests::append,
            PromiseTests::clearText, PromiseTests::fault, PromiseTests::run, PromiseTests::undo,
            PromiseTests::save, PromiseTests::restore, PromiseTests::neighbors,
            PromiseTests::count, PromiseTests::block, PromiseTests::blockInfo,
            PromiseTests::planar, PromiseTests::next, PromiseTests::walks,
            PromiseTests::walkLength, PromiseTests::walkVertex, PromiseTests::walkOf,
            PromiseTests::forbidden, PromiseTests::inForbidden, PromiseTests::ifFlipped,
            PromiseTests::joinable, PromiseTests::density};
        for (Runnable test : promises) {
            promise++;
            test.run();
        }
        anyArguments(new PlanarityTester());
        anyArguments(completeGraph(4));
        anyArguments(completeGraph(10));
        anyArguments(houses());
        System.out.println(promise + " promises, " + wrong + " wrong answers");
        if (wrong != 0) {
            System.exit(1);
        }
    }
}
