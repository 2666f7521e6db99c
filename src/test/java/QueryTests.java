/** What each call returns at the bounds of its arguments, and for the least and largest graphs. */
public final class QueryTests {
    private static final int NO_SUCH = Checks.NO_SUCH;
    private static final int BAD_VALUE = Checks.BAD_VALUE;
    private static final int NOT_POSSIBLE = Checks.NOT_POSSIBLE;
    private static final int NONE = Checks.NONE;
    private static final int[] NUMBERS_OUTSIDE = {-1, Integer.MIN_VALUE, Integer.MAX_VALUE, 1 << 30};

    private QueryTests() {
    }

    private static PlanarityTester empty() {
        return new PlanarityTester();
    }

    private static PlanarityTester largestPlanar() {
        PlanarityTester x = new PlanarityTester();
        x.complete();
        return x;
    }

    private static void add() {
        PlanarityTester x = new PlanarityTester();
        int edges = 0;
        for (int a = 0; a < 10; a++) {
            for (int b = a + 1; b < 10; b++) {
                edges++;
                Checks.due("add(" + b + ", " + a + ")", x.add(b, a), edges);
                Checks.due("add(" + a + ", " + b + ")", x.add(a, b), NOT_POSSIBLE);
            }
            Checks.due("add(" + a + ", " + a + ")", x.add(a, a), BAD_VALUE);
        }
        for (int v : Checks.NO_VERTICES) {
            for (int w = 0; w < 10; w++) {
                Checks.due("add(" + v + ", " + w + ")", empty().add(v, w), NO_SUCH);
                Checks.due("add(" + w + ", " + v + ")", empty().add(w, v), NO_SUCH);
            }
        }
    }

    private static void drop() {
        PlanarityTester x = Checks.completeGraph(0, 9);
        int edges = 45;
        for (int a = 0; a < 10; a++) {
            for (int b = a + 1; b < 10; b++) {
                edges--;
                Checks.due("drop(" + b + ", " + a + ")", x.drop(b, a), edges);
                Checks.due("drop(" + a + ", " + b + ")", x.drop(a, b), NO_SUCH);
            }
            Checks.due("drop(" + a + ", " + a + ")", x.drop(a, a), NO_SUCH);
        }
        for (int v : Checks.NO_VERTICES) {
            for (int w = 0; w < 10; w++) {
                Checks.due("drop(" + v + ", " + w + ")", x.drop(v, w), NO_SUCH);
                Checks.due("drop(" + w + ", " + v + ")", x.drop(w, v), NO_SUCH);
            }
        }
    }

    private static void complete() {
        PlanarityTester x = empty();
        Checks.due("complete() of no edges", x.complete(), 24);
        // All pairs with 0 come first, and then all pairs with 1; no one of them is in the way.
        Checks.due("neighbors(0)", x.neighbors(0), 1022);
        Checks.due("neighbors(1)", x.neighbors(1), 1021);
        Checks.due("complete() of 24 edges", x.complete(), 0);
        Checks.due("complete() of an edge", Checks.withEdges(8, 9).complete(), 23);
        PlanarityTester k5 = Checks.completeGraph(0, 4);
        Checks.due("complete() of K5", k5.complete(), NOT_POSSIBLE);
        k5.drop(3, 4);
        Checks.due("complete() of K5 without an edge", k5.complete(), 15);
        Checks.due("block(3, 4) can not come back", k5.block(3, 4), NO_SUCH);
        Checks.due("planar()", k5.planar(), 1);
        Checks.due("complete() of K10", Checks.completeGraph(0, 9).complete(), NOT_POSSIBLE);
    }

    private static void pairsFromTheLeastOn() {
        PlanarityTester x = Checks.withEdges(3, 4, 3, 5, 3, 6, 4, 5, 4, 6, 5, 6);
        // The vertex 0 comes first and takes the face 3, 4, 5; then 1 takes the face 0, 3, 4.
        Checks.due("complete()", x.complete(), 18);
        Checks.due("neighbors(0)", x.neighbors(0), 2 | 4 | 8 | 16 | 32 | 128 | 256 | 512);
        Checks.due("block(0, 6)", x.block(0, 6), NO_SUCH);
        Checks.due("neighbors(1) begins with 0, 2, 3, 4", x.neighbors(1) & 127, 29);
    }

    private static void neighbors() {
        PlanarityTester x = Checks.completeGraph(0, 9);
        for (int v = 0; v < 10; v++) {
            Checks.due("neighbors(" + v + ") of no edges", empty().neighbors(v), 0);
            Checks.due("neighbors(" + v + ") of all", x.neighbors(v), 1023 & ~(1 << v));
        }
        for (int v : Checks.NO_VERTICES) {
            Checks.due("neighbors(" + v + ")", x.neighbors(v), NO_SUCH);
        }
    }

    private static void count() {
        Checks.dueCounts(empty(), 0, 10, 0, 0, 0, 0, 0, 0, 0, BAD_VALUE);
        PlanarityTester x = Checks.completeGraph(0, 9);
        Checks.write(x, "x".repeat(81));
        Checks.dueCounts(x, 45, 1, 1, 0, 0, 45, 0, 5, 80, BAD_VALUE);
        x.clear();
        Checks.dueCounts(x, 0, 10, 0, 0, 0, 45, 45, 5, 80, BAD_VALUE);
        for (int what : NUMBERS_OUTSIDE) {
            Checks.due("count(" + what + ")", x.count(what), BAD_VALUE);
        }
    }

    /** By add, drop, clear, complete and run. */
    private static void addedAndDropped() {
        PlanarityTester x = Checks.withEdges(0, 1);
        Checks.due("count(5) by add", x.count(5), 1);
        x.drop(0, 1);
        Checks.due("count(6) by drop", x.count(6), 1);
        x.complete();
        Checks.due("count(5) by complete", x.count(5), 25);
        x.clear();
        Checks.due("count(6) by clear", x.count(6), 25);
        Checks.write(x, "add 0-1;flip 0-2;drop 0-1;flip 0-2;add 3-4;add 3-4;drop 5-6");
        x.run();
        Checks.due("count(5) by run", x.count(5), 28);
        Checks.due("count(6) by run", x.count(6), 27);
        x.add(3, 4);
        x.drop(0, 1);
        Checks.due("count(5) by nothing", x.count(5), 28);
        Checks.due("count(6) by nothing", x.count(6), 27);
    }

    private static void block() {
        for (int a = 0; a < 10; a++) {
            for (int b = 0; b < 10; b++) {
                PlanarityTester x = Checks.withEdges(0, 9, 9, 4);
                int want = (x.neighbors(a) >> b & 1) == 0 ? NO_SUCH : a + b == 9 ? 0 : 1;
                Checks.due("block(" + a + ", " + b + ")", x.block(a, b), want);
                Checks.due("block(" + a + ", " + b + ") of no edges", empty().block(a, b), NO_SUCH);
            }
        }
        for (int v : Checks.NO_VERTICES) {
            Checks.due("block(" + v + ", 0)", Checks.completeGraph(0, 9).block(v, 0), NO_SUCH);
            Checks.due("block(0, " + v + ")", Checks.completeGraph(0, 9).block(0, v), NO_SUCH);
        }
    }

    private static void blockInfo() {
        Checks.due("blockInfo(0, 0) of no edges", empty().blockInfo(0, 0), NO_SUCH);
        PlanarityTester x = new PlanarityTester();
        for (int v = 0; v < 9; v++) {
            x.add(v, 9);
        }
        Checks.dueBlock(x, 8, 256 | 512, 1, 1, 1, 1, BAD_VALUE);
        Checks.due("blockInfo(9, 0) of nine blocks", x.blockInfo(9, 0), NO_SUCH);
        for (int number : NUMBERS_OUTSIDE) {
            Checks.due("blockInfo(" + number + ", 0)", x.blockInfo(number, 0), NO_SUCH);
            Checks.due("blockInfo(0, " + number + ")", x.blockInfo(0, number), BAD_VALUE);
        }
    }

    private static void faces() {
        Checks.dueBlock(Checks.withEdges(8, 9), 0, 768, 1, 1, 1, 1);
        Checks.dueBlock(Checks.withEdges(7, 8, 8, 9, 9, 7), 0, 896, 3, 1, 2, 3);
        Checks.dueBlock(Checks.completeGraph(6, 9), 0, 960, 6, 1, 4, 6);
        Checks.dueBlock(Checks.completeGraph(5, 9), 0, 992, 10, 0, NONE, 7);
        Checks.dueBlock(largestPlanar(), 0, 1023, 24, 1, 16, 24);
        PlanarityTester all = Checks.completeGraph(0, 9);
        Checks.dueBlock(all, 0, 1023, 45, 0, NONE);
        Checks.due("fewer edges placed than there are", all.blockInfo(0, 4) < 45 ? 1 : 0, 1);
    }

    private static void planar() {
        Checks.due("planar() of no edges", empty().planar(), 1);
        Checks.due("planar() of K4", Checks.completeGraph(0, 3).planar(), 1);
        Checks.due("planar() of K5", Checks.completeGraph(0, 4).planar(), 0);
        Checks.due("planar() of K5 at the end", Checks.completeGraph(5, 9).planar(), 0);
        Checks.due("planar() of K10", Checks.completeGraph(0, 9).planar(), 0);
        PlanarityTester x = largestPlanar();
        Checks.due("planar() of 24 edges", x.planar(), 1);
        for (int a = 0; a < 10; a++) {
            for (int b = a + 1; b < 10; b++) {
                if (x.add(a, b) == 25) {
                    Checks.due("planar() of 25 edges", x.planar(), 0);
                    x.undo();
                }
            }
        }
    }

    private static void next() {
        PlanarityTester x = Checks.withEdges(0, 9);
        Checks.dueOrder(x, 0, 9);
        Checks.dueOrder(x, 9, 0);
        for (int v = 0; v < 10; v++) {
            Checks.due("next(" + v + ", " + v + ")", x.next(v, v), NO_SUCH);
            Checks.due("next(5, " + v + ")", x.next(5, v), NO_SUCH);
        }
        for (int v : Checks.NO_VERTICES) {
            Checks.due("next(" + v + ", 0)", x.next(v, 0), NO_SUCH);
            Checks.due("next(0, " + v + ")", x.next(0, v), NO_SUCH);
        }
    }

    private static void walks() {
        Checks.due("walks() of no edges", empty().walks(), 0);
        Checks.due("walks() of an edge", Checks.withEdges(4, 5).walks(), 1);
        Checks.due("walks() of a triangle", Checks.completeGraph(4, 6).walks(), 2);
        Checks.due("walks() of 24 edges", largestPlanar().walks(), 16);
        Checks.due("walks() of K5", Checks.completeGraph(0, 4).walks(), NOT_POSSIBLE);
        PlanarityTester x = Checks.withEdges(0, 1, 2, 3);
        Checks.due("walks() of two edges", x.walks(), 2);
        x.clear();
        Checks.due("walks() behind clear()", x.walks(), 0);
        Checks.due("walkLength(0) behind clear()", x.walkLength(0), NO_SUCH);
    }

    private static void walkLength() {
        Checks.due("walkLength(0) of no edges", empty().walkLength(0), NO_SUCH);
        PlanarityTester x = largestPlanar();
        for (int walk = 0; walk < 16; walk++) {
            Checks.due("walkLength(" + walk + ")", x.walkLength(walk), 3);
        }
        Checks.due("walkLength(16)", x.walkLength(16), NO_SUCH);
        for (int number : NUMBERS_OUTSIDE) {
            Checks.due("walkLength(" + number + ")", x.walkLength(number), NO_SUCH);
        }
        PlanarityTester tree = new PlanarityTester();
        for (int v = 0; v < 9; v++) {
            tree.add(v, v + 1);
        }
        Checks.dueWalk(tree, 0, 0, 1, 2, 3, 4, 5, 6, 7, 8, 9, 8, 7, 6, 5, 4, 3, 2, 1);
        Checks.due("walkLength(1) of a tree", tree.walkLength(1), NO_SUCH);
    }

    private static void walkVertex() {
        Checks.due("walkVertex(0, 0) of no edges", empty().walkVertex(0, 0), NO_SUCH);
        PlanarityTester x = Checks.withEdges(3, 5, 5, 8, 8, 3, 1, 2);
        Checks.dueWalk(x, 0, 1, 2);
        Checks.dueWalk(x, 1, 3, 5, 8);
        Checks.dueWalk(x, 2, 3, 8, 5);
        // Behind the last place stands the next walk, which must not be seen from here.
        Checks.due("walkVertex(0, 2)", x.walkVertex(0, 2), NO_SUCH);
        Checks.due("walkVertex(1, 3)", x.walkVertex(1, 3), NO_SUCH);
        Checks.due("walkVertex(1, -1)", x.walkVertex(1, -1), NO_SUCH);
        Checks.due("walkVertex(2, 3)", x.walkVertex(2, 3), NO_SUCH);
        Checks.due("walkVertex(3, 0)", x.walkVertex(3, 0), NO_SUCH);
        for (int number : NUMBERS_OUTSIDE) {
            Checks.due("walkVertex(0, " + number + ")", x.walkVertex(0, number), NO_SUCH);
            Checks.due("walkVertex(" + number + ", 0)", x.walkVertex(number, 0), NO_SUCH);
        }
    }

    private static void walkOf() {
        PlanarityTester x = Checks.withEdges(0, 1, 8, 9);
        Checks.due("walkOf(0, 1)", x.walkOf(0, 1), 0);
        Checks.due("walkOf(9, 8)", x.walkOf(9, 8), 1);
        for (int v = 0; v < 10; v++) {
            Checks.due("walkOf(" + v + ", " + v + ")", x.walkOf(v, v), NO_SUCH);
            Checks.due("walkOf(5, " + v + ")", x.walkOf(5, v), NO_SUCH);
        }
        for (int v : Checks.NO_VERTICES) {
            Checks.due("walkOf(" + v + ", 0)", x.walkOf(v, 0), NO_SUCH);
            Checks.due("walkOf(0, " + v + ")", x.walkOf(0, v), NO_SUCH);
        }
    }

    private static void forbidden() {
        PlanarityTester x = Checks.completeGraph(5, 9);
        int[] wants = {10, 992, 992, 5, BAD_VALUE};
        for (int what = 0; what < wants.length; what++) {
            Checks.due("forbidden(" + what + ")", x.forbidden(what), wants[what]);
        }
        for (int number : NUMBERS_OUTSIDE) {
            Checks.due("forbidden(" + number + ")", x.forbidden(number), BAD_VALUE);
        }
        for (int what = 0; what < 4; what++) {
            Checks.due("forbidden(" + what + ") of no edges", empty().forbidden(what), NONE);
            Checks.due("forbidden(" + what + ") of 24", largestPlanar().forbidden(what), NONE);
        }
        x.drop(5, 6);
        Checks.due("forbidden(0) of what is left", x.forbidden(0), NONE);
        x.undo();
        Checks.due("forbidden(0) behind undo", x.forbidden(0), 10);
    }

    private static void inForbidden() {
        PlanarityTester x = Checks.completeGraph(5, 9);
        x.add(0, 5);
        Checks.due("inForbidden(9, 5)", x.inForbidden(9, 5), 1);
        Checks.due("inForbidden(5, 0)", x.inForbidden(5, 0), 0);
        Checks.due("inForbidden(0, 1)", x.inForbidden(0, 1), NO_SUCH);
        Checks.due("inForbidden(9, 9)", x.inForbidden(9, 9), NO_SUCH);
        for (int v : Checks.NO_VERTICES) {
            Checks.due("inForbidden(" + v + ", 5)", x.inForbidden(v, 5), NO_SUCH);
            Checks.due("inForbidden(5, " + v + ")", x.inForbidden(5, v), NO_SUCH);
        }
        Checks.due("inForbidden(0, 1) of 24", largestPlanar().inForbidden(0, 1), NONE);
    }

    private static void ifFlipped() {
        PlanarityTester x = largestPlanar();
        for (int a = 0; a < 10; a++) {
            for (int b = 0; b < 10; b++) {
                int there = x.neighbors(a) >> b & 1;
                Checks.due("ifFlipped(" + a + ", " + b + ") of 24", x.ifFlipped(a, b),
                        a == b ? BAD_VALUE : there);
                Checks.due("ifFlipped(" + a + ", " + b + ") of none", empty().ifFlipped(a, b),
                        a == b ? BAD_VALUE : 1);
            }
        }
        Checks.due("count(0) is as before", x.count(0), 24);
        PlanarityTester k5 = Checks.completeGraph(5, 9);
        Checks.due("ifFlipped(9, 5) of K5", k5.ifFlipped(9, 5), 1);
        Checks.due("ifFlipped(0, 1) of K5", k5.ifFlipped(0, 1), 0);
        k5.drop(5, 9);
        Checks.due("ifFlipped(9, 5) of K5 without it", k5.ifFlipped(9, 5), 0);
        for (int v : Checks.NO_VERTICES) {
            Checks.due("ifFlipped(" + v + ", 0)", x.ifFlipped(v, 0), NO_SUCH);
            Checks.due("ifFlipped(0, " + v + ")", x.ifFlipped(0, v), NO_SUCH);
        }
    }

    private static void joinable() {
        PlanarityTester x = largestPlanar();
        for (int v = 0; v < 10; v++) {
            Checks.due("joinable(" + v + ") of no edges", empty().joinable(v), 1023 & ~(1 << v));
            Checks.due("joinable(" + v + ") of 24", x.joinable(v), 0);
        }
        x = Checks.completeGraph(0, 4);
        Checks.due("joinable(9) of K5", x.joinable(9), 0);
        x.drop(0, 1);
        Checks.due("joinable(0) without 0-1", x.joinable(0), 992);
        Checks.due("joinable(9) without 0-1", x.joinable(9), 511);
        for (int v : Checks.NO_VERTICES) {
            Checks.due("joinable(" + v + ")", x.joinable(v), NO_SUCH);
        }
    }

    private static void density() {
        PlanarityTester x = empty();
        Checks.due("density() of no edges", x.density(), 0.0);
        for (int edges = 1; edges <= 9; edges++) {
            x.add(0, edges);
            Checks.due("density() of " + edges, x.density(), edges / 24.0);
        }
        Checks.due("density() of 24", largestPlanar().density(), 1.0);
        Checks.due("density() of 45", Checks.completeGraph(0, 9).density(), 1.875);
        Checks.due("density() is a zero without a sign", 1.0 / empty().density(),
                Double.POSITIVE_INFINITY);
    }

    public static void main(String[] args) {
        Checks.sentence("Returns the number of edges; NO_SUCH if there is no such vertex; BAD_VALUE"
                + " if both are the same; NOT_POSSIBLE if there is an edge between them.",
                QueryTests::add);
        Checks.sentence("Returns the number of edges that are left; NO_SUCH if there is no such"
                + " vertex, or no edge between both.", QueryTests::drop);
        Checks.sentence("Returns the number of edges that are added; NOT_POSSIBLE if the graph is not"
                + " planar.", QueryTests::complete);
        Checks.sentence("all pairs of different vertices without an edge are looked at once, from the"
                + " least to the greatest (as edges); each is added as an edge if the graph is planar"
                + " with it.", QueryTests::pairsFromTheLeastOn);
        Checks.sentence("Returns the neighbors, as a bit mask in which bit k stands for the vertex k;"
                + " NO_SUCH if there is no such vertex.", QueryTests::neighbors);
        Checks.sentence("Returns the number; BAD_VALUE if what is out of range.", QueryTests::count);
        Checks.sentence("5 of edges added so far, 6 of edges dropped so far (by add, drop, clear,"
                + " complete and run)", QueryTests::addedAndDropped);
        Checks.sentence("Returns the number of the block; NO_SUCH if there is no such vertex, or no"
                + " edge between both.", QueryTests::block);
        Checks.sentence("Returns the number; NO_SUCH if there is no such block; BAD_VALUE if what is"
                + " out of range.", QueryTests::blockInfo);
        Checks.sentence("3 for its number of faces (2 at least; 1 for a block with one edge; NONE if"
                + " it is not planar), 4 for the number of edges that are placed when its embedding"
                + " ends", QueryTests::faces);
        Checks.sentence("Returns 1 if it is, otherwise 0.", QueryTests::planar);
        embeddingAndForbidden();
        Checks.end();
    }

    private static void embeddingAndForbidden() {
        Checks.sentence("Returns the neighbor behind it in the order around the vertex; NO_SUCH if"
                + " there is no such vertex, or it is no neighbor;", QueryTests::next);
        Checks.sentence("Returns the number; NOT_POSSIBLE if the graph is not planar.",
                QueryTests::walks);
        Checks.sentence("Returns the number of its darts; NOT_POSSIBLE if the graph is not planar;"
                + " NO_SUCH if there is no such walk.", QueryTests::walkLength);
        Checks.sentence("Returns the vertex at this place; NOT_POSSIBLE if the graph is not planar;"
                + " NO_SUCH if there is no such walk, or no such place in it.",
                QueryTests::walkVertex);
        Checks.sentence("Returns the number of the walk; NO_SUCH if there is no such dart;"
                + " NOT_POSSIBLE if the graph is not planar.", QueryTests::walkOf);
        Checks.sentence("Returns the number; BAD_VALUE if what is out of range; NONE if the graph is"
                + " planar.", QueryTests::forbidden);
        Checks.sentence("Returns 1 if it does, otherwise 0; NO_SUCH if there is no such vertex, or no"
                + " edge between both; NONE if the graph is planar.", QueryTests::inForbidden);
        Checks.sentence("Returns 1 if the graph is planar with the edge between both added (if it is"
                + " not there) or dropped (if it is there), otherwise 0; NO_SUCH if there is no such"
                + " vertex; BAD_VALUE if both are the same.", QueryTests::ifFlipped);
        Checks.sentence("Returns the other vertices that are no neighbors of it, and with which the"
                + " graph would be planar if an edge between both were added, as a bit mask; NO_SUCH"
                + " if there is no such vertex.", QueryTests::joinable);
        Checks.sentence("Returns the number of edges, as a double, divided by 24.",
                QueryTests::density);
    }
}
