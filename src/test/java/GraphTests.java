/** The sentences on vertices, edges, paths, blocks and components. */
public final class GraphTests {
    private GraphTests() {
    }

    private static void tenVertices() {
        PlanarityTester x = new PlanarityTester();
        Checks.due("add(0, 9)", x.add(0, 9), 1);
        Checks.due("neighbors(0)", x.neighbors(0), 512);
        Checks.due("neighbors(9)", x.neighbors(9), 1);
        for (int v : Checks.NO_VERTICES) {
            Checks.due("neighbors(" + v + ")", x.neighbors(v), Checks.NO_SUCH);
        }
    }

    private static void oneEdgeBetweenTwo() {
        for (int a = 0; a < 10; a++) {
            for (int b = 0; b < 10; b++) {
                PlanarityTester x = new PlanarityTester();
                x.add(a, b);
                x.add(a, b);
                x.add(b, a);
                Checks.due("edges between " + a + " and " + b, x.count(0), a == b ? 0 : 1);
            }
        }
        Checks.due("all edges", Checks.completeGraph(0, 9).count(0), 45);
    }

    private static void orderOfEdges() {
        PlanarityTester x = Checks.withEdges(2, 1, 9, 0);
        Checks.due("block(0, 9)", x.block(0, 9), 0);
        Checks.due("block(1, 2)", x.block(1, 2), 1);
        x = Checks.withEdges(3, 9, 9, 8, 3, 4);
        Checks.due("block(3, 4)", x.block(3, 4), 0);
        Checks.due("block(3, 9)", x.block(3, 9), 1);
        Checks.due("block(8, 9)", x.block(8, 9), 2);
    }

    private static void orderOfAllEdges() {
        for (int center = 0; center < 10; center++) {
            PlanarityTester star = new PlanarityTester();
            for (int v = 9; v >= 0; v--) {
                star.add(center, v);
            }
            for (int v = 0; v < 10; v++) {
                // Edges to lesser vertices come first, each with another lower vertex.
                int number = v < center ? v : v - 1;
                Checks.due("block(" + center + ", " + v + ") of a star", star.block(center, v),
                        v == center ? Checks.NO_SUCH : number);
            }
        }
    }

    private static void neighborsBothWays() {
        PlanarityTester x = Checks.withEdges(7, 2);
        Checks.due("neighbors(7)", x.neighbors(7), 4);
        Checks.due("neighbors(2)", x.neighbors(2), 128);
        x.drop(2, 7);
        Checks.due("neighbors(7)", x.neighbors(7), 0);
        Checks.due("neighbors(2)", x.neighbors(2), 0);
    }

    private static void noEdgesAtFirst() {
        PlanarityTester x = new PlanarityTester();
        Checks.due("count(0)", x.count(0), 0);
        for (int a = 0; a < 10; a++) {
            Checks.due("neighbors(" + a + ")", x.neighbors(a), 0);
            for (int b = 0; b < 10; b++) {
                Checks.due("drop(" + a + ", " + b + ")", x.drop(a, b), Checks.NO_SUCH);
            }
        }
    }

    private static void sameEdgeOrCycle() {
        PlanarityTester x = Checks.withEdges(0, 1, 1, 2, 2, 3, 3, 4, 4, 5);
        Checks.due("blocks of a path", x.count(2), 5);
        x.add(5, 0);
        Checks.due("blocks of a cycle", x.count(2), 1);
        x.add(5, 6);
        x.add(6, 7);
        x.add(7, 5);
        Checks.due("blocks of two cycles that meet in a vertex", x.count(2), 2);
        Checks.due("block(5, 7)", x.block(5, 7), 1);
        x.add(4, 6);
        Checks.due("blocks of cycles that meet in an edge", x.count(2), 1);
        x = Checks.withEdges(0, 1, 1, 2, 2, 0, 3, 4, 4, 5, 5, 3, 2, 3);
        Checks.due("blocks of two cycles and an edge between", x.count(2), 3);
    }

    private static void cycleOfAll() {
        PlanarityTester x = new PlanarityTester();
        for (int v = 0; v < 9; v++) {
            x.add(v, v + 1);
            Checks.due("blocks of a path", x.count(2), v + 1);
        }
        x.add(9, 0);
        Checks.dueBlock(x, 0, 1023, 10, 1, 2, 10);
    }

    private static void exactlyOneBlock() {
        PlanarityTester x = Checks.withEdges(0, 1, 1, 2, 2, 0, 2, 3, 3, 4, 4, 5, 5, 3, 7, 8, 6, 3);
        int edges = 0;
        for (int i = 0; i < x.count(2); i++) {
            edges += x.blockInfo(i, 1);
        }
        Checks.due("edges of all blocks", edges, 9);
        for (int a = 0; a < 10; a++) {
            for (int b = 0; b < 10; b++) {
                int block = x.block(a, b);
                Checks.due("block(" + a + ", " + b + ")", block, x.block(b, a));
                boolean there = (x.neighbors(a) >> b & 1) != 0;
                Checks.due("an edge has a block", block >= 0 ? 1 : 0, there ? 1 : 0);
            }
        }
    }

    private static void numbersOfBlocks() {
        PlanarityTester x = Checks.withEdges(8, 9, 5, 6, 6, 7, 7, 5, 0, 7, 1, 2, 2, 3, 3, 1);
        int[][] least = {{0, 7}, {1, 2}, {5, 6}, {8, 9}};
        for (int i = 0; i < least.length; i++) {
            Checks.due("block of a least edge", x.block(least[i][0], least[i][1]), i);
        }
        Checks.due("blockInfo(4, 0)", x.blockInfo(4, 0), Checks.NO_SUCH);
        x.add(0, 5);
        Checks.due("block(0, 5)", x.block(0, 5), 0);
        Checks.due("block(6, 7)", x.block(6, 7), 0);
        Checks.due("block(8, 9)", x.block(8, 9), 2);
    }

    private static void verticesOfBlocks() {
        PlanarityTester x = Checks.withEdges(0, 1, 1, 2, 2, 0, 2, 3, 9, 8);
        Checks.due("blockInfo(0, 0)", x.blockInfo(0, 0), 7);
        Checks.due("blockInfo(1, 0)", x.blockInfo(1, 0), 12);
        Checks.due("blockInfo(2, 0)", x.blockInfo(2, 0), 768);
    }

    private static void cutVertices() {
        PlanarityTester x = Checks.withEdges(0, 1);
        Checks.due("cut vertices of an edge", x.count(3), 0);
        x.add(1, 2);
        Checks.due("cut vertices of two edges", x.count(3), 1);
        x.add(0, 2);
        Checks.due("cut vertices of a triangle", x.count(3), 0);
        x.add(2, 3);
        x.add(2, 4);
        x.add(2, 5);
        Checks.due("cut vertices with four blocks at one vertex", x.count(3), 1);
        x.add(5, 9);
        Checks.due("cut vertices with one more", x.count(3), 2);
        x = Checks.withEdges(0, 5, 1, 2, 5, 6);
        Checks.due("cut vertices of the first and the last block", x.count(3), 1);
    }

    private static void bridges() {
        PlanarityTester x = Checks.withEdges(0, 1, 1, 2, 2, 3);
        Checks.due("bridges of a path", x.count(4), 3);
        x.add(3, 1);
        Checks.due("bridges with a cycle", x.count(4), 1);
        x.add(3, 0);
        Checks.due("bridges of one block", x.count(4), 0);
    }

    private static void components() {
        PlanarityTester x = new PlanarityTester();
        Checks.due("components without edges", x.count(1), 10);
        for (int v = 9; v > 0; v--) {
            x.add(v, v - 1);
            Checks.due("components of a path", x.count(1), v);
        }
        x.add(0, 9);
        Checks.due("components of a cycle", x.count(1), 1);
        x.drop(4, 5);
        Checks.due("components of a path", x.count(1), 1);
        x.drop(6, 7);
        Checks.due("components of two paths", x.count(1), 2);
        Checks.due("components of two complete graphs", twoGraphs().count(1), 2);
    }

    private static PlanarityTester twoGraphs() {
        PlanarityTester x = Checks.completeGraph(0, 4);
        Checks.join(x, 5, 9);
        return x;
    }

    private static void atMost512Calls() {
        PlanarityTester x = new PlanarityTester();
        for (int call = 1; call <= 510; call += 2) {
            Checks.due("add as the call " + call, x.add(3, 8), 1);
            Checks.due("drop as the next call", x.drop(8, 3), 0);
        }
        Checks.due("count(5) as the call 511", x.count(5), 255);
        Checks.due("count(6) as the call 512", x.count(6), 255);
        x = new PlanarityTester();
        for (int call = 1; call <= 511; call++) {
            Checks.due("complete() as the call " + call, x.complete(), call == 1 ? 24 : 0);
        }
        Checks.due("count(7) as the call 512", x.count(7), 5);
    }

    public static void main(String[] args) {
        Checks.sentence("There are 10 vertices, 0 to 9.", GraphTests::tenVertices);
        Checks.sentence("An edge joins two different vertices; there is at most one edge between two"
                + " vertices.", GraphTests::oneEdgeBetweenTwo);
        Checks.sentence("of two edges, the one with the lower vertex that is less is the lesser one",
                GraphTests::orderOfEdges);
        Checks.sentence("and of two edges with the same lower vertex, the one with the higher vertex"
                + " that is less.", GraphTests::orderOfAllEdges);
        Checks.sentence("Two vertices with an edge between them are neighbors.",
                GraphTests::neighborsBothWays);
        Checks.sentence("At first there are no edges.", GraphTests::noEdgesAtFirst);
        Checks.sentence("Two edges belong to the same block if they are the same edge, or if some"
                + " cycle of the graph contains both.", GraphTests::sameEdgeOrCycle);
        Checks.sentence("if some cycle of the graph contains both", GraphTests::cycleOfAll);
        Checks.sentence("So each edge belongs to exactly one block.", GraphTests::exactlyOneBlock);
        Checks.sentence("Blocks are numbered from 0 in the order of their least edges.",
                GraphTests::numbersOfBlocks);
        Checks.sentence("The vertices of a block are those of its edges.",
                GraphTests::verticesOfBlocks);
        Checks.sentence("A cut vertex is a vertex that belongs to more than one block.",
                GraphTests::cutVertices);
        Checks.sentence("A bridge is an edge that is the only edge of its block.",
                GraphTests::bridges);
        Checks.sentence("A component is a largest set of vertices each two of which are joined by a"
                + " path; a vertex without edges is a component of its own.", GraphTests::components);
        Checks.sentence("An object is used for at most 512 calls after it has been made",
                GraphTests::atMost512Calls);
        Checks.end();
    }
}
