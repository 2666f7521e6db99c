/** The sentences on embeddings, orders around vertices, walks, and forbidden subgraphs. */
public final class EmbeddingTests {
    private EmbeddingTests() {
    }

    /** The vertices 2 to last, each joined with 0 and 1, which are joined too. */
    private static PlanarityTester book(int last) {
        PlanarityTester x = Checks.withEdges(0, 1);
        for (int v = 2; v <= last; v++) {
            x.add(0, v);
            x.add(1, v);
        }
        return x;
    }

    private static PlanarityTester threeByThree() {
        return Checks.withEdges(0, 3, 0, 4, 0, 5, 1, 3, 1, 4, 1, 5, 2, 3, 2, 4, 2, 5);
    }

    private static void blockWithOneEdge() {
        PlanarityTester x = Checks.withEdges(3, 9);
        Checks.dueBlock(x, 0, 8 | 512, 1, 1, 1, 1);
        Checks.dueOrder(x, 3, 9);
        Checks.dueOrder(x, 9, 3);
    }

    private static void cycleOfLeastEdge() {
        // The longer way from 1 to 0 by 2 and 3 comes first in lexicographic order.
        PlanarityTester x = Checks.withEdges(0, 1, 0, 3, 1, 2, 1, 3, 2, 3);
        Checks.dueOrder(x, 1, 0, 2, 3);
        Checks.dueOrder(x, 3, 0, 1, 2);
        // The path is looked for from the higher vertex 3: 3, 1, 5, 0 and not 3, 2, 4, 0.
        x = Checks.withEdges(0, 3, 0, 4, 0, 5, 1, 3, 1, 5, 2, 3, 2, 4);
        Checks.dueOrder(x, 0, 3, 5, 4);
        Checks.dueOrder(x, 3, 0, 2, 1);
    }

    private static void firstPathOfSeveral() {
        // The cycle goes by 2 and not by 3.
        PlanarityTester x = Checks.withEdges(0, 1, 0, 2, 0, 3, 1, 2, 1, 3);
        Checks.dueOrder(x, 0, 1, 2, 3);
        Checks.dueOrder(x, 1, 0, 3, 2);
        // From the fragment of 2 and 3, which has both contacts, the path goes by 2.
        x = Checks.withEdges(0, 1, 0, 2, 0, 3, 0, 4, 1, 2, 1, 3, 1, 4, 2, 3);
        Checks.dueOrder(x, 0, 1, 2, 3, 4);
        Checks.dueOrder(x, 1, 0, 4, 3, 2);
        Checks.dueOrder(x, 2, 0, 1, 3);
        Checks.dueOrder(x, 3, 0, 2, 1);
    }

    private static void facesOfTheCycle() {
        // The path by 3 goes into the face 0, 1, 2, so that 3 stands between 2 and 1 around 0.
        PlanarityTester x = book(3);
        Checks.dueWalk(x, 0, 0, 1, 3);
        Checks.dueWalk(x, 1, 0, 2, 1);
        Checks.dueWalk(x, 2, 0, 3, 1, 2);
    }

    private static void cycleAlone() {
        PlanarityTester x = Checks.withEdges(4, 7, 7, 9, 9, 4);
        Checks.dueBlock(x, 0, 16 | 128 | 512, 3, 1, 2, 3);
        x.add(9, 5);
        x.add(5, 4);
        Checks.dueBlock(x, 0, 16 | 32 | 128 | 512, 5, 1, 3, 5);
    }

    private static void fragmentsOfBothKinds() {
        // The fragment of 3 (its least edge is 2-3) comes before the edge 2-4.
        PlanarityTester x = Checks.withEdges(0, 1, 0, 2, 0, 4, 1, 2, 1, 4, 2, 3, 2, 4, 3, 4);
        Checks.dueOrder(x, 2, 0, 1, 3, 4);
        Checks.dueOrder(x, 4, 0, 2, 3, 1);
        // The edge 2-3 comes before the fragment of 4 (its least edge is 2-4).
        x = Checks.withEdges(0, 1, 0, 2, 0, 3, 1, 2, 1, 3, 2, 3, 2, 4, 3, 4);
        Checks.dueOrder(x, 2, 0, 1, 3, 4);
        Checks.dueOrder(x, 3, 0, 4, 2, 1);
    }

    private static void contactsOfFragments() {
        // The fragment of 4 has the contacts 0, 1 and 2, so that it fits the first two faces alone.
        PlanarityTester x = Checks.withEdges(0, 1, 0, 2, 1, 2, 0, 4, 1, 4, 2, 4);
        Checks.dueBlock(x, 0, 23, 6, 1, 4, 6);
        Checks.dueWalk(x, 0, 0, 1, 4);
        Checks.dueWalk(x, 1, 0, 2, 1);
        Checks.dueWalk(x, 2, 0, 4, 2);
        Checks.dueWalk(x, 3, 1, 2, 4);
    }

    private static void facesThatFit() {
        // The edge 2-3 fits neither the face 0, 1, 2 nor the face 0, 1, 3, which have one end each.
        PlanarityTester x = Checks.completeGraph(0, 3);
        Checks.dueBlock(x, 0, 15, 6, 1, 4, 6);
        Checks.dueOrder(x, 0, 1, 2, 3);
        Checks.dueOrder(x, 1, 0, 3, 2);
        Checks.dueOrder(x, 2, 0, 1, 3);
        Checks.dueOrder(x, 3, 0, 2, 1);
    }

    private static void orderOfFragments() {
        // The fragment of 1 has the least edge 1-3, and the contacts 3 and 5; the fragment of 4 has
        // the least edge 2-4, and the contacts 2 and 3.
        PlanarityTester x = Checks.withEdges(0, 2, 0, 5, 1, 3, 1, 5, 2, 3, 2, 4, 3, 4, 3, 5);
        Checks.dueOrder(x, 2, 0, 3, 4);
        Checks.dueOrder(x, 3, 1, 5, 4, 2);
        Checks.dueOrder(x, 5, 0, 3, 1);
        // The fragments of 3 and 4 have the least edges 0-3 and 0-4, and then 2-3 and 1-4.
        x = Checks.withEdges(0, 1, 0, 2, 1, 2, 0, 3, 2, 3, 0, 4, 1, 4);
        Checks.dueOrder(x, 0, 1, 2, 3, 4);
        Checks.dueOrder(x, 1, 0, 4, 2);
        Checks.dueOrder(x, 2, 0, 1, 3);
    }

    private static void noFaceFits() {
        Checks.dueBlock(Checks.completeGraph(0, 4), 0, 31, 10, 0, Checks.NONE, 7);
        // A fragment that fits one face comes before the one that fits none, and is not placed.
        Checks.dueBlock(Checks.withEdges(0, 2, 0, 3, 0, 4, 0, 5, 1, 2, 1, 3, 1, 4, 1, 5, 2, 3, 2, 4,
                3, 4), 0, 63, 11, 0, Checks.NONE, 8);
    }

    private static void oneFaceFirst() {
        PlanarityTester x = Checks.withEdges(0, 1, 0, 2, 0, 3, 0, 5, 1, 3, 1, 4, 1, 5, 2, 3, 2, 4);
        Checks.dueOrder(x, 0, 1, 5, 3, 2);
        Checks.dueOrder(x, 1, 0, 4, 3, 5);
        Checks.dueOrder(x, 2, 0, 3, 4);
    }

    private static void firstOfSeveralWithOneFace() {
        PlanarityTester x = Checks.withEdges(0, 1, 0, 2, 0, 3, 1, 2, 1, 3, 2, 3, 2, 4, 3, 4);
        Checks.dueOrder(x, 2, 0, 1, 3, 4);
        Checks.dueOrder(x, 3, 0, 4, 2, 1);
    }

    private static void firstFragmentOfAll() {
        Checks.dueOrder(book(4), 0, 1, 2, 3, 4);
        Checks.dueOrder(book(4), 1, 0, 4, 3, 2);
        Checks.dueOrder(book(9), 0, 1, 2, 3, 4, 5, 6, 7, 8, 9);
    }

    private static void leastFace() {
        // Three faces have 0 and 1 when 4 is placed; it goes into the face 0, 1, 3.
        PlanarityTester x = book(4);
        Checks.dueWalk(x, 0, 0, 1, 4);
        Checks.dueWalk(x, 1, 0, 2, 1);
        Checks.dueWalk(x, 2, 0, 3, 1, 2);
        Checks.dueWalk(x, 3, 0, 4, 1, 3);
    }

    private static void leastContact() {
        // From the contact 1, the face that keeps its number would be the other part.
        PlanarityTester x = book(4);
        Checks.due("next(0, 3)", x.next(0, 3), 4);
        Checks.due("next(1, 0)", x.next(1, 0), 4);
    }

    private static void shortestPathOfFragment() {
        // From 0 to 1 by 4 alone, although the way by 2 and 4 comes first in lexicographic order.
        PlanarityTester x = Checks.withEdges(0, 1, 0, 2, 0, 3, 0, 4, 1, 3, 1, 4, 2, 4);
        Checks.dueOrder(x, 0, 1, 3, 4, 2);
        Checks.dueOrder(x, 4, 0, 1, 2);
        // From 0 by 2 to the contact 3, which is nearer than the contact 1 by 2 and 4.
        x = Checks.withEdges(0, 1, 0, 2, 0, 3, 0, 5, 1, 3, 1, 4, 1, 5, 2, 3, 2, 4);
        Checks.dueOrder(x, 1, 0, 4, 3, 5);
        // Paths of the same length are compared from the least contact on, not from their ends.
        x = Checks.withEdges(0, 1, 0, 2, 0, 3, 0, 4, 0, 5, 1, 3, 1, 4, 2, 3, 2, 4, 2, 5);
        Checks.dueOrder(x, 0, 1, 3, 5, 2, 4);
        Checks.dueOrder(x, 2, 0, 5, 3, 4);
    }

    private static void singleEdgePath() {
        PlanarityTester x = Checks.completeGraph(0, 3);
        Checks.dueBlock(x, 0, 15, 6, 1, 4, 6);
        // The edge 2-3 is placed last, in the face 1, 2, 0, 3.
        Checks.dueWalk(x, 0, 0, 1, 3);
        Checks.dueWalk(x, 1, 0, 2, 1);
        Checks.dueWalk(x, 2, 0, 3, 2);
        Checks.dueWalk(x, 3, 1, 2, 3);
    }

    private static void numbersOfFaces() {
        // Which of both parts keeps the number decides where the next path goes.
        PlanarityTester x = book(5);
        Checks.dueOrder(x, 0, 1, 2, 3, 4, 5);
        Checks.dueOrder(x, 1, 0, 5, 4, 3, 2);
        Checks.due("blockInfo(0, 3)", x.blockInfo(0, 3), 5);
    }

    private static void bothPartsOfTheFace() {
        // 0-6-7-3 goes into the face 0, 1, 2, 3, 4, 5, and 0-8-9-3 into 0, 1, 2, 3, 7, 6.
        PlanarityTester x = Checks.withEdges(0, 1, 1, 2, 2, 3, 3, 4, 4, 5, 5, 0, 0, 6, 6, 7, 7, 3,
                0, 8, 8, 9, 9, 3);
        Checks.dueBlock(x, 0, 1023, 12, 1, 4, 12);
        Checks.dueWalk(x, 0, 0, 1, 2, 3, 9, 8);
        Checks.dueWalk(x, 1, 0, 5, 4, 3, 2, 1);
        Checks.dueWalk(x, 2, 0, 6, 7, 3, 4, 5);
        Checks.dueWalk(x, 3, 0, 8, 9, 3, 7, 6);
        Checks.dueOrder(x, 0, 1, 5, 6, 8);
        Checks.dueOrder(x, 3, 2, 9, 7, 4);
    }

    private static void drawnWithoutCrossings() {
        // With six vertices, only K3,3 and K5 can not be drawn, with an edge of K5 divided or not.
        for (int graph = 0; graph < 1 << 15; graph++) {
            int[] near = new int[6];
            PlanarityTester x = new PlanarityTester();
            int pair = 0;
            for (int a = 0; a < 6; a++) {
                for (int b = a + 1; b < 6; b++) {
                    if ((graph >> pair & 1) != 0) {
                        x.add(a, b);
                        near[a] |= 1 << b;
                        near[b] |= 1 << a;
                    }
                    pair++;
                }
            }
            boolean drawn = !holdsThreeByThree(near) && !holdsFive(near);
            if (x.planar() != (drawn ? 1 : 0)) {
                Checks.fail("planar() of the graph " + Integer.toBinaryString(graph));
            }
        }
    }

    private static boolean holdsThreeByThree(int[] near) {
        for (int part = 0; part < 64; part++) {
            boolean joined = Integer.bitCount(part) == 3;
            for (int v = 0; v < 6; v++) {
                int others = 63 & ~part;
                joined &= (part >> v & 1) == 0 || (near[v] & others) == others;
            }
            if (joined) {
                return true;
            }
        }
        return false;
    }

    /** Whether five vertices are joined, or would be if the way by the sixth one joins two. */
    private static boolean holdsFive(int[] near) {
        for (int sixth = 0; sixth < 6; sixth++) {
            int missing = 0;
            boolean byTheSixth = true;
            for (int a = 0; a < 6; a++) {
                for (int b = a + 1; b < 6; b++) {
                    if (a != sixth && b != sixth && (near[a] >> b & 1) == 0) {
                        missing++;
                        byTheSixth = (near[sixth] >> a & near[sixth] >> b & 1) != 0;
                    }
                }
            }
            if (missing == 0 || (missing == 1 && byTheSixth)) {
                return true;
            }
        }
        return false;
    }

    private static void planarBlocks() {
        PlanarityTester x = Checks.completeGraph(0, 4);
        Checks.due("blockInfo(0, 2) of K5", x.blockInfo(0, 2), 0);
        for (int a = 0; a < 5; a++) {
            for (int b = a + 1; b < 5; b++) {
                x.drop(a, b);
                Checks.dueBlock(x, 0, 31, 9, 1, 6, 9);
                x.add(a, b);
            }
        }
        PlanarityTester largest = new PlanarityTester();
        largest.complete();
        Checks.dueBlock(largest, 0, 1023, 24, 1, 16, 24);
    }

    private static void allBlocksPlanar() {
        PlanarityTester x = Checks.completeGraph(0, 3);
        Checks.join(x, 3, 7);
        Checks.due("planar() with K5 as the last block", x.planar(), 0);
        Checks.due("blockInfo(0, 2)", x.blockInfo(0, 2), 1);
        Checks.due("blockInfo(1, 2)", x.blockInfo(1, 2), 0);
        x.drop(6, 7);
        Checks.due("planar() without an edge of it", x.planar(), 1);
        x = Checks.completeGraph(0, 4);
        Checks.join(x, 5, 9);
        x.drop(0, 1);
        Checks.due("planar() of one K5 of two", x.planar(), 0);
        x.drop(5, 6);
        Checks.due("planar() of none of two", x.planar(), 1);
    }

    private static void exactlyOneSuccessor() {
        PlanarityTester x = new PlanarityTester();
        x.complete();
        for (int v = 0; v < 10; v++) {
            int behind = 0;
            for (int w = 0; w < 10; w++) {
                int y = x.next(v, w);
                behind |= y >= 0 ? 1 << y : 0;
            }
            Checks.due("all that is behind a neighbor of " + v, behind, x.neighbors(v));
        }
    }

    private static void walksAreTheFaces() {
        PlanarityTester x = Checks.completeGraph(0, 3);
        Checks.due("walks() of K4", x.walks(), x.blockInfo(0, 3));
        for (int v = 4; v <= 9; v++) {
            Checks.addAll(x, v, v - 1, v, v - 2, v, v - 3);
            Checks.due("blockInfo(0, 3) up to " + v, x.blockInfo(0, 3), 2 * v - 2);
            Checks.due("walks() up to " + v, x.walks(), 2 * v - 2);
            for (int walk = 0; walk < x.walks(); walk++) {
                Checks.due("walkLength(" + walk + ")", x.walkLength(walk), 3);
            }
        }
        // In a walk x, v, y the neighbor behind x around v is y, and not the other way round.
        x = Checks.completeGraph(0, 3);
        Checks.dueWalk(x, 0, 0, 1, 3);
        Checks.due("next(1, 0)", x.next(1, 0), 3);
        Checks.due("next(1, 3)", x.next(1, 3), 2);
    }

    private static void allNeighborsInTheOrder() {
        PlanarityTester x = Checks.withEdges(5, 0, 5, 1, 0, 1, 5, 2, 5, 3, 5, 4, 3, 4, 5, 6, 6, 7, 7, 5,
                6, 8, 8, 5);
        Checks.dueOrder(x, 5, 0, 1, 2, 3, 4, 6, 7, 8);
        Checks.dueOrder(x, 6, 5, 8, 7);
        Checks.due("next(5, 9)", x.next(5, 9), Checks.NO_SUCH);
    }

    private static void blocksAroundVertex() {
        // The block of 0-8 comes before that of 1-2, although its neighbors of 5 are greater.
        PlanarityTester x = Checks.withEdges(5, 1, 1, 2, 2, 5, 8, 0, 0, 9, 9, 5, 5, 8);
        Checks.dueOrder(x, 5, 8, 9, 1, 2);
        x.add(5, 6);
        Checks.dueOrder(x, 5, 8, 9, 1, 2, 6);
        x.add(5, 0);
        Checks.due("next(5, 6)", x.next(5, 6), 0);
        Checks.due("next(5, 2)", x.next(5, 2), 6);
    }

    private static void leastNeighborFirst() {
        // Around 1 the order in K4 is 0, 3, 2, so that the next block stands behind 2.
        PlanarityTester x = Checks.completeGraph(0, 3);
        Checks.dueOrder(x, 1, 0, 3, 2);
        x.add(1, 9);
        Checks.dueOrder(x, 1, 0, 3, 2, 9);
        x.add(9, 4);
        x.add(4, 1);
        Checks.dueOrder(x, 1, 0, 3, 2, 4, 9);
    }

    private static void lastBlockToFirst() {
        PlanarityTester x = Checks.withEdges(4, 0);
        Checks.dueOrder(x, 4, 0);
        x.add(4, 9);
        Checks.dueOrder(x, 4, 0, 9);
        x.add(4, 7);
        Checks.dueOrder(x, 4, 0, 7, 9);
    }

    private static void darts() {
        PlanarityTester x = Checks.withEdges(3, 4);
        Checks.dueWalk(x, 0, 3, 4);
        x.add(4, 5);
        Checks.dueWalk(x, 0, 3, 4, 5, 4);
        x.add(4, 0);
        Checks.dueWalk(x, 0, 0, 4, 3, 4, 5, 4);
        Checks.due("walks()", x.walks(), 1);
    }

    private static void numbersOfWalks() {
        PlanarityTester x = Checks.withEdges(8, 9, 2, 5, 5, 7, 7, 2, 0, 1);
        Checks.due("walks()", x.walks(), 4);
        Checks.dueWalk(x, 0, 0, 1);
        Checks.dueWalk(x, 1, 2, 5, 7);
        Checks.dueWalk(x, 2, 2, 7, 5);
        Checks.dueWalk(x, 3, 8, 9);
    }

    private static void orderOfDarts() {
        PlanarityTester x = Checks.completeGraph(0, 3);
        Checks.due("walkOf(0, 1)", x.walkOf(0, 1), 0);
        Checks.due("walkOf(0, 2)", x.walkOf(0, 2), 1);
        Checks.due("walkOf(0, 3)", x.walkOf(0, 3), 2);
        Checks.due("walkOf(1, 0) belongs to the second walk", x.walkOf(1, 0), 1);
        Checks.due("walkOf(1, 2)", x.walkOf(1, 2), 3);
        x = Checks.withEdges(0, 9, 1, 2);
        Checks.due("walkOf(9, 0)", x.walkOf(9, 0), 0);
        Checks.due("walkOf(1, 2)", x.walkOf(1, 2), 1);
    }

    private static void eachDartInOneWalk() {
        dueDarts(Checks.withEdges(0, 1, 1, 2, 2, 0, 2, 3, 3, 4, 4, 5, 5, 3, 6, 7, 9, 3), 18);
        PlanarityTester x = new PlanarityTester();
        x.complete();
        dueDarts(x, 48);
        for (int v = 1; v < 10; v++) {
            x.drop(0, v);
            dueDarts(x, 48 - 2 * v);
        }
        x.clear();
        dueDarts(x, 0);
    }

    private static void dueDarts(PlanarityTester x, int want) {
        int darts = 0;
        for (int walk = 0; walk < x.walks(); walk++) {
            darts += x.walkLength(walk);
            for (int place = 0; place < x.walkLength(walk); place++) {
                int v = x.walkVertex(walk, place);
                int w = x.walkVertex(walk, (place + 1) % x.walkLength(walk));
                Checks.due("walkOf(" + v + ", " + w + ")", x.walkOf(v, w), walk);
            }
        }
        Checks.due("darts of all walks", darts, want);
    }

    private static void walkFromLeastDart() {
        // The walk meets 1 twice; it begins with the dart to 0.
        PlanarityTester x = Checks.withEdges(1, 9, 1, 2, 2, 3, 3, 1);
        Checks.dueWalk(x, 0, 1, 2, 3, 1, 9);
        Checks.dueWalk(x, 1, 1, 3, 2);
    }

    private static void edgesLookedAtOnce() {
        PlanarityTester x = Checks.completeGraph(0, 5);
        Checks.due("forbidden(1) of K6", x.forbidden(1), 62);
        x = Checks.completeGraph(0, 4);
        Checks.join(x, 5, 9);
        Checks.due("forbidden(1) of K5 twice", x.forbidden(1), 992);
        x = Checks.completeGraph(0, 4);
        Checks.addAll(x, 4, 7, 4, 8, 4, 9, 5, 7, 5, 8, 5, 9, 6, 7, 6, 8, 6, 9);
        Checks.due("forbidden(0) with K3,3 behind", x.forbidden(0), 9);
        Checks.due("forbidden(1) with K3,3 behind", x.forbidden(1), 1008);
        x = threeByThree();
        Checks.join(x, 5, 9);
        Checks.due("forbidden(0) with K5 behind", x.forbidden(0), 10);
        Checks.due("inForbidden(0, 3)", x.inForbidden(0, 3), 0);
        Checks.due("inForbidden(8, 9)", x.inForbidden(8, 9), 1);
    }

    private static void removedOnlyIfStillNotPlanar() {
        PlanarityTester x = Checks.completeGraph(0, 4);
        x.add(0, 5);
        x.add(6, 7);
        x.add(8, 9);
        for (int a = 0; a < 10; a++) {
            for (int b = a + 1; b < 10; b++) {
                int want = (x.neighbors(a) >> b & 1) == 0 ? Checks.NO_SUCH : b < 5 ? 1 : 0;
                Checks.due("inForbidden(" + a + ", " + b + ")", x.inForbidden(a, b), want);
            }
        }
    }

    private static void edgesThatAreLeft() {
        PlanarityTester[] graphs = {Checks.completeGraph(0, 9), Checks.completeGraph(2, 8),
            threeByThree(), book(9)};
        graphs[1].drop(7, 8);
        Checks.join(graphs[2], 5, 8);
        Checks.addAll(graphs[3], 2, 3, 3, 4, 4, 5, 5, 6, 6, 7, 7, 8, 8, 9, 9, 2);
        for (PlanarityTester x : graphs) {
            PlanarityTester left = new PlanarityTester();
            for (int a = 0; a < 10; a++) {
                for (int b = a + 1; b < 10; b++) {
                    if (x.inForbidden(a, b) == 1) {
                        left.add(a, b);
                    }
                }
            }
            Checks.due("forbidden(0)", x.forbidden(0), left.count(0));
            Checks.due("planar() of what is left", left.planar(), 0);
            dueToNeedEachEdge(left);
        }
    }

    private static void dueToNeedEachEdge(PlanarityTester x) {
        for (int a = 0; a < 10; a++) {
            for (int b = a + 1; b < 10; b++) {
                if (x.block(a, b) >= 0) {
                    Checks.due("ifFlipped(" + a + ", " + b + ")", x.ifFlipped(a, b), 1);
                    Checks.due("inForbidden(" + a + ", " + b + ")", x.inForbidden(a, b), 1);
                }
            }
        }
    }

    private static void branchVertices() {
        PlanarityTester x = threeByThree();
        x.drop(0, 3);
        Checks.addAll(x, 0, 6, 6, 9, 9, 3);
        Checks.due("forbidden(0)", x.forbidden(0), 11);
        Checks.due("forbidden(1)", x.forbidden(1), 63 | 64 | 512);
        Checks.due("forbidden(2)", x.forbidden(2), 63);
        Checks.due("forbidden(3)", x.forbidden(3), 6);
        x = Checks.completeGraph(5, 9);
        x.drop(5, 9);
        Checks.addAll(x, 5, 0, 0, 4, 4, 9);
        Checks.due("forbidden(0)", x.forbidden(0), 12);
        Checks.due("forbidden(1)", x.forbidden(1), 992 | 1 | 16);
        Checks.due("forbidden(2)", x.forbidden(2), 992);
        Checks.due("forbidden(3)", x.forbidden(3), 5);
    }

    private static void fiveOrSixBranches() {
        // Between K3,3 and K6: with each edge, each branch vertex has 4 edges of 5, or 3 of 6.
        PlanarityTester x = threeByThree();
        for (int a = 0; a < 6; a++) {
            for (int b = a + 1; b < 6; b++) {
                x.add(a, b);
                int branches = x.forbidden(3);
                int met = 0;
                for (int v = 0; v < 10; v++) {
                    int degree = 0;
                    for (int w = 0; w < 10; w++) {
                        degree += x.inForbidden(v, w) == 1 ? 1 : 0;
                    }
                    boolean branch = degree == (branches == 5 ? 4 : 3);
                    met += branch ? 1 : 0;
                    Checks.due("a branch has its edges", x.forbidden(2) >> v & 1, branch ? 1 : 0);
                }
                Checks.due("branches", met, branches);
            }
        }
        Checks.due("forbidden(3) of K6", x.forbidden(3), 5);
    }

    public static void main(String[] args) {
        embedding();
        orders();
        forbidden();
        Checks.end();
    }

    private static void embedding() {
        Checks.sentence("A block with one edge is embedded.", EmbeddingTests::blockWithOneEdge);
        Checks.sentence("among the paths from b to a in the block that do not use this edge, take a"
                + " shortest one, and of several the first one in lexicographic order.",
                EmbeddingTests::cycleOfLeastEdge);
        Checks.sentence("Of several paths (of the same length), the first one in lexicographic order"
                + " is the one with the lesser vertex at the first place at which they differ.",
                EmbeddingTests::firstPathOfSeveral);
        Checks.sentence("The face 0 is the cyclic sequence a, b, and so on along the path; the face 1"
                + " is the same sequence in the opposite direction.", EmbeddingTests::facesOfTheCycle);
        Checks.sentence("Then, as long as there are edges of the block that are not placed, one path"
                + " is placed:", EmbeddingTests::cycleAlone);
        Checks.sentence("A fragment is either a single edge that is not placed and joins two placed"
                + " vertices, or it consists of a component", EmbeddingTests::fragmentsOfBothKinds);
        Checks.sentence("The contacts of a fragment are its placed vertices (the ends of its edges).",
                EmbeddingTests::contactsOfFragments);
        Checks.sentence("A face fits a fragment if the face contains all contacts of the fragment.",
                EmbeddingTests::facesThatFit);
        Checks.sentence("Fragments are ordered by their least edges.",
                EmbeddingTests::orderOfFragments);
        Checks.sentence("If some fragment fits no face, the block is not planar, and the embedding"
                + " ends.", EmbeddingTests::noFaceFits);
        Checks.sentence("The fragment that is chosen is the first one that fits exactly one face;",
                EmbeddingTests::oneFaceFirst);
        Checks.sentence("is the first one that fits exactly one face",
                EmbeddingTests::firstOfSeveralWithOneFace);
        Checks.sentence("if there is none, the first fragment of all.",
                EmbeddingTests::firstFragmentOfAll);
        Checks.sentence("The face that is chosen is the fitting face of this fragment with the least"
                + " number.", EmbeddingTests::leastFace);
        Checks.sentence("Let u be the least contact of the chosen fragment.",
                EmbeddingTests::leastContact);
        Checks.sentence("take a shortest one, and of several the first one in lexicographic order."
                + " Let it be u, p1, ..., pk, w", EmbeddingTests::shortestPathOfFragment);
        Checks.sentence("(k is 0 if it is a single edge)", EmbeddingTests::singleEdgePath);
        Checks.sentence("gets the least number that no face has, that is, the number of faces.",
                EmbeddingTests::numbersOfFaces);
        Checks.sentence("It is replaced, under its number, by the face u, x1, ..., xi, w, pk, ..., p1."
                + " A new face w, y1, ..., yj, u, p1, ..., pk gets the least number that no face has",
                EmbeddingTests::bothPartsOfTheFace);
        Checks.sentence("(This holds if and only if the block can be drawn in the plane without"
                + " crossings.)", EmbeddingTests::drawnWithoutCrossings);
        Checks.sentence("A block is planar if it is embedded in this way up to its last edge.",
                EmbeddingTests::planarBlocks);
        Checks.sentence("The graph is planar if all blocks are planar.",
                EmbeddingTests::allBlocksPlanar);
    }

    private static void orders() {
        Checks.sentence("the successor of the neighbor x at a vertex v is the neighbor y such that"
                + " x, v, y are consecutive, in this order, in some face.",
                EmbeddingTests::walksAreTheFaces);
        Checks.sentence("the order around a vertex v is the following cyclic sequence of all its"
                + " neighbors:", EmbeddingTests::allNeighborsInTheOrder);
        Checks.sentence("(There is exactly one such y for each neighbor x of v in the block.)",
                EmbeddingTests::exactlyOneSuccessor);
        Checks.sentence("In a block with one edge, the successor of the only neighbor is that"
                + " neighbor.", EmbeddingTests::blockWithOneEdge);
        Checks.sentence("for each block that contains v, in the order of the numbers of the blocks",
                EmbeddingTests::blocksAroundVertex);
        Checks.sentence("beginning with the least one, each followed by its successor",
                EmbeddingTests::leastNeighborFirst);
        Checks.sentence("then it goes on with the next block, and behind the last block with the"
                + " first one.", EmbeddingTests::lastBlockToFirst);
        Checks.sentence("Behind the dart (v, w) comes the dart (w, NEXT(w, v)).",
                EmbeddingTests::darts);
        Checks.sentence("Walks are numbered from 0 in the order of their least darts;",
                EmbeddingTests::numbersOfWalks);
        Checks.sentence("of two darts the one with the lesser first vertex is the lesser one, and of"
                + " two with the same first vertex the one with the lesser second vertex.",
                EmbeddingTests::orderOfDarts);
        Checks.sentence("In this way the darts are divided into cycles, which are called walks.",
                EmbeddingTests::eachDartInOneWalk);
        Checks.sentence("A walk is written as the sequence of the first vertices of its darts,"
                + " beginning with its least dart.", EmbeddingTests::walkFromLeastDart);
    }

    private static void forbidden() {
        Checks.sentence("the edges of the graph are looked at once, from the least to the greatest;",
                EmbeddingTests::edgesLookedAtOnce);
        Checks.sentence("each edge is removed if what is left without it is still not planar.",
                EmbeddingTests::removedOnlyIfStillNotPlanar);
        Checks.sentence("The edges that are left are the forbidden subgraph.",
                EmbeddingTests::edgesThatAreLeft);
        Checks.sentence("Its branch vertices are the vertices that belong to more than two of its"
                + " edges.", EmbeddingTests::branchVertices);
        Checks.sentence("(There are 5 branch vertices, each with 4 edges, or 6, each with 3 edges.)",
                EmbeddingTests::fiveOrSixBranches);
    }
}
