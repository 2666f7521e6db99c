import java.util.function.Supplier;

/** The sentences on actions, states, the history and the snapshot. */
public final class HistoryTests {
    private static final Checks.Call ADD = new Checks.Call("add(8, 9)", x -> x.add(8, 9));
    private static final Checks.Call DROP = new Checks.Call("drop(0, 1)", x -> x.drop(0, 1));
    private static final Checks.Call CLEAR = new Checks.Call("clear()", x -> x.clear());
    private static final Checks.Call COMPLETE = new Checks.Call("complete()", x -> x.complete());
    private static final Checks.Call RUN = new Checks.Call("run()", x -> x.run());
    private static final Checks.Call RESTORE = new Checks.Call("restore()", x -> x.restore());
    private static final Checks.Call[] ACTIONS = {ADD, DROP, CLEAR, COMPLETE, RUN, RESTORE};
    private static final Checks.Call[] OTHERS = {
        new Checks.Call("append('a')", x -> x.append('a')),
        new Checks.Call("clearText()", x -> x.clearText()),
        new Checks.Call("fault()", x -> x.fault()),
        new Checks.Call("save()", x -> x.save()),
        new Checks.Call("neighbors(0)", x -> x.neighbors(0)),
        new Checks.Call("count(0)", x -> x.count(0)),
        new Checks.Call("block(0, 1)", x -> x.block(0, 1)),
        new Checks.Call("blockInfo(0, 0)", x -> x.blockInfo(0, 0)),
        new Checks.Call("planar()", x -> x.planar()),
        new Checks.Call("next(0, 1)", x -> x.next(0, 1)),
        new Checks.Call("walks()", x -> x.walks()),
        new Checks.Call("walkLength(0)", x -> x.walkLength(0)),
        new Checks.Call("walkVertex(0, 0)", x -> x.walkVertex(0, 0)),
        new Checks.Call("walkOf(0, 1)", x -> x.walkOf(0, 1)),
        new Checks.Call("forbidden(0)", x -> x.forbidden(0)),
        new Checks.Call("inForbidden(0, 1)", x -> x.inForbidden(0, 1)),
        new Checks.Call("ifFlipped(0, 1)", x -> x.ifFlipped(0, 1)),
        new Checks.Call("joinable(0)", x -> x.joinable(0)),
        new Checks.Call("density()", x -> x.density()),
    };

    private HistoryTests() {
    }

    /** Each action is possible here; two states are recorded. */
    private static PlanarityTester ready() {
        PlanarityTester x = Checks.withEdges(0, 1);
        x.save();
        x.add(2, 3);
        Checks.write(x, "flip 2-3;add 4-5");
        return x;
    }

    private static PlanarityTester notPlanar() {
        PlanarityTester x = Checks.completeGraph(0, 5);
        x.save();
        return x;
    }

    private static void actions() {
        for (Checks.Call action : ACTIONS) {
            PlanarityTester x = ready();
            Checks.due(action.name() + " is no error", action.on(x) >= 0 ? 1 : 0, 1);
            Checks.due("count(7) behind " + action.name(), x.count(7), 3);
        }
        for (Checks.Call other : OTHERS) {
            PlanarityTester x = ready();
            other.on(x);
            Checks.due("count(7) behind " + other.name(), x.count(7), 2);
            Checks.due("count(0) behind " + other.name(), x.count(0), 2);
        }
        PlanarityTester x = ready();
        Checks.due("undo() records nothing", x.undo(), 1);
        Checks.due("count(7) behind undo()", x.count(7), 1);
    }

    /** Edges, and the numbers of edges added and dropped, come back; nothing else does. */
    private static void stateBefore() {
        for (Checks.Call action : ACTIONS) {
            PlanarityTester x = ready();
            action.on(x);
            Checks.due("undo() of " + action.name(), x.undo(), 2);
            Checks.dueCounts(x, 2, 8, 2, 0, 2, 2, 0, 2, 16);
            Checks.due("neighbors(0) behind undo", x.neighbors(0), 2);
            Checks.due("neighbors(2) behind undo", x.neighbors(2), 8);
        }
    }

    private static void numbersOfState() {
        PlanarityTester x = ready();
        x.complete();
        Checks.due("count(5) behind complete()", x.count(5), 24);
        x.clear();
        Checks.due("count(6) behind clear()", x.count(6), 24);
        x.run();
        Checks.dueCounts(x, 2, 8, 2, 0, 2, 26, 24, 5, 16);
        x.restore();
        Checks.dueCounts(x, 1, 9, 1, 0, 1, 1, 0, 5, 16);
        x.undo();
        Checks.dueCounts(x, 2, 8, 2, 0, 2, 26, 24, 4, 16);
        x.undo();
        Checks.dueCounts(x, 0, 10, 0, 0, 0, 24, 24, 3, 16);
        x.undo();
        Checks.dueCounts(x, 24, 1, 1, 0, 0, 24, 0, 2, 16);
    }

    /** An object that has held other edges answers as one that has not. */
    private static void edgesAlone() {
        PlanarityTester used = new PlanarityTester();
        for (int first = 0; first < 10; first++) {
            for (int last = 9; last > first; last -= 2) {
                used.clear();
                Checks.join(used, first, last);
                Checks.graphAnswers(used);
                used.drop(first, last);
                PlanarityTester other = Checks.completeGraph(first, last);
                other.drop(first, last);
                if (!Checks.graphAnswers(used).equals(Checks.graphAnswers(other))) {
                    Checks.fail("the answers for " + first + " to " + last + " differ");
                }
            }
        }
    }

    private static void fewerFacesThanBefore() {
        PlanarityTester used = new PlanarityTester();
        used.complete();
        for (int v = 0; v < 10; v++) {
            PlanarityTester other = new PlanarityTester();
            for (int w = 0; w < 10; w++) {
                used.drop(v, w);
            }
            for (int a = 0; a < 10; a++) {
                for (int b = 0; b < a; b++) {
                    if ((used.neighbors(a) >> b & 1) != 0) {
                        other.add(a, b);
                    }
                }
            }
            if (!Checks.graphAnswers(used).equals(Checks.graphAnswers(other))) {
                Checks.fail("the answers behind the drops from " + v + " differ");
            }
        }
    }

    /** One row each: an action that changes nothing of the edges. */
    private static void actionsThatChangeNothing() {
        PlanarityTester x = new PlanarityTester();
        Checks.due("clear() of no edges", x.clear(), 0);
        Checks.due("count(7)", x.count(7), 1);
        x.complete();
        Checks.due("complete() of a graph that is complete", x.complete(), 0);
        Checks.due("count(7)", x.count(7), 3);
        x.save();
        Checks.due("restore() of the same state", x.restore(), 24);
        Checks.due("count(7)", x.count(7), 4);
        Checks.write(x, "add 0-1");
        Checks.due("run() of a skipped edit", x.run(), 0);
        Checks.due("count(7)", x.count(7), 5);
        Checks.due("undo()", x.undo(), 4);
        Checks.due("undo()", x.undo(), 3);
        Checks.due("undo()", x.undo(), 2);
        Checks.due("count(0) is as before", x.count(0), 24);
        Checks.due("undo()", x.undo(), 1);
        Checks.due("count(0) before complete()", x.count(0), 0);
        Checks.due("undo()", x.undo(), 0);
        Checks.due("undo() of an empty history", x.undo(), Checks.NONE);
    }

    private static void atMostFive() {
        for (Checks.Call action : ACTIONS) {
            PlanarityTester x = ready();
            Checks.addAll(x, 5, 6, 5, 7, 5, 8);
            Checks.due("count(7) of five", x.count(7), 5);
            action.on(x);
            Checks.due("count(7) behind " + action.name() + " as the sixth", x.count(7), 5);
            for (int left = 4; left >= 0; left--) {
                Checks.due("undo()", x.undo(), left);
                Checks.due("count(0)", x.count(0), left + 1);
            }
            Checks.due("undo() of the one that is dropped", x.undo(), Checks.NONE);
            Checks.due("count(0)", x.count(0), 1);
        }
    }

    private static void manyMoreThanFive() {
        PlanarityTester x = new PlanarityTester();
        for (int i = 0; i < 100; i++) {
            x.add(i % 9, 9);
            x.drop(i % 9, 9);
            Checks.due("count(7)", x.count(7), Math.min(2 * i + 2, 5));
        }
        int[] edges = {1, 0, 1, 0, 1};
        int[] added = {100, 99, 99, 98, 98};
        for (int i = 0; i < 5; i++) {
            Checks.due("undo()", x.undo(), 4 - i);
            Checks.due("count(0)", x.count(0), edges[i]);
            Checks.due("count(5)", x.count(5), added[i]);
        }
        Checks.due("undo() of an empty history", x.undo(), Checks.NONE);
    }

    private static void refusedActionsAreNotRecorded() {
        PlanarityTester x = notPlanar();
        int before = x.count(7);
        x.undo();
        before--;
        Checks.due("complete()", x.complete(), Checks.NOT_POSSIBLE);
        Checks.due("add(0, 1)", x.add(0, 1), Checks.NOT_POSSIBLE);
        Checks.due("add(0, 10)", x.add(0, 10), Checks.NO_SUCH);
        Checks.due("add(0, 0)", x.add(0, 0), Checks.BAD_VALUE);
        Checks.due("drop(0, 9)", x.drop(0, 9), Checks.NO_SUCH);
        Checks.due("run()", x.run(), -100);
        Checks.due("count(7)", x.count(7), before);
        Checks.due("restore() without a snapshot", new PlanarityTester().restore(),
                Checks.NOT_POSSIBLE);
    }

    private static void notPartOfTheState() {
        PlanarityTester x = ready();
        x.undo();
        Checks.due("the text stays behind undo", x.count(8), 16);
        Checks.due("its fault too", x.fault(), Checks.NONE);
        x.add(4, 5);
        x.restore();
        Checks.due("the text stays behind restore", x.count(8), 16);
        Checks.due("restore does not bring back the history", x.count(7), 3);
        x.clearText();
        x.undo();
        Checks.due("undo does not bring back the text", x.count(8), 0);
        x.save();
        x.undo();
        Checks.due("undo does not bring back the snapshot", x.restore(), 2);
        Checks.due("neighbors(4)", x.neighbors(4), 32);
    }

    private static void undo() {
        PlanarityTester x = new PlanarityTester();
        Checks.due("undo() of nothing", x.undo(), Checks.NONE);
        x.append('a');
        x.save();
        Checks.due("undo() behind calls that are no actions", x.undo(), Checks.NONE);
        x.add(0, 1);
        x.add(0, 2);
        Checks.due("undo()", x.undo(), 1);
        Checks.due("count(0)", x.count(0), 1);
        x.add(0, 3);
        Checks.due("undo()", x.undo(), 1);
        Checks.due("undo()", x.undo(), 0);
        Checks.due("undo() of an empty history", x.undo(), Checks.NONE);
        Checks.due("count(0)", x.count(0), 0);
    }

    private static void latestStateIsRemoved() {
        PlanarityTester x = new PlanarityTester();
        Checks.addAll(x, 0, 1, 0, 2, 0, 3);
        for (int left = 2; left >= 0; left--) {
            Checks.due("undo()", x.undo(), left);
            Checks.due("count(0)", x.count(0), left);
            Checks.due("count(7)", x.count(7), left);
        }
    }

    private static void save() {
        PlanarityTester x = new PlanarityTester();
        Checks.due("save() of no edges", x.save(), 0);
        x.add(3, 4);
        Checks.due("save() of an edge", x.save(), 1);
        Checks.due("count(7)", x.count(7), 1);
        x.add(3, 5);
        Checks.due("restore() of the latest snapshot", x.restore(), 1);
        Checks.due("neighbors(3)", x.neighbors(3), 16);
        x = Checks.completeGraph(0, 9);
        Checks.due("save() of all edges", x.save(), 45);
    }

    private static void restore() {
        PlanarityTester x = new PlanarityTester();
        Checks.due("restore() without a snapshot", x.restore(), Checks.NOT_POSSIBLE);
        x.add(0, 1);
        Checks.due("restore() without a snapshot", x.restore(), Checks.NOT_POSSIBLE);
        x.save();
        x.complete();
        for (int i = 0; i < 7; i++) {
            Checks.due("restore()", x.restore(), 1);
            Checks.due("count(7)", x.count(7), Math.min(i + 3, 5));
            x.clear();
            x.undo();
        }
        x = new PlanarityTester();
        x.save();
        x.add(0, 1);
        Checks.due("restore() of no edges", x.restore(), 0);
        Checks.due("undo() of restore()", x.undo(), 1);
        Checks.due("count(0)", x.count(0), 1);
    }

    private static void restoredAcrossObjects() {
        PlanarityTester other = Checks.withEdges(0, 1);
        other.save();
        PlanarityTester x = new PlanarityTester();
        Checks.due("count(7) of a new object", x.count(7), 0);
        Checks.due("count(8) of a new object", x.count(8), 0);
        Checks.due("undo() of a new object", x.undo(), Checks.NONE);
        Checks.due("restore() of a new object", x.restore(), Checks.NOT_POSSIBLE);
        Checks.due("the other one is as it was", other.restore(), 1);
    }

    private static void numbersReturned() {
        PlanarityTester x = new PlanarityTester();
        Checks.due("clear() of no edges", x.clear(), 0);
        Checks.due("add(0, 1)", x.add(0, 1), 1);
        Checks.due("add(0, 2)", x.add(0, 2), 2);
        Checks.due("drop(0, 1)", x.drop(0, 1), 1);
        Checks.due("drop(0, 2)", x.drop(0, 2), 0);
        Checks.due("complete()", x.complete(), 24);
        Checks.due("complete() again", x.complete(), 0);
        Checks.due("clear()", x.clear(), 24);
        x = Checks.completeGraph(0, 9);
        Checks.due("clear() of all edges", x.clear(), 45);
        Checks.dueCounts(x, 0, 10, 0, 0, 0, 45, 45, 5, 0);
    }

    private static void queriesChangeNothing() {
        Supplier<PlanarityTester> planar = HistoryTests::ready;
        Supplier<PlanarityTester> not = HistoryTests::notPlanar;
        for (Checks.Call call : OTHERS) {
            boolean query = !call.name().matches("(append|clearText|save)\\(.*");
            if (query) {
                Checks.dueToChangeNothing(planar, "a planar graph", call);
                Checks.dueToChangeNothing(not, "a graph that is not planar", call);
            }
        }
    }

    public static void main(String[] args) {
        Checks.sentence("The actions are add, drop, clear, complete, run and restore.",
                HistoryTests::actions);
        Checks.sentence("The state consists of the edges, and of the number of edges added and of"
                + " edges dropped so far.", HistoryTests::numbersOfState);
        Checks.sentence("The state consists of the edges", HistoryTests::edgesAlone);
        Checks.sentence("The state consists of the edges", HistoryTests::fewerFacesThanBefore);
        Checks.sentence("Each action that returns no error code records the state before it in the"
                + " history, even if the action changes nothing.",
                HistoryTests::actionsThatChangeNothing);
        Checks.sentence("records the state before it in the history", HistoryTests::stateBefore);
        Checks.sentence("Each action that returns no error code records",
                HistoryTests::refusedActionsAreNotRecorded);
        Checks.sentence("The history holds at most 5 states; when a sixth state is recorded, the"
                + " oldest one is dropped.", HistoryTests::atMostFive);
        Checks.sentence("The history holds at most 5 states", HistoryTests::manyMoreThanFive);
        Checks.sentence("The text, the snapshot and the history itself are not part of the state.",
                HistoryTests::notPartOfTheState);
        Checks.sentence("Creates a graph without edges, with an empty text and an empty history,"
                + " without a snapshot.", HistoryTests::restoredAcrossObjects);
        Checks.sentence("Returns the number of edges that are dropped.",
                HistoryTests::numbersReturned);
        Checks.sentence("Returns the number of states that are left in the history; NONE if the"
                + " history is empty.", HistoryTests::undo);
        Checks.sentence("Restores the latest state of the history and removes it from the history.",
                HistoryTests::latestStateIsRemoved);
        Checks.sentence("The text and the snapshot do not change.", HistoryTests::notPartOfTheState);
        Checks.sentence("Takes a snapshot of the state, which replaces the previous snapshot. This is"
                + " not an action.", HistoryTests::save);
        Checks.sentence("Restores the state of the snapshot. The snapshot remains.",
                HistoryTests::restore);
        Checks.sentence("Returns the number of edges; NOT_POSSIBLE if there is no snapshot.",
                HistoryTests::restore);
        Checks.sentence("queries about the graph; they change nothing.",
                HistoryTests::queriesChangeNothing);
        Checks.end();
    }
}
