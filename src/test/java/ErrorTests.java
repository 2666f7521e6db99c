import java.util.function.Supplier;
import java.util.function.ToDoubleFunction;

/** The codes that each call returns, the order in which they are checked, and what they leave. */
public final class ErrorTests {
    private static final int NO_SUCH = Checks.NO_SUCH;
    private static final int BAD_VALUE = Checks.BAD_VALUE;
    private static final int TOO_MANY = Checks.TOO_MANY;
    private static final int NOT_POSSIBLE = Checks.NOT_POSSIBLE;
    private static final int NONE = Checks.NONE;

    private ErrorTests() {
    }

    /** K4 and a bridge; a history that is not full, a snapshot, and a text that is a list. */
    private static PlanarityTester planar() {
        PlanarityTester x = Checks.completeGraph(0, 3);
        x.undo();
        x.save();
        x.add(2, 3);
        x.undo();
        x.add(7, 8);
        x.add(2, 3);
        Checks.write(x, "flip 0-1;add 5-6");
        return x;
    }

    /** K5 and a bridge; a full history, a snapshot, and a full text with a fault. */
    private static PlanarityTester notPlanar() {
        PlanarityTester x = Checks.completeGraph(0, 4);
        x.save();
        x.add(7, 8);
        Checks.write(x, "add 0-1;".repeat(10));
        return x;
    }

    private static PlanarityTester empty() {
        return new PlanarityTester();
    }

    /** The answer that is due, and that the object goes on as if the call had not been made. */
    private static void refused(Supplier<PlanarityTester> made, String about, Checks.Call call,
            int want) {
        Checks.due(call.name() + " on " + about, call.on(made.get()), want);
        Checks.dueToChangeNothing(made, about, call);
    }

    private static void onPlanar(String name, ToDoubleFunction<PlanarityTester> made,
            int want) {
        refused(ErrorTests::planar, "a planar graph", new Checks.Call(name, made), want);
    }

    private static void onNotPlanar(String name,
            ToDoubleFunction<PlanarityTester> made, int want) {
        refused(ErrorTests::notPlanar, "a graph that is not planar", new Checks.Call(name, made), want);
    }

    private static void onEmpty(String name, ToDoubleFunction<PlanarityTester> made,
            int want) {
        refused(ErrorTests::empty, "a new object", new Checks.Call(name, made), want);
    }

    private static void constants() {
        Checks.due("NO_SUCH", PlanarityTester.NO_SUCH, -1);
        Checks.due("BAD_VALUE", PlanarityTester.BAD_VALUE, -2);
        Checks.due("TOO_MANY", PlanarityTester.TOO_MANY, -3);
        Checks.due("NOT_POSSIBLE", PlanarityTester.NOT_POSSIBLE, -4);
        Checks.due("NONE", PlanarityTester.NONE, -5);
    }

    private static void refusedActions() {
        onPlanar("add(-1, 0)", x -> x.add(-1, 0), NO_SUCH);
        onPlanar("add(0, 10)", x -> x.add(0, 10), NO_SUCH);
        onPlanar("add(5, 5)", x -> x.add(5, 5), BAD_VALUE);
        onPlanar("add(8, 7)", x -> x.add(8, 7), NOT_POSSIBLE);
        onPlanar("drop(-1, 0)", x -> x.drop(-1, 0), NO_SUCH);
        onPlanar("drop(0, 10)", x -> x.drop(0, 10), NO_SUCH);
        onPlanar("drop(0, 9)", x -> x.drop(0, 9), NO_SUCH);
        onPlanar("drop(0, 0)", x -> x.drop(0, 0), NO_SUCH);
        onNotPlanar("complete()", x -> x.complete(), NOT_POSSIBLE);
        onNotPlanar("run()", x -> x.run(), -180);
        onEmpty("run()", x -> x.run(), -100);
        onEmpty("restore()", x -> x.restore(), NOT_POSSIBLE);
    }

    private static void refusedTextsAndHistory() {
        onPlanar("append(31)", x -> x.append(31), BAD_VALUE);
        onPlanar("append(127)", x -> x.append(127), BAD_VALUE);
        onNotPlanar("append(97)", x -> x.append(97), TOO_MANY);
        onEmpty("undo()", x -> x.undo(), NONE);
    }

    private static void refusedQueries() {
        onPlanar("neighbors(10)", x -> x.neighbors(10), NO_SUCH);
        onPlanar("count(9)", x -> x.count(9), BAD_VALUE);
        onPlanar("block(0, 9)", x -> x.block(0, 9), NO_SUCH);
        onPlanar("block(0, 10)", x -> x.block(0, 10), NO_SUCH);
        onPlanar("blockInfo(2, 0)", x -> x.blockInfo(2, 0), NO_SUCH);
        onPlanar("blockInfo(1, 5)", x -> x.blockInfo(1, 5), BAD_VALUE);
        onNotPlanar("blockInfo(0, 3)", x -> x.blockInfo(0, 3), NONE);
        onPlanar("next(0, 9)", x -> x.next(0, 9), NO_SUCH);
        onNotPlanar("next(7, 8)", x -> x.next(7, 8), NOT_POSSIBLE);
        onNotPlanar("walks()", x -> x.walks(), NOT_POSSIBLE);
        onPlanar("walkLength(5)", x -> x.walkLength(5), NO_SUCH);
        onNotPlanar("walkLength(0)", x -> x.walkLength(0), NOT_POSSIBLE);
        onPlanar("walkVertex(5, 0)", x -> x.walkVertex(5, 0), NO_SUCH);
        onPlanar("walkVertex(0, 3)", x -> x.walkVertex(0, 3), NO_SUCH);
        onNotPlanar("walkVertex(0, 0)", x -> x.walkVertex(0, 0), NOT_POSSIBLE);
        onPlanar("walkOf(0, 9)", x -> x.walkOf(0, 9), NO_SUCH);
        onNotPlanar("walkOf(7, 8)", x -> x.walkOf(7, 8), NOT_POSSIBLE);
        onNotPlanar("forbidden(4)", x -> x.forbidden(4), BAD_VALUE);
        onPlanar("forbidden(0)", x -> x.forbidden(0), NONE);
        onNotPlanar("inForbidden(0, 9)", x -> x.inForbidden(0, 9), NO_SUCH);
        onPlanar("inForbidden(0, 1)", x -> x.inForbidden(0, 1), NONE);
        onPlanar("ifFlipped(0, 10)", x -> x.ifFlipped(0, 10), NO_SUCH);
        onPlanar("ifFlipped(0, 0)", x -> x.ifFlipped(0, 0), BAD_VALUE);
        onPlanar("joinable(10)", x -> x.joinable(10), NO_SUCH);
    }

    private static void vertexBeforeSameVertex() {
        for (int v : Checks.NO_VERTICES) {
            Checks.due("add of " + v + " twice", planar().add(v, v), NO_SUCH);
            Checks.due("drop of " + v + " twice", planar().drop(v, v), NO_SUCH);
            Checks.due("ifFlipped of " + v + " twice", planar().ifFlipped(v, v), NO_SUCH);
        }
    }

    private static void signBeforeRoom() {
        PlanarityTester x = notPlanar();
        Checks.due("append(31) of a full text", x.append(31), BAD_VALUE);
        Checks.due("append(127) of a full text", x.append(127), BAD_VALUE);
        Checks.due("append(32) of a full text", x.append(32), TOO_MANY);
        Checks.due("append(126) of a full text", x.append(126), TOO_MANY);
    }

    private static void blockBeforeWhat() {
        PlanarityTester x = planar();
        Checks.due("blockInfo(2, 5)", x.blockInfo(2, 5), NO_SUCH);
        Checks.due("blockInfo(-1, -1)", x.blockInfo(-1, -1), NO_SUCH);
        Checks.due("blockInfo(1, -1)", x.blockInfo(1, -1), BAD_VALUE);
        Checks.due("blockInfo(0, 0) of no edges", empty().blockInfo(0, 0), NO_SUCH);
        Checks.due("blockInfo(0, 9) of no edges", empty().blockInfo(0, 9), NO_SUCH);
        x = notPlanar();
        Checks.due("blockInfo(2, 3)", x.blockInfo(2, 3), NO_SUCH);
        Checks.due("blockInfo(0, 5)", x.blockInfo(0, 5), BAD_VALUE);
        Checks.due("blockInfo(0, 3)", x.blockInfo(0, 3), NONE);
    }

    private static void dartBeforePlanarity() {
        PlanarityTester x = notPlanar();
        Checks.due("next(7, 9)", x.next(7, 9), NO_SUCH);
        Checks.due("next(7, 7)", x.next(7, 7), NO_SUCH);
        Checks.due("next(10, 7)", x.next(10, 7), NO_SUCH);
        Checks.due("next(7, -1)", x.next(7, -1), NO_SUCH);
        Checks.due("next(7, 8)", x.next(7, 8), NOT_POSSIBLE);
        Checks.due("walkOf(7, 9)", x.walkOf(7, 9), NO_SUCH);
        Checks.due("walkOf(7, 7)", x.walkOf(7, 7), NO_SUCH);
        Checks.due("walkOf(10, 7)", x.walkOf(10, 7), NO_SUCH);
        Checks.due("walkOf(7, -1)", x.walkOf(7, -1), NO_SUCH);
        Checks.due("walkOf(7, 8)", x.walkOf(7, 8), NOT_POSSIBLE);
    }

    private static void planarityBeforeWalk() {
        PlanarityTester x = notPlanar();
        int[] numbers = {-1, 0, 1, 99, Integer.MIN_VALUE, Integer.MAX_VALUE};
        for (int walk : numbers) {
            Checks.due("walkLength(" + walk + ")", x.walkLength(walk), NOT_POSSIBLE);
            for (int place : numbers) {
                Checks.due("walkVertex(" + walk + ", " + place + ")", x.walkVertex(walk, place),
                        NOT_POSSIBLE);
            }
        }
    }

    private static void argumentsBeforeNone() {
        PlanarityTester x = planar();
        Checks.due("forbidden(4) of a planar graph", x.forbidden(4), BAD_VALUE);
        Checks.due("forbidden(-1) of a planar graph", x.forbidden(-1), BAD_VALUE);
        Checks.due("forbidden(3) of a planar graph", x.forbidden(3), NONE);
        Checks.due("inForbidden(0, 9) of a planar graph", x.inForbidden(0, 9), NO_SUCH);
        Checks.due("inForbidden(9, 9) of a planar graph", x.inForbidden(9, 9), NO_SUCH);
        Checks.due("inForbidden(10, 0) of a planar graph", x.inForbidden(10, 0), NO_SUCH);
        Checks.due("inForbidden(7, 8) of a planar graph", x.inForbidden(7, 8), NONE);
    }

    private static void noneIsNoError() {
        Checks.due("fault() of a list", planar().fault(), NONE);
        Checks.due("undo() of an empty history", empty().undo(), NONE);
        Checks.due("run() of a text with the fault 5", Checks.withText("add 0").run(), -105);
        for (int length = 0; length <= 80; length++) {
            int answer = Checks.withText("add 0-1;".repeat(10).substring(0, length)).run();
            boolean complete = length % 8 == 7;
            Checks.due("run() of the first " + length + " signs", answer,
                    complete ? 1 : -100 - length);
        }
    }

    public static void main(String[] args) {
        Checks.sentence("`NONE = -5`: There is no result; this is not an error code.",
                ErrorTests::constants);
        Checks.sentence("NONE is not an error code.", ErrorTests::noneIsNoError);
        Checks.sentence("A method that returns an error code changes nothing.",
                ErrorTests::refusedActions);
        Checks.sentence("A method that returns an error code changes nothing.",
                ErrorTests::refusedTextsAndHistory);
        Checks.sentence("A method that returns an error code changes nothing.",
                ErrorTests::refusedQueries);
        String order = "The error codes of a method are listed in the order in which they are checked,"
                + " and the first one that applies is returned.";
        Checks.sentence(order, ErrorTests::vertexBeforeSameVertex);
        Checks.sentence(order, ErrorTests::signBeforeRoom);
        Checks.sentence(order, ErrorTests::blockBeforeWhat);
        Checks.sentence(order, ErrorTests::dartBeforePlanarity);
        Checks.sentence(order, ErrorTests::planarityBeforeWalk);
        Checks.sentence(order, ErrorTests::argumentsBeforeNone);
        Checks.end();
    }
}
