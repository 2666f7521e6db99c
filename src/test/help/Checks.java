import java.io.IOException;
import java.nio.file.Files;
import java.nio.file.Path;
import java.util.ArrayList;
import java.util.List;
import java.util.function.Supplier;
import java.util.function.ToDoubleFunction;

/** What the tests of sentences share: answers that are due, objects to begin with, comparisons. */
final class Checks {
    static final int NO_SUCH = -1;
    static final int BAD_VALUE = -2;
    static final int TOO_MANY = -3;
    static final int NOT_POSSIBLE = -4;
    static final int NONE = -5;
    /** No vertices, nearest first; the last ones would come round if bits or cells wrapped. */
    static final int[] NO_VERTICES = {-1, 10, -2, 11, 31, 32, 42, 64, 100, -32, -10, 65536,
        Integer.MIN_VALUE, Integer.MAX_VALUE};

    private static final String DOCUMENT = "../shared/DOC.md";
    /** Empty if it can not be read; then the words of the sentences are not looked up. */
    private static final String document = read();
    private static String sentence = "";
    private static int sentences = 0;
    private static int wrong = 0;

    private Checks() {
    }

    private static String read() {
        try {
            return Files.readString(Path.of(DOCUMENT)).replaceAll("\\s+", " ");
        } catch (IOException e) {
            System.out.println("can not read " + DOCUMENT);
            return "";
        }
    }

    /** Runs the test of a sentence, or of a part of one, in the document's own words. */
    static void sentence(String words, Runnable test) {
        sentence = words;
        sentences++;
        if (!document.isEmpty() && !document.contains(words)) {
            fail("the document does not say this");
        }
        test.run();
    }

    static void fail(String what) {
        wrong++;
        System.out.println("\"" + sentence + "\": " + what);
    }

    static void due(String call, double got, double want) {
        if (got != want) {
            fail(call + " answered " + got + ", due is " + want);
        }
    }

    static void end() {
        System.out.println(sentences + " sentences, " + wrong + " wrong answers");
        if (wrong != 0) {
            System.exit(1);
        }
    }

    /** A call with a name, so that it can be made on several objects. */
    record Call(String name, ToDoubleFunction<PlanarityTester> made) {
        double on(PlanarityTester x) {
            return made.applyAsDouble(x);
        }
    }

    static PlanarityTester withEdges(int... ends) {
        PlanarityTester x = new PlanarityTester();
        addAll(x, ends);
        return x;
    }

    static void addAll(PlanarityTester x, int... ends) {
        for (int i = 0; i < ends.length; i += 2) {
            x.add(ends[i], ends[i + 1]);
        }
    }

    /** Adds all edges between the vertices from first to last. */
    static void join(PlanarityTester x, int first, int last) {
        for (int a = first; a <= last; a++) {
            for (int b = a + 1; b <= last; b++) {
                x.add(a, b);
            }
        }
    }

    static PlanarityTester completeGraph(int first, int last) {
        PlanarityTester x = new PlanarityTester();
        join(x, first, last);
        return x;
    }

    static PlanarityTester withText(String text) {
        PlanarityTester x = new PlanarityTester();
        write(x, text);
        return x;
    }

    static void write(PlanarityTester x, String text) {
        for (int i = 0; i < text.length(); i++) {
            x.append(text.charAt(i));
        }
    }

    /** The answers of count from 0 on. */
    static void dueCounts(PlanarityTester x, int... wants) {
        for (int what = 0; what < wants.length; what++) {
            due("count(" + what + ")", x.count(what), wants[what]);
        }
    }

    /** The answers of blockInfo from 0 on. */
    static void dueBlock(PlanarityTester x, int block, int... wants) {
        for (int what = 0; what < wants.length; what++) {
            due("blockInfo(" + block + ", " + what + ")", x.blockInfo(block, what), wants[what]);
        }
    }

    /** The neighbors in the order around the vertex. */
    static void dueOrder(PlanarityTester x, int vertex, int... order) {
        for (int i = 0; i < order.length; i++) {
            due("next(" + vertex + ", " + order[i] + ")", x.next(vertex, order[i]),
                    order[(i + 1) % order.length]);
        }
    }

    /** The vertices of a walk, and the walk of each of its darts. */
    static void dueWalk(PlanarityTester x, int walk, int... vertices) {
        due("walkLength(" + walk + ")", x.walkLength(walk), vertices.length);
        for (int place = 0; place < vertices.length; place++) {
            String call = "walkVertex(" + walk + ", " + place + ")";
            due(call, x.walkVertex(walk, place), vertices[place]);
            int to = vertices[(place + 1) % vertices.length];
            due("walkOf(" + vertices[place] + ", " + to + ")", x.walkOf(vertices[place], to), walk);
        }
    }

    /** The answers of all calls that change nothing. */
    static List<Double> answers(PlanarityTester x) {
        List<Double> found = graphAnswers(x);
        for (int what = 5; what <= 8; what++) {
            found.add((double) x.count(what));
        }
        found.add((double) x.fault());
        return found;
    }

    /** The answers that tell of the edges alone. */
    static List<Double> graphAnswers(PlanarityTester x) {
        List<Double> found = new ArrayList<>();
        for (int what = 0; what <= 4; what++) {
            found.add((double) x.count(what));
        }
        for (int a = -1; a <= 10; a++) {
            found.add((double) x.neighbors(a));
            found.add((double) x.forbidden(a));
            found.add((double) x.joinable(a));
            for (int b = -1; b <= 10; b++) {
                found.add((double) x.block(a, b));
                found.add((double) x.blockInfo(a, b));
                found.add((double) x.next(a, b));
                found.add((double) x.walkOf(a, b));
                found.add((double) x.inForbidden(a, b));
                found.add((double) x.ifFlipped(a, b));
            }
        }
        for (int walk = -1; walk <= 16; walk++) {
            found.add((double) x.walkLength(walk));
            for (int place = -1; place <= 48; place++) {
                found.add((double) x.walkVertex(walk, place));
            }
        }
        found.add((double) x.planar());
        found.add((double) x.walks());
        found.add(x.density());
        return found;
    }

    /** All that can be learnt of an object, by way of undo, the snapshot and the text as well. */
    static List<Double> wholeFuture(PlanarityTester x) {
        List<Double> found = answers(x);
        for (int i = 0; i < 6; i++) {
            found.add((double) x.undo());
            found.addAll(answers(x));
        }
        found.add((double) x.restore());
        found.addAll(answers(x));
        found.add((double) x.run());
        found.addAll(answers(x));
        found.add((double) x.append('z'));
        found.add((double) x.clearText());
        return found;
    }

    /** Whether an object on which the call was made goes on as one on which it was not. */
    static void dueToChangeNothing(Supplier<PlanarityTester> made, String about, Call call) {
        PlanarityTester touched = made.get();
        call.on(touched);
        if (!wholeFuture(touched).equals(wholeFuture(made.get()))) {
            fail(call.name() + " on " + about + " changed something");
        }
    }
}
