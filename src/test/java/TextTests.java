import java.util.LinkedHashMap;
import java.util.Map;

/** The sentences on the text, its fault, and the edits that are read from it. */
public final class TextTests {
    /** Behind each beginning of a list, the signs with which some list goes on. */
    private static final Map<String, String> GOING_ON = new LinkedHashMap<>();

    static {
        GOING_ON.put("", "adf");
        spell("add 0-1");
        spell("drop 5-9");
        spell("flip 9-2");
        GOING_ON.put("add ", "0123456789");
        GOING_ON.put("drop ", "0123456789");
        GOING_ON.put("flip ", "0123456789");
        GOING_ON.put("add 0-", "123456789");
        GOING_ON.put("drop 5-", "012346789");
        GOING_ON.put("flip 9-", "012345678");
    }

    private TextTests() {
    }

    private static void spell(String edit) {
        for (int i = 1; i < edit.length(); i++) {
            GOING_ON.put(edit.substring(0, i), edit.substring(i, i + 1));
        }
        GOING_ON.put(edit, ";");
    }

    private static String times(String edit, int times) {
        return (edit + ";").repeat(times);
    }

    private static void dueFault(String text, int want) {
        PlanarityTester x = Checks.withText(text);
        Checks.due("the length of '" + text + "'", x.count(8), text.length());
        Checks.due("fault() of '" + text + "'", x.fault(), want);
    }

    private static void atMost80() {
        PlanarityTester x = new PlanarityTester();
        Checks.due("count(8) at first", x.count(8), 0);
        Checks.due("fault() at first", x.fault(), 0);
        Checks.due("clearText() at first", x.clearText(), 0);
        for (int i = 1; i <= 80; i++) {
            Checks.due("append('x')", x.append('x'), i);
        }
        Checks.due("append('x') of 80", x.append('x'), Checks.TOO_MANY);
        Checks.due("count(8)", x.count(8), 80);
        Checks.due("clearText()", x.clearText(), 80);
        Checks.due("append('x') of none", x.append('x'), 1);
    }

    private static void allSignsBehindBeginnings() {
        for (String before : new String[] {"", "drop 3-4;", times("flip 0-9", 5)}) {
            for (Map.Entry<String, String> entry : GOING_ON.entrySet()) {
                String begin = before + entry.getKey();
                for (char sign = 32; sign <= 126; sign++) {
                    PlanarityTester x = Checks.withText(begin + sign);
                    boolean goesOn = entry.getValue().indexOf(sign) >= 0;
                    int fault = x.fault();
                    if (goesOn ? fault == begin.length() : fault != begin.length()) {
                        Checks.fail("fault() of '" + begin + sign + "' answered " + fault);
                    }
                }
            }
        }
    }

    private static void listsOfEdits() {
        dueFault("add 0-1", Checks.NONE);
        dueFault("add 0-1;drop 0-1", Checks.NONE);
        dueFault("add 0-1;drop 0-1;flip 0-1", Checks.NONE);
        dueFault(times("add 0-1", 9) + "add 0-1", Checks.NONE);
        dueFault(times("flip 0-1", 7) + "drop 8-9", Checks.NONE);
        dueFault(times("drop 1-0", 8) + "flip 3-4", Checks.NONE);
        dueFault("add 0-1,drop 0-1", 7);
        dueFault("add 0-1; drop 0-1", 8);
        dueFault("add 0-1 ;drop 0-1", 7);
        dueFault("add 0-1;;drop 0-1", 8);
        dueFault(";add 0-1", 0);
    }

    private static void verticesOfEdits() {
        for (char a = '0'; a <= '9'; a++) {
            for (char b = '0'; b <= '9'; b++) {
                dueFault("flip " + a + "-" + b, a == b ? 7 : Checks.NONE);
            }
        }
        dueFault("add 10-1", 5);
        dueFault("add 2-10", 7);
        dueFault("add -1-0", 4);
        dueFault("add :-1", 4);
        dueFault("add /-1", 4);
        dueFault("add 1-:", 6);
        dueFault("add 1-/", 6);
    }

    private static void sameVertexTwice() {
        dueFault("add 4-4", 6);
        dueFault("add 4-4;add 0-1", 6);
        dueFault("drop 4-4", 7);
        dueFault("add 4-5;drop 5-5", 15);
        dueFault("add 4-5;drop 5-4", Checks.NONE);
        dueFault("add 4-4z", 6);
    }

    private static void listsOfAnyLength() {
        dueFault(times("add 0-1", 10), 80);
        dueFault(times("drop 0-1", 7) + times("add 0-1", 2) + "a", 80);
        dueFault(times("drop 0-1", 7) + times("add 0-1", 2) + "b", 79);
        dueFault(times("flip 0-1", 8) + "add 0-1;", 80);
        dueFault(times("flip 0-1", 8) + "add 0-1 ", 79);
        dueFault(times("flip 0-1", 8) + "flip 0-0", 79);
        dueFault("z" + times("flip 0-1", 8), 0);
    }

    private static void textsThatEndTooEarly() {
        String list = "add 0-1;drop 2-3;flip 4-5";
        for (int length = 0; length <= list.length(); length++) {
            boolean complete = length == 7 || length == 16 || length == 25;
            dueFault(list.substring(0, length), complete ? Checks.NONE : length);
        }
    }

    private static void append() {
        for (int character = -3; character <= 300; character++) {
            PlanarityTester x = new PlanarityTester();
            boolean inRange = character >= 32 && character <= 126;
            Checks.due("append(" + character + ")", x.append(character),
                    inRange ? 1 : Checks.BAD_VALUE);
            Checks.due("count(8)", x.count(8), inRange ? 1 : 0);
        }
        for (int character : new int[] {'a' + 256, 'a' + 65536, 'a' - 65536, Integer.MIN_VALUE + 'a',
            Integer.MAX_VALUE, Integer.MIN_VALUE}) {
            Checks.due("append(" + character + ")", new PlanarityTester().append(character),
                    Checks.BAD_VALUE);
        }
    }

    private static void clearText() {
        PlanarityTester x = Checks.withText("add 0-1;add 2-3");
        x.run();
        Checks.due("clearText()", x.clearText(), 15);
        Checks.due("clearText() again", x.clearText(), 0);
        Checks.due("fault()", x.fault(), 0);
        Checks.due("run()", x.run(), -100);
        Checks.due("count(0)", x.count(0), 2);
        Checks.write(x, "add 4-5;");
        Checks.due("fault() sees nothing of the text before", x.fault(), 8);
    }

    private static void edits() {
        PlanarityTester x = Checks.withText("add 3-1");
        Checks.due("run() of add", x.run(), 1);
        Checks.due("neighbors(1)", x.neighbors(1), 8);
        Checks.due("run() of add again", x.run(), 0);
        Checks.due("neighbors(1)", x.neighbors(1), 8);
        x.clearText();
        Checks.write(x, "drop 1-3");
        Checks.due("run() of drop", x.run(), 1);
        Checks.due("neighbors(1)", x.neighbors(1), 0);
        Checks.due("run() of drop again", x.run(), 0);
        Checks.due("neighbors(1)", x.neighbors(1), 0);
        x.clearText();
        Checks.write(x, "flip 3-1");
        Checks.due("run() of flip", x.run(), 1);
        Checks.due("neighbors(3)", x.neighbors(3), 2);
        Checks.due("run() of flip again", x.run(), 1);
        Checks.due("neighbors(3)", x.neighbors(3), 0);
        Checks.dueCounts(x, 0, 10, 0, 0, 0, 2, 2, 5, 8);
    }

    private static void oneAfterTheOther() {
        PlanarityTester x = Checks.withText("drop 0-9;add 0-9;add 9-0;drop 9-0;flip 0-9");
        Checks.due("run()", x.run(), 3);
        Checks.dueCounts(x, 1, 9, 1, 0, 1, 2, 1, 1, 42);
        x = Checks.completeGraph(0, 4);
        Checks.write(x, "add 8-9;flip 0-1;flip 5-6");
        Checks.due("run() of a graph that is not planar", x.run(), 3);
        Checks.due("planar()", x.planar(), 1);
        StringBuilder ten = new StringBuilder("add 1-9");
        for (int v = 1; v < 10; v++) {
            ten.append(";add 0-").append(v);
        }
        x = Checks.withText(ten.toString());
        Checks.due("run() of ten edits", x.run(), 10);
        Checks.due("neighbors(0) has the last one", x.neighbors(0), 1022);
    }

    private static void skippedEdits() {
        PlanarityTester x = Checks.withEdges(0, 1);
        Checks.write(x, "add 0-1;drop 0-2;add 1-0;drop 8-9");
        Checks.due("run()", x.run(), 0);
        Checks.dueCounts(x, 1, 9, 1, 0, 1, 1, 0, 2, 33);
    }

    private static void textStays() {
        PlanarityTester x = Checks.withText("flip 2-3;add 4-5");
        for (int i = 0; i < 3; i++) {
            x.run();
            Checks.due("count(8)", x.count(8), 16);
            Checks.due("fault()", x.fault(), Checks.NONE);
        }
        Checks.due("append(';')", x.append(';'), 17);
        Checks.due("run()", x.run(), -117);
        Checks.due("count(8)", x.count(8), 17);
    }

    private static void faultOfRun() {
        Checks.due("run() of no text", new PlanarityTester().run(), -100);
        Checks.due("run() of a bad first sign", Checks.withText("x").run(), -100);
        Checks.due("run() of one sign", Checks.withText("a").run(), -101);
        Checks.due("run() of a bad second sign", Checks.withText("ax").run(), -101);
        Checks.due("run() of a bad last sign", Checks.withText(times("flip 0-1", 8)
                + "flip 0-0").run(), -179);
        Checks.due("run() of 80 signs", Checks.withText(times("add 0-1", 10)).run(), -180);
        PlanarityTester x = Checks.withText("add 0-1;add 1-2;add 2-2");
        Checks.due("run() with a fault behind two edits", x.run(), -122);
        Checks.dueCounts(x, 0, 10, 0, 0, 0, 0, 0, 0, 23);
    }

    public static void main(String[] args) {
        Checks.sentence("There is a text of at most 80 characters (empty at first).",
                TextTests::atMost80);
        Checks.sentence("A list of edits is written as follows:", TextTests::listsOfEdits);
        Checks.sentence("A vertex is a digit from 0 to 9; the two vertices of an edit are different,"
                + " in any order.", TextTests::verticesOfEdits);
        Checks.sentence("The fault of the text is the index of the first character such that no list,"
                + " of any length, begins with the characters up to and including it",
                TextTests::allSignsBehindBeginnings);
        Checks.sentence("no list, of any length, begins with", TextTests::listsOfAnyLength);
        Checks.sentence("(so a second vertex that is the same as the first one is a fault)",
                TextTests::sameVertexTwice);
        Checks.sentence("If there is no such character, but the text is not a complete list (as the"
                + " empty text), the fault is the length of the text.",
                TextTests::textsThatEndTooEarly);
        Checks.sentence("Returns the length of the text; BAD_VALUE if character is out of range;",
                TextTests::append);
        Checks.sentence("TOO_MANY if the text has 80 characters.", TextTests::atMost80);
        Checks.sentence("Returns the length that the text had.", TextTests::clearText);
        Checks.sentence("Returns the fault; NONE if the text is a complete list.",
                TextTests::textsThatEndTooEarly);
        Checks.sentence("\"add\" adds an edge that is not there, \"drop\" drops an edge that is there,"
                + " \"flip\" drops an edge that is there, and adds one that is not.",
                TextTests::edits);
        Checks.sentence("Carries out the list of edits in the text, one after the other:",
                TextTests::oneAfterTheOther);
        Checks.sentence("An edit that finds nothing to do is skipped.", TextTests::skippedEdits);
        Checks.sentence("The text does not change.", TextTests::textStays);
        Checks.sentence("Returns the number of edits that were not skipped; -100 minus the fault (an"
                + " error code) if the text is not a complete list.", TextTests::faultOfRun);
        Checks.end();
    }
}
