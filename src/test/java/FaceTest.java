import java.io.IOException;
import java.lang.reflect.Constructor;
import java.lang.reflect.Field;
import java.lang.reflect.Method;
import java.lang.reflect.Modifier;
import java.nio.file.Files;
import java.nio.file.Path;
import java.util.Set;
import java.util.TreeSet;
import java.util.regex.Matcher;
import java.util.regex.Pattern;

/** The public face as the document gives it, and rules of LANGUAGE.md that a text search can see. */
public final class FaceTest {
    private static final String[] FORBIDDEN_WORDS = {"import", "package", "try", "catch", "finally",
        "throw", "throws", "synchronized", "assert", "instanceof", "native", "volatile",
        "transient", "System", "Thread", "Object", "NaN", "equals", "hashCode", "toString"};
    private static int wrong = 0;

    private FaceTest() {
    }

    private static void fail(String what) {
        wrong++;
        System.out.println(what);
    }

    private static String name(Class<?>[] types) {
        StringBuilder names = new StringBuilder();
        for (Class<?> type : types) {
            names.append(names.length() == 0 ? "" : ",").append(type.getSimpleName());
        }
        return names.toString();
    }

    /** The members in the document's section on the public face, written as name does it. */
    private static Set<String> faceOfTheDocument() throws IOException {
        String document = Files.readString(Path.of("../shared/DOC.md"));
        Matcher section = Pattern.compile("(?s)## The public face\\s+```java\n(.*?)```")
                .matcher(document);
        Set<String> found = new TreeSet<>();
        if (section.find()) {
            for (String line : section.group(1).split("\n")) {
                if (line.startsWith("    public ")) {
                    String member = line.trim().replace(";", "");
                    found.add(member.replaceAll("(int|double) \\w+(?=[,)])", "$1").replace(", ", ","));
                }
            }
        }
        return found;
    }

    private static String constant(Field field) {
        try {
            return " = " + field.getInt(null);
        } catch (IllegalAccessException | IllegalArgumentException e) {
            return " is no constant";
        }
    }

    private static void checkFace() throws IOException {
        Set<String> found = new TreeSet<>();
        Set<String> publicNames = new TreeSet<>();
        for (Field field : PlanarityTester.class.getDeclaredFields()) {
            if (!Modifier.isPrivate(field.getModifiers())) {
                found.add(Modifier.toString(field.getModifiers()) + " "
                        + field.getType().getSimpleName() + " " + field.getName()
                        + constant(field));
            } else if (Modifier.isStatic(field.getModifiers())
                    && !Modifier.isFinal(field.getModifiers())) {
                fail("a static field that is not final: " + field.getName());
            }
        }
        for (Constructor<?> made : PlanarityTester.class.getDeclaredConstructors()) {
            found.add(Modifier.toString(made.getModifiers()) + " PlanarityTester("
                    + name(made.getParameterTypes()) + ")");
        }
        for (Method method : PlanarityTester.class.getDeclaredMethods()) {
            if (!Modifier.isPrivate(method.getModifiers())) {
                publicNames.add(method.getName());
                found.add(Modifier.toString(method.getModifiers()) + " "
                        + method.getReturnType().getSimpleName() + " " + method.getName() + "("
                        + name(method.getParameterTypes()) + ")");
            }
        }
        Set<String> wanted = faceOfTheDocument();
        if (!found.equals(wanted)) {
            fail("the face is " + found + ", due is " + wanted);
        }
        if (Modifier.toString(PlanarityTester.class.getModifiers()).compareTo("public final") != 0) {
            fail("the class is not public and final");
        }
        checkInside(publicNames);
    }

    private static void checkInside(Set<String> publicNames) {
        Class<?>[] inside = PlanarityTester.class.getDeclaredClasses();
        if (inside.length > 11) {
            fail("more than twelve classes");
        }
        for (Class<?> type : inside) {
            if (!Modifier.isStatic(type.getModifiers()) || Modifier.isPublic(type.getModifiers())) {
                fail(type + " is not a static class that stays inside");
            }
            int fields = 0;
            for (Field field : type.getDeclaredFields()) {
                fields += Modifier.isStatic(field.getModifiers()) ? 0 : 1;
            }
            if (fields > 20) {
                fail(type + " has more than twenty fields");
            }
        }
        for (Class<?> type : inside) {
            for (Method method : type.getDeclaredMethods()) {
                if (publicNames.contains(method.getName())) {
                    fail(type + " uses the name of a public method: " + method.getName());
                }
            }
        }
        for (Method method : PlanarityTester.class.getDeclaredMethods()) {
            if (Modifier.isPrivate(method.getModifiers())
                    && publicNames.contains(method.getName())) {
                fail("a private method has a public name: " + method.getName());
            }
        }
    }

    private static void checkText() throws IOException {
        String text = Files.readString(Path.of("src/main/java/PlanarityTester.java"));
        String code = text.replaceAll("(?s)/\\*.*?\\*/", "").replaceAll("//[^\n]*", "");
        for (String word : FORBIDDEN_WORDS) {
            if (Pattern.compile("\\b" + word + "\\b").matcher(code).find()) {
                fail("the program uses the word " + word);
            }
        }
        for (String sign : new String[] {"->", "::", "@", "\t"}) {
            if (code.contains(sign)) {
                fail("the program uses the sign '" + sign + "'");
            }
        }
        for (int i = 0; i < text.length(); i++) {
            if (text.charAt(i) > 126) {
                fail("a sign above 126 at " + i);
            }
        }
        Matcher made = Pattern.compile("new (?!int\\[|long\\[)\\w+").matcher(code);
        while (made.find()) {
            int start = code.lastIndexOf('\n', made.start()) + 1;
            if (!code.substring(start, made.start()).contains("private final")) {
                fail("an object is made in a call: " + made.group());
            }
        }
    }

    /** Each row must be made with the object, since all calls of a run share one small room. */
    private static void checkRows() throws IOException {
        for (String line : Files.readAllLines(Path.of("src/main/java/PlanarityTester.java"))) {
            if (line.matches(".*new (int|long)\\[.*") && !line.contains("private final")) {
                fail("a row is made in a call: " + line.trim());
            }
        }
    }

    private static void checkLengths() throws IOException {
        int start = 0;
        int number = 0;
        for (String line : Files.readAllLines(Path.of("src/main/java/PlanarityTester.java"))) {
            number++;
            if (line.matches(" {4}( {4})?[a-z].*\\) \\{")) {
                start = number;
            } else if (line.matches(" {4}( {4})?\\}") && start > 0) {
                if (number - start > 60) {
                    fail("a method of more than sixty lines ends at line " + number);
                }
                start = 0;
            }
        }
    }

    public static void main(String[] args) throws IOException {
        checkFace();
        checkText();
        checkRows();
        checkLengths();
        System.out.println(wrong + " faults of the face or the text");
        if (wrong != 0) {
            System.exit(1);
        }
    }
}
