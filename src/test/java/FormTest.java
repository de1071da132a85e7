import java.io.IOException;
import java.lang.reflect.Constructor;
import java.lang.reflect.Field;
import java.lang.reflect.Method;
import java.lang.reflect.Modifier;
import java.nio.charset.StandardCharsets;
import java.nio.file.Files;
import java.nio.file.Path;
import java.util.HashSet;
import java.util.List;
import java.util.Set;
import java.util.TreeSet;
import java.util.regex.Pattern;

/** The public face of the document, and what of LANGUAGE.md can be read off the class and its text. */
public final class FormTest {
    private static final Check CHECK = new Check("FormTest");
    private static final String[] FACE = {"int trade(int,int)", "int task(int,int,int,int)", "int hours(int,int,int,int)",
        "int name(int,int)", "int unname(int)", "int at(int,int)", "int swap(int,int)", "long share(int,int,boolean)",
        "int gifts(int,boolean)", "int gift(int,boolean,int)", "int room(int,int)", "int due(int,int,int)",
        "int fits(int)", "int learn(int)", "int off(int,int)", "long worth(int,int,int,boolean)",
        "long score(int,int,boolean)", "int ahead(int,int)", "int rank(int,int)", "int claim(int,int,int)",
        "int over(int)", "long gets(int,int,int,boolean)", "long unfair(int,int,boolean)", "int fairest(int)",
        "int mind(int,int,int)", "int bear(int,int)", "int quarrel(int,boolean)", "int peace(int)",
        "int peaceAt(int,int)", "int settle(int)", "int owed(int,int)", "int next(int,int,int)", "int keep(int,int)",
        "int cost(int,int)", "int count(int)"};
    private static final String[] FORBIDDEN = {"\\bthrow\\b", "\\bthrows\\b", "\\btry\\b", "\\bcatch\\b",
        "\\bsynchronized\\b", "\\bassert\\b", "\\bimport\\b", "\\bpackage\\b", "\\bnative\\b", "->", "::", "Exact\\(",
        "\\bObject\\b", "\\bThread\\b", "\\bSystem\\b", "\\bstatic \\{"};

    public static void main(String[] args) throws IOException {
        face();
        constants();
        classesInside();
        Path source = Path.of(args.length > 0 ? args[0] : ".", "src/main/java/NamesInRow.java");
        text(Files.readString(source, StandardCharsets.ISO_8859_1));
        CHECK.end();
    }

    private static String described(Method method) {
        StringBuilder text = new StringBuilder(method.getReturnType().getSimpleName());
        text.append(' ').append(method.getName()).append('(');
        for (int i = 0; i < method.getParameterCount(); i++) {
            text.append(i == 0 ? "" : ",").append(method.getParameterTypes()[i].getSimpleName());
        }
        return text.append(')').toString();
    }

    private static void face() {
        CHECK.isTrue("public and final", NamesInRow.class.getModifiers() == (Modifier.PUBLIC | Modifier.FINAL));
        Constructor<?>[] constructors = NamesInRow.class.getDeclaredConstructors();
        CHECK.isTrue("one public constructor", constructors.length == 1 && constructors[0].getParameterCount() == 0
                && constructors[0].getModifiers() == Modifier.PUBLIC);
        Set<String> methods = new TreeSet<>();
        Set<String> publicNames = new HashSet<>();
        for (Method method : NamesInRow.class.getDeclaredMethods()) {
            if (method.getModifiers() == Modifier.PUBLIC) {
                methods.add(described(method));
                publicNames.add(method.getName());
            }
        }
        CHECK.isTrue("the methods of the document: " + methods, methods.equals(new TreeSet<>(List.of(FACE))));
        for (Method method : NamesInRow.class.getDeclaredMethods()) {
            if (method.getModifiers() != Modifier.PUBLIC) {
                CHECK.isTrue(method + " is private", Modifier.isPrivate(method.getModifiers()));
                CHECK.isTrue(method + " has a name of its own", !publicNames.contains(method.getName()));
            }
        }
    }

    private static void constants() {
        CHECK.due("UNKNOWN", NamesInRow.UNKNOWN, -1);
        CHECK.due("OUTSIDE", NamesInRow.OUTSIDE, -2);
        CHECK.due("STATE", NamesInRow.STATE, -3);
        CHECK.due("FULL", NamesInRow.FULL, -4);
        CHECK.due("NONE", NamesInRow.NONE, -9);
        Set<String> constants = new TreeSet<>();
        for (Field field : NamesInRow.class.getDeclaredFields()) {
            int modifiers = field.getModifiers();
            CHECK.isTrue(field + " is final, if static", !Modifier.isStatic(modifiers) || Modifier.isFinal(modifiers));
            if (!Modifier.isPrivate(modifiers)) {
                CHECK.isTrue(field + " is a constant", modifiers == (Modifier.PUBLIC | Modifier.STATIC | Modifier.FINAL));
                constants.add(field.getName());
            }
        }
        CHECK.isTrue("the constants of the document: " + constants,
                constants.equals(Set.of("UNKNOWN", "OUTSIDE", "STATE", "FULL", "NONE")));
    }

    private static void classesInside() {
        Class<?>[] inside = NamesInRow.class.getDeclaredClasses();
        CHECK.isTrue("at most twelve classes", inside.length <= 11);
        for (Class<?> one : inside) {
            int modifiers = one.getModifiers();
            CHECK.isTrue(one + " is static", Modifier.isStatic(modifiers));
            CHECK.isTrue(one + " is not public", !Modifier.isPublic(modifiers) && !Modifier.isProtected(modifiers));
            CHECK.isTrue(one + " has at most twenty fields", one.getDeclaredFields().length <= 20);
        }
    }

    private static void text(String source) {
        for (int i = 0; i < source.length(); i++) {
            if (source.charAt(i) < 1 || source.charAt(i) > 127) {
                CHECK.isTrue("sign " + (int) source.charAt(i), false);
            }
        }
        String code = source.replaceAll("(?s)/\\*.*?\\*/", "").replaceAll("//[^\n]*", "");
        for (String forbidden : FORBIDDEN) {
            CHECK.isTrue("without " + forbidden, !Pattern.compile(forbidden).matcher(code).find());
        }
        String[] lines = code.split("\n");
        int start = -1;
        for (int i = 0; i < lines.length; i++) {
            String line = lines[i];
            if (line.matches(" {4}(?: {4})?(?!.*\\bclass\\b)\\w.*\\) \\{")) {
                start = i;
                CHECK.isTrue("at most seven parameters: " + line, line.split(",").length <= 7);
            }
            if (start >= 0 && line.matches(" {4}(?: {4})?\\}")) {
                CHECK.isTrue("short: " + lines[start], i - start <= 60);
            }
            // All rows are made with the object, so that no call adds to the room of a run.
            if (line.contains("new ")) {
                CHECK.isTrue("made once: " + line, line.contains("final ") || line.contains("papers[i] = new Paper()"));
            }
        }
    }
}
