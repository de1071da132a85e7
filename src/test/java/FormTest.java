import java.io.IOException;
import java.lang.reflect.Array;
import java.lang.reflect.Constructor;
import java.lang.reflect.Field;
import java.lang.reflect.Method;
import java.lang.reflect.Modifier;
import java.nio.charset.StandardCharsets;
import java.nio.file.Files;
import java.nio.file.Path;
import java.util.ArrayList;
import java.util.Collections;
import java.util.IdentityHashMap;
import java.util.List;
import java.util.Random;
import java.util.Set;
import java.util.TreeSet;
import java.util.regex.Matcher;
import java.util.regex.Pattern;

/** The public face, as the document writes it out, and the room that an object takes. LanguageTest has the rules. */
public final class FormTest {
    private static final Check CHECK = new Check("FormTest");
    private static final String[] FACE = {"int trade(int,int)", "int task(int,int,int,int)", "int hours(int,int,int,int)",
        "int name(int,int)", "int unname(int)", "int at(int,int)", "int swap(int,int)", "long share(int,int,boolean)",
        "int gifts(int,boolean)", "int gift(int,boolean,int)", "int room(int,int)", "int due(int,int,int)",
        "int fits(int)", "int learn(int)", "int off(int,int)", "long worth(int,int,int,boolean)",
        "long score(int,int,boolean)", "int ahead(int,int)", "int rank(int,int)", "int claim(int,int,int)",
        "int over(int)", "long gets(int,int,int,boolean)", "long unfair(int,int,boolean)", "int fairest(int)",
        "int mind(int,int,int)", "int bear(int,int)", "int quarrel(int,boolean)", "int peace(int)",
        "int peaceAt(int,int)", "int settle(int)", "int owed(int,int)", "int next(int,int,int)", "int keep(int,int)",
        "int cost(int,int)", "int count(int)"};

    public static void main(String[] args) throws IOException, ReflectiveOperationException {
        face();
        constants();
        room();
        String root = args.length > 0 ? args[0] : ".";
        String source = Files.readString(Path.of(root, "src/main/java/NamesInRow.java"), StandardCharsets.ISO_8859_1);
        Path document = Path.of(root, "../shared/DOC.md");
        if (Files.isReadable(document)) {
            asWrittenOut(source, Files.readString(document, StandardCharsets.UTF_8));
        } else {
            System.out.println("FormTest: " + document + " is not there; its face was not compared");
        }
        CHECK.end();
    }

    private static String described(Method method) {
        StringBuilder text = new StringBuilder(method.getReturnType().getSimpleName());
        text.append(' ').append(method.getName()).append('(');
        for (int i = 0; i < method.getParameterCount(); i++) {
            text.append(i == 0 ? "" : ",").append(method.getParameterTypes()[i].getSimpleName());
        }
        return text.append(')').toString();
    }

    private static void face() {
        CHECK.isTrue("public and final", NamesInRow.class.getModifiers() == (Modifier.PUBLIC | Modifier.FINAL));
        Constructor<?>[] constructors = NamesInRow.class.getDeclaredConstructors();
        CHECK.isTrue("one public constructor", constructors.length == 1 && constructors[0].getParameterCount() == 0
                && constructors[0].getModifiers() == Modifier.PUBLIC);
        Set<String> methods = new TreeSet<>();
        for (Method method : NamesInRow.class.getDeclaredMethods()) {
            if (!Modifier.isPrivate(method.getModifiers())) {
                CHECK.isTrue(method + " is public and no more", method.getModifiers() == Modifier.PUBLIC);
                methods.add(described(method));
            }
        }
        CHECK.isTrue("the methods of the document: " + methods, methods.equals(new TreeSet<>(List.of(FACE))));
    }

    private static void constants() {
        CHECK.due("UNKNOWN", NamesInRow.UNKNOWN, -1);
        CHECK.due("OUTSIDE", NamesInRow.OUTSIDE, -2);
        CHECK.due("STATE", NamesInRow.STATE, -3);
        CHECK.due("FULL", NamesInRow.FULL, -4);
        CHECK.due("NONE", NamesInRow.NONE, -9);
        Set<String> constants = new TreeSet<>();
        for (Field field : NamesInRow.class.getDeclaredFields()) {
            if (!Modifier.isPrivate(field.getModifiers())) {
                constants.add(field.getName());
            }
        }
        CHECK.isTrue("the constants of the document: " + constants,
                constants.equals(Set.of("UNKNOWN", "OUTSIDE", "STATE", "FULL", "NONE")));
    }

    /** The lines of the face, word for word and in their order, and what the interface says ahead of each group. */
    private static void asWrittenOut(String source, String document) {
        String face = document.substring(document.indexOf("public final class"), document.indexOf("## Terms"));
        CHECK.isTrue("the document's face was found", publicLines(face).size() == FACE.length + 3);
        CHECK.isTrue("the lines of the face", publicLines(source).equals(publicLines(face)));
        List<String> groups = new ArrayList<>();
        Matcher ahead = Pattern.compile("(?m)^Ahead of the calls (.*) the interface says: (---- .*)\\.$").matcher(document);
        while (ahead.find()) {
            groups.add(ahead.group(2) + ": " + ahead.group(1).replace("`", ""));
        }
        CHECK.due("groups of calls in the document", groups.size(), 6);
        CHECK.isTrue("the groups of calls: " + groupsIn(source), groupsIn(source).equals(groups));
    }

    private static List<String> publicLines(String text) {
        List<String> lines = new ArrayList<>();
        for (String line : text.split("\n")) {
            if (line.trim().startsWith("public ")) {
                lines.add(line.trim().replaceFirst("( \\{|;)$", ""));
            }
        }
        return lines;
    }

    private static List<String> groupsIn(String source) {
        List<String> groups = new ArrayList<>();
        String heading = "";
        String calls = "";
        for (String line : (source + "\n// ---- end").split("\n")) {
            if (line.trim().startsWith("// ----")) {
                if (!calls.isEmpty()) {
                    groups.add(heading + ": " + calls);
                }
                heading = line.trim().substring(3);
                calls = "";
            }
            Matcher call = Pattern.compile(" {4}public \\w+ (\\w+)\\(.*").matcher(line);
            if (call.matches()) {
                calls += (calls.isEmpty() ? "" : ", ") + call.group(1);
            }
        }
        return groups;
    }

    /** What a run may make is counted: an object takes little, and its 512 calls nothing more. */
    private static void room() throws ReflectiveOperationException {
        NamesInRow x = new NamesInRow();
        int[] before = roomOf(x);
        CHECK.isTrue("at most 200 objects: " + before[0], before[0] <= 200);
        CHECK.isTrue("at most 2000 fields and elements: " + before[1], before[1] <= 2000);
        Random random = new Random(1);
        List<Face.Call> calls = Face.calls();
        for (int i = 0; i < 512; i++) {
            Face.Call call = calls.get(random.nextInt(calls.size()));
            call.on(x, call.anyTaken(random));
        }
        int[] after = roomOf(x);
        CHECK.due("objects after 512 calls", after[0], before[0]);
        CHECK.due("fields and elements after 512 calls", after[1], before[1]);
    }

    /** How many objects and arrays there are, and how many fields and elements they have together. */
    private static int[] roomOf(Object first) throws ReflectiveOperationException {
        Set<Object> seen = Collections.newSetFromMap(new IdentityHashMap<>());
        List<Object> left = new ArrayList<>(List.of(first));
        seen.add(first);
        int numbers = 0;
        while (!left.isEmpty()) {
            Object one = left.remove(left.size() - 1);
            List<Object> held = new ArrayList<>();
            if (one.getClass().isArray()) {
                for (int i = 0; i < Array.getLength(one); i++) {
                    held.add(one.getClass().getComponentType().isPrimitive() ? null : Array.get(one, i));
                }
            } else {
                for (Field field : one.getClass().getDeclaredFields()) {
                    if (!Modifier.isStatic(field.getModifiers())) {
                        field.setAccessible(true);
                        held.add(field.getType().isPrimitive() ? null : field.get(one));
                    }
                }
            }
            numbers += held.size();
            for (Object other : held) {
                if (other != null && seen.add(other)) {
                    left.add(other);
                }
            }
        }
        return new int[] {seen.size(), numbers};
    }
}
