import java.io.IOException;
import java.lang.reflect.Method;
import java.lang.reflect.Modifier;
import java.nio.charset.StandardCharsets;
import java.nio.file.Files;
import java.nio.file.Path;
import java.util.ArrayList;
import java.util.HashSet;
import java.util.List;
import java.util.Set;
import java.util.TreeSet;
import java.util.regex.Matcher;
import java.util.regex.Pattern;

/** The public face is the document's, and the source keeps to LANGUAGE.md, as far as a look at its words tells. */
public final class RulesTest {
    private static final String[] FORBIDDEN = {
        "\\bthrow\\b", "\\btry\\b", "\\bcatch\\b", "\\bsynchronized\\b", "\\bassert\\b", "\\bimport\\b", "\\bpackage\\b",
        "->", "::", "Exact\\b", "\\bprotected\\b", "@", "\\bnull\\s*\\)\\s*\\{\\s*\\}", "\\bjava\\.", "\\bString\\.format",
    };

    /** What the class calls of the library; LANGUAGE.md lists each of them. */
    private static final Set<String> LIBRARY = Set.of(
        "java/lang/Object.<init>()V", "java/lang/Math.max(II)I", "java/lang/Math.min(II)I", "java/lang/Long.bitCount(J)I",
        "java/lang/String.indexOf(I)I", "java/lang/System.arraycopy(Ljava/lang/Object;ILjava/lang/Object;II)V");
    private static final Set<String> LIBRARY_CLASSES = Set.of("java/lang/Object", "java/lang/Math", "java/lang/Long",
        "java/lang/String", "java/lang/System");
    /** A run's room holds 600,000 objects and 7.3 million places: a thousand such objects fit well. */
    private static final int OBJECTS_MOST = 500;
    private static final int PLACES_MOST = 6000;

    private static int wrong = 0;

    public static void main(String[] args) throws IOException, IllegalAccessException {
        String project = System.getProperty("project", ".");
        String shared = System.getProperty("shared", "../shared");
        String document = read(Path.of(shared, "DOC.md"));
        String written = read(Path.of(project, "src/main/java/GorgeRocks.java"));
        String source = withoutComments(written);
        checkFace(faceOfDocument(document));
        checkLinesOfInterface(document, written);
        checkWords(source);
        checkLengths(source);
        checkLibrary();
        checkRoom();
        System.out.println(wrong == 0 ? "the face and the rules hold" : wrong + " faults");
        if (wrong != 0) {
            System.exit(1);
        }
    }

    private static String read(Path path) throws IOException {
        return new String(Files.readAllBytes(path), StandardCharsets.UTF_8);
    }

    private static void fault(String what) {
        wrong++;
        System.out.println(what);
    }

    private static Set<String> faceOfDocument(String document) {
        Set<String> face = new TreeSet<>();
        Matcher m = Pattern.compile("^    public (\\w+ \\w+)\\(([^)]*)\\);", Pattern.MULTILINE).matcher(document);
        while (m.find()) {
            List<String> types = new ArrayList<>();
            for (String parameter : m.group(2).isEmpty() ? new String[0] : m.group(2).split(", ")) {
                types.add(parameter.split(" ")[0]);
            }
            face.add(m.group(1) + types);
        }
        return face;
    }

    private static void checkFace(Set<String> face) {
        Set<String> has = new TreeSet<>();
        Set<String> publicNames = new HashSet<>();
        for (Method method : GorgeRocks.class.getDeclaredMethods()) {
            List<String> types = new ArrayList<>();
            for (Class<?> type : method.getParameterTypes()) {
                types.add(type.getName());
            }
            if (Modifier.isPublic(method.getModifiers())) {
                has.add(method.getReturnType().getName() + " " + method.getName() + types);
                publicNames.add(method.getName());
            } else if (!Modifier.isPrivate(method.getModifiers())) {
                fault("seen from outside: " + method);
            }
        }
        if (face.size() != 44 || !face.equals(has)) {
            fault("the face is " + has + ", the document's is " + face);
        }
        for (Class<?> inside : GorgeRocks.class.getDeclaredClasses()) {
            for (Method method : inside.getDeclaredMethods()) {
                if (publicNames.contains(method.getName())) {
                    fault("bears the name of a public method: " + method);
                }
            }
            if (!Modifier.isStatic(inside.getModifiers())) {
                fault("not static: " + inside);
            }
            if (fieldsOf(inside) > 20) {
                fault("too many fields: " + inside);
            }
        }
        if (GorgeRocks.class.getDeclaredClasses().length > 11) {
            fault("too many classes");
        }
        if (fieldsOf(GorgeRocks.class) > 20 || GorgeRocks.class.getFields().length != 0) {
            fault("fields of the class");
        }
    }

    /** "Ahead of the calls .. the interface says": the line stands just ahead of them, and they follow in that order. */
    private static void checkLinesOfInterface(String document, String written) {
        Matcher m = Pattern.compile("(?m)^Ahead of the calls (.*) the interface says: (---- .*)\\.$").matcher(document);
        StringBuilder due = new StringBuilder();
        while (m.find()) {
            due.append(m.group(2)).append('\n');
            for (String name : m.group(1).split(", ")) {
                due.append(name.replace("`", "")).append('\n');
            }
        }
        StringBuilder has = new StringBuilder();
        Matcher line = Pattern.compile("(?m)^    (?:// (---- .*)|public int (\\w+)\\(.*)$").matcher(written);
        while (line.find()) {
            has.append(line.group(1) != null ? line.group(1) : line.group(2)).append('\n');
        }
        if (due.length() == 0 || has.indexOf(due.toString()) != 0) {
            fault("the interface says\n" + has + "due is\n" + due);
        }
    }

    private static void checkLibrary() throws IOException {
        checkLibraryOf(GorgeRocks.class);
        for (Class<?> inside : GorgeRocks.class.getDeclaredClasses()) {
            checkLibraryOf(inside);
        }
    }

    private static void checkLibraryOf(Class<?> type) throws IOException {
        ClassFile file = new ClassFile(type);
        for (String called : file.calledOutside()) {
            if (!LIBRARY.contains(called)) {
                fault(type + " calls " + called);
            }
        }
        for (String used : file.classesOutside()) {
            if (!LIBRARY_CLASSES.contains(used)) {
                fault(type + " names " + used);
            }
        }
        if (file.isJoinedAsItRuns()) {
            fault(type + " has a lambda, or texts joined by +");
        }
    }

    /** All rows are made with the object: it takes no more room behind its calls. */
    private static void checkRoom() throws IllegalAccessException {
        Room fresh = new Room(new GorgeRocks());
        if (fresh.objects > OBJECTS_MOST || fresh.places > PLACES_MOST) {
            fault("a new object takes " + fresh.objects + " objects, " + fresh.places + " places");
        }
        for (GorgeRocks x : new GorgeRocks[] {Scenes.full(), Scenes.rich()}) {
            Room used = new Room(x);
            if (used.objects > fresh.objects || used.places > fresh.places) {
                fault("behind its calls it takes " + used.objects + " objects, " + used.places + " places; at first "
                    + fresh.objects + ", " + fresh.places);
            }
        }
    }

    private static int fieldsOf(Class<?> type) {
        int fields = 0;
        for (java.lang.reflect.Field field : type.getDeclaredFields()) {
            if (!Modifier.isStatic(field.getModifiers())) {
                fields++;
            } else if (!Modifier.isFinal(field.getModifiers())) {
                fault("static, not final: " + field);
            }
        }
        return fields;
    }

    private static String withoutComments(String source) {
        return source.replaceAll("(?s)/\\*.*?\\*/", "").replaceAll("//[^\n]*", "");
    }

    private static void checkWords(String source) {
        for (String word : FORBIDDEN) {
            Matcher m = Pattern.compile(word).matcher(source);
            if (m.find()) {
                fault("outside the rules: " + m.group());
            }
        }
        for (int i = 0; i < source.length(); i++) {
            if (source.charAt(i) > 126) {
                fault("a sign above 126 at " + i);
            }
        }
    }

    /** Some sixty lines a method, seven parameters, and a loop's end in its own lines (no while). */
    private static void checkLengths(String source) {
        Matcher m = Pattern.compile("(?m)^( +)(?:public |private )?(?:static )?\\w+(?:\\[\\])? ?\\w*\\(([^)]*)\\) \\{$")
                .matcher(source);
        int methods = 0;
        while (m.find()) {
            methods++;
            int end = source.indexOf("\n" + m.group(1) + "}\n", m.end());
            long lines = source.substring(m.start(), Math.max(end, m.start())).lines().count();
            if (end < 0 || lines > 60) {
                fault("too long: " + m.group().trim());
            }
            if (m.group(2).split(",").length > 7) {
                fault("too many parameters: " + m.group().trim());
            }
        }
        if (methods < 90) {
            fault("methods were not found: " + methods);
        }
        if (Pattern.compile("\\bwhile\\b").matcher(source).find()) {
            fault("a while");
        }
    }
}
