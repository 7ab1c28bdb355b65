import java.io.IOException;
import java.lang.reflect.Method;
import java.lang.reflect.Modifier;
import java.nio.charset.StandardCharsets;
import java.nio.file.Files;
import java.nio.file.Path;
import java.util.ArrayList;
import java.util.HashSet;
import java.util.List;
import java.util.Set;
import java.util.TreeSet;
import java.util.regex.Matcher;
import java.util.regex.Pattern;

/** The public face is the document's, and the source keeps to LANGUAGE.md, as far as a look at its words tells. */
public final class RulesTest {
    private static final String[] FORBIDDEN = {
        "\\bthrow\\b", "\\btry\\b", "\\bcatch\\b", "\\bsynchronized\\b", "\\bassert\\b", "\\bimport\\b", "\\bpackage\\b",
        "->", "::", "Exact\\b", "\\bprotected\\b", "@", "\\bnull\\s*\\)\\s*\\{\\s*\\}", "\\bjava\\.", "\\bString\\.format",
    };

    private static int wrong = 0;

    public static void main(String[] args) throws IOException {
        String project = System.getProperty("project", ".");
        String shared = System.getProperty("shared", "../shared");
        Set<String> face = faceOfDocument(read(Path.of(shared, "DOC.md")));
        checkFace(face);
        String source = withoutComments(read(Path.of(project, "src/main/java/GorgeRocks.java")));
        checkWords(source);
        checkLengths(source);
        System.out.println(wrong == 0 ? "the face and the rules hold" : wrong + " faults");
        if (wrong != 0) {
            System.exit(1);
        }
    }

    private static String read(Path path) throws IOException {
        return new String(Files.readAllBytes(path), StandardCharsets.UTF_8);
    }

    private static void fault(String what) {
        wrong++;
        System.out.println(what);
    }

    private static Set<String> faceOfDocument(String document) {
        Set<String> face = new TreeSet<>();
        Matcher m = Pattern.compile("^    public (\\w+ \\w+)\\(([^)]*)\\);", Pattern.MULTILINE).matcher(document);
        while (m.find()) {
            List<String> types = new ArrayList<>();
            for (String parameter : m.group(2).isEmpty() ? new String[0] : m.group(2).split(", ")) {
                types.add(parameter.split(" ")[0]);
            }
            face.add(m.group(1) + types);
        }
        return face;
    }

    private static void checkFace(Set<String> face) {
        Set<String> has = new TreeSet<>();
        Set<String> publicNames = new HashSet<>();
        for (Method method : GorgeRocks.class.getDeclaredMethods()) {
            List<String> types = new ArrayList<>();
            for (Class<?> type : method.getParameterTypes()) {
                types.add(type.getName());
            }
            if (Modifier.isPublic(method.getModifiers())) {
                has.add(method.getReturnType().getName() + " " + method.getName() + types);
                publicNames.add(method.getName());
            } else if (!Modifier.isPrivate(method.getModifiers())) {
                fault("seen from outside: " + method);
            }
        }
        if (face.size() != 44 || !face.equals(has)) {
            fault("the face is " + has + ", the document's is " + face);
        }
        for (Class<?> inside : GorgeRocks.class.getDeclaredClasses()) {
            for (Method method : inside.getDeclaredMethods()) {
                if (publicNames.contains(method.getName())) {
                    fault("bears the name of a public method: " + method);
                }
            }
            if (!Modifier.isStatic(inside.getModifiers())) {
                fault("not static: " + inside);
            }
            if (fieldsOf(inside) > 20) {
                fault("too many fields: " + inside);
            }
        }
        if (GorgeRocks.class.getDeclaredClasses().length > 11) {
            fault("too many classes");
        }
        if (fieldsOf(GorgeRocks.class) > 20 || GorgeRocks.class.getFields().length != 0) {
            fault("fields of the class");
        }
    }

    private static int fieldsOf(Class<?> type) {
        int fields = 0;
        for (java.lang.reflect.Field field : type.getDeclaredFields()) {
            if (!Modifier.isStatic(field.getModifiers())) {
                fields++;
            } else if (!Modifier.isFinal(field.getModifiers())) {
                fault("static, not final: " + field);
            }
        }
        return fields;
    }

    private static String withoutComments(String source) {
        return source.replaceAll("(?s)/\\*.*?\\*/", "").replaceAll("//[^\n]*", "");
    }

    private static void checkWords(String source) {
        for (String word : FORBIDDEN) {
            Matcher m = Pattern.compile(word).matcher(source);
            if (m.find()) {
                fault("outside the rules: " + m.group());
            }
        }
        for (int i = 0; i < source.length(); i++) {
            if (source.charAt(i) > 126) {
                fault("a sign above 126 at " + i);
            }
        }
    }

    /** Some sixty lines a method, seven parameters, and a loop's end in its own lines (no while). */
    private static void checkLengths(String source) {
        Matcher m = Pattern.compile("(?m)^( +)(?:public |private )?(?:static )?\\w+(?:\\[\\])? ?\\w*\\(([^)]*)\\) \\{$")
                .matcher(source);
        int methods = 0;
        while (m.find()) {
            methods++;
            int end = source.indexOf("\n" + m.group(1) + "}\n", m.end());
            long lines = source.substring(m.start(), Math.max(end, m.start())).lines().count();
            if (end < 0 || lines > 60) {
                fault("too long: " + m.group().trim());
            }
            if (m.group(2).split(",").length > 7) {
                fault("too many parameters: " + m.group().trim());
            }
        }
        if (methods < 90) {
            fault("methods were not found: " + methods);
        }
        if (Pattern.compile("\\bwhile\\b").matcher(source).find()) {
            fault("a while");
        }
    }
}
