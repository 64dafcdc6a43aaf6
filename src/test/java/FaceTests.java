import java.io.IOException;
import java.lang.reflect.Constructor;
import java.lang.reflect.Field;
import java.lang.reflect.Member;
import java.lang.reflect.Method;
import java.lang.reflect.Modifier;
import java.nio.file.Files;
import java.nio.file.Path;
import java.util.ArrayList;
import java.util.HashSet;
import java.util.List;
import java.util.Map;
import java.util.Set;
import java.util.TreeMap;
import java.util.TreeSet;
import java.util.regex.Matcher;
import java.util.regex.Pattern;

/** The face as the document lists it, and those rules of LANGUAGE.md that can be seen from the class or its text. */
public final class FaceTests {
    private static final Path DOCUMENT = Path.of("../shared/DOC.md");
    private static final Path SOURCE = Path.of("src/main/java/TraceAssembler.java");
    private static int failed = 0;

    private static void check(boolean holds, String what) {
        if (!holds) {
            failed++;
            System.out.println("FaceTests: " + what);
        }
    }

    public static void main(String[] args) throws IOException {
        face();
        members();
        source();
        System.out.println("FaceTests: " + failed + " faults");
        if (failed != 0) {
            System.exit(1);
        }
    }

    private static void face() throws IOException {
        String text = Files.readString(DOCUMENT);
        int start = text.indexOf("public final class TraceAssembler {");
        String block = text.substring(start, text.indexOf("```", start));
        Set<String> due = new TreeSet<>();
        Matcher line = Pattern.compile("public ([^(;{]+)\\(([^)]*)\\)( throws [^;]+)?;").matcher(block);
        while (line.find()) {
            String types = line.group(2).replaceAll("(\\w+) \\w+", "$1").replace(" ", "");
            String thrown = line.group(3) == null ? "" : line.group(3).trim().replace("throws ", "").replace(" ", "");
            due.add(line.group(1) + "(" + types + ")" + thrown);
        }
        Set<String> there = new TreeSet<>();
        for (Method method : TraceAssembler.class.getDeclaredMethods()) {
            if (Modifier.isPublic(method.getModifiers())) {
                there.add(method.getReturnType().getSimpleName() + " " + method.getName()
                        + names(method.getParameterTypes(), "(", ")") + names(method.getExceptionTypes(), "", ""));
            }
        }
        for (Constructor<?> each : TraceAssembler.class.getDeclaredConstructors()) {
            there.add("TraceAssembler" + names(each.getParameterTypes(), "(", ")")
                    + names(each.getExceptionTypes(), "", ""));
        }
        check(due.size() == 53, "the document lists " + due.size() + " methods");
        check(due.equals(there), "the face is " + there + ", due is " + due);
        check(Modifier.isFinal(TraceAssembler.class.getModifiers()), "the class is not final");
    }

    private static String names(Class<?>[] types, String before, String after) {
        List<String> names = new ArrayList<>();
        for (Class<?> type : types) {
            names.add(type.getSimpleName());
        }
        return before + String.join(",", names) + after;
    }

    private static void members() {
        Set<String> publicNames = new HashSet<>();
        for (Method method : TraceAssembler.class.getDeclaredMethods()) {
            if (Modifier.isPublic(method.getModifiers())) {
                publicNames.add(method.getName());
            }
        }
        List<Member> outer = new ArrayList<>(List.of(TraceAssembler.class.getDeclaredMethods()));
        outer.addAll(List.of(TraceAssembler.class.getDeclaredFields()));
        for (Member member : outer) {
            boolean isOfFace = member instanceof Method && Modifier.isPublic(member.getModifiers());
            check(isOfFace || Modifier.isPrivate(member.getModifiers()), "not private: " + member);
        }
        List<Class<?>> classes = new ArrayList<>(List.of(TraceAssembler.class.getDeclaredClasses()));
        for (Class<?> inner : classes) {
            check(Modifier.isStatic(inner.getModifiers()), "not static: " + inner);
            check(inner.getDeclaredClasses().length == 0, "deeper classes in " + inner);
        }
        classes.add(TraceAssembler.class);
        check(classes.size() <= 12, "classes: " + classes.size());
        for (Class<?> each : classes) {
            int fields = 0;
            for (Field field : each.getDeclaredFields()) {
                if (Modifier.isStatic(field.getModifiers())) {
                    check(Modifier.isFinal(field.getModifiers()) && field.getType().isPrimitive(), "static: " + field);
                } else {
                    fields++;
                }
            }
            check(fields <= 20, "fields of " + each + ": " + fields);
            for (Method method : each.getDeclaredMethods()) {
                check(method.getParameterCount() <= 7, "parameters: " + method);
                boolean isOfFace = each == TraceAssembler.class && Modifier.isPublic(method.getModifiers());
                check(isOfFace || !publicNames.contains(method.getName()), "bears a public name: " + method);
            }
        }
    }

    private static void source() throws IOException {
        String text = Files.readString(SOURCE);
        check(text.chars().allMatch(sign -> sign == '\n' || sign >= 32 && sign < 127), "signs beyond ASCII");
        Set<String> imports = new TreeSet<>();
        for (String line : text.split("\n")) {
            if (line.startsWith("import ")) {
                imports.add(line);
            }
        }
        check(Set.of("import java.util.Arrays;", "import java.util.NoSuchElementException;").containsAll(imports),
                "imports " + imports);
        String bare = text.replaceAll("(?s)/\\*.*?\\*/", "").replaceAll("//[^\n]*", "")
                .replaceAll("\"[^\"\n]*\"", "\"\"");
        String[] banned = {"->", "::", "\\btry\\b", "\\bcatch\\b", "\\bfinally\\b", "\\bsynchronized\\b",
            "\\bassert\\b", "Exact\\(", "\\bSystem\\b", "\\bThread\\b", "\\bRandom\\b", "\\bObject\\b",
            "\\bequals\\b", "\\bhashCode\\b", "\\btoString\\b", "\\bpackage\\b", "\\bwhile\\b", "\"\" *\\+",
            "\\+ *\"\"", "\\bstatic *\\{", "\\bprotected\\b"};
        for (String each : banned) {
            check(!Pattern.compile(each).matcher(bare).find(), "the text has " + each);
        }
        longMethods(text.split("\n"));
        Map<String, String> bodies = bodies(bare);
        for (Map.Entry<String, String> method : bodies.entrySet()) {
            untestedIndices(method.getKey(), method.getValue());
            int depth = depth(method.getKey(), bodies, List.of());
            check(depth <= 8, "calls from " + method.getKey() + " go " + depth + " deep");
        }
        check(bodies.size() > 100 && depth("below", bodies, List.of()) > 4, "the methods are not found");
    }

    /** The text of each method by its name; methods of one name count as one. */
    private static Map<String, String> bodies(String bare) {
        Map<String, String> bodies = new TreeMap<>();
        Matcher header = Pattern.compile("(?m)^( {4}| {8})(?:(?:public|private|static|final) )*[\\w\\[\\]]+ (\\w+)"
                + "\\([^)]*\\)[^;{=]*\\{$").matcher(bare);
        while (header.find()) {
            int end = bare.indexOf("\n" + header.group(1) + "}", header.end());
            bodies.merge(header.group(2), bare.substring(header.end(), end), String::concat);
        }
        return bodies;
    }

    private static int depth(String name, Map<String, String> bodies, List<String> open) {
        if (open.contains(name)) {
            return 1000;
        }
        List<String> inner = new ArrayList<>(open);
        inner.add(name);
        int deepest = 0;
        Matcher call = Pattern.compile("(\\w+)\\(").matcher(bodies.get(name));
        while (call.find()) {
            if (bodies.containsKey(call.group(1))) {
                deepest = Math.max(deepest, depth(call.group(1), bodies, inner));
            }
        }
        return deepest + 1;
    }

    /** An index is a plain name that the method has compared before with a bound. */
    private static void untestedIndices(String method, String body) {
        Matcher index = Pattern.compile("(new )?\\w+((?:\\[[^\\]]*\\])+)").matcher(body);
        while (index.find()) {
            if (index.group(1) != null || index.group(2).equals("[]")) {
                continue;
            }
            String before = body.substring(0, index.start());
            for (String name : index.group(2).substring(1, index.group(2).length() - 1).split("\\]\\[")) {
                boolean isTested = name.matches("\\w+") && (before.contains(name + " < ")
                        || before.contains("isWithin(" + name + ", "));
                check(isTested, "an index is not tested in " + method + ": " + name);
            }
        }
    }

    private static void longMethods(String[] lines) {
        int start = -1;
        for (int k = 0; k < lines.length; k++) {
            if (lines[k].matches(" {4}(?: {4})?(?!class|if|for|switch| |.* class ).*\\{")) {
                start = k;
            } else if (lines[k].matches(" {4}(?: {4})?\\}") && start >= 0) {
                check(k - start + 1 <= 60, "a method of " + (k - start + 1) + " lines at line " + (start + 1));
                start = -1;
            }
            check(lines[k].length() <= 120, "a long line " + (k + 1));
        }
    }
}
