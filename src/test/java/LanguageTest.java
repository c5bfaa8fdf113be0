import java.io.IOException;
import java.io.InputStream;
import java.lang.reflect.Executable;
import java.lang.reflect.Field;
import java.lang.reflect.Method;
import java.lang.reflect.Modifier;
import java.nio.charset.StandardCharsets;
import java.nio.file.Files;
import java.nio.file.Path;
import java.util.ArrayList;
import java.util.LinkedHashMap;
import java.util.List;
import java.util.Map;
import java.util.Set;
import java.util.TreeMap;
import java.util.TreeSet;
import java.util.regex.Matcher;
import java.util.regex.Pattern;

/** The rules of LANGUAGE.md that can be read off the source and the classes; its rule 1 is FaceTest's. */
public final class LanguageTest {
    private static final Path SOURCE = Path.of("src/main/java/ConverterScanner.java");
    private static final int MOST_CLASSES = 12;
    private static final int MOST_FIELDS = 20;
    private static final int MOST_PARAMETERS = 7;
    private static final int MOST_LINES = 60;
    private static final int MOST_DEPTH = 8;
    private static final Pattern CLASS_HEAD = Pattern.compile(" {4}[a-z ]*\\b(?:class|enum|interface|record) (\\w+).*");
    private static final Pattern METHOD_HEAD = Pattern.compile("( {4}| {8})(?:[a-z]+ )*[\\w\\[\\]]+ (\\w+)\\([^;=]*");
    private static final Pattern METHOD_CALL = Pattern.compile("(?<!new )(\\.?)\\b(\\w+)\\(");
    private static final Set<Class<?>> CONSTANT_TYPES = Set.of(int.class, long.class, boolean.class, char.class,
            String.class, int[].class, long[].class, char[].class, byte[].class);
    private static final Set<String> IMPORTS = Set.of("java.util.ArrayList", "java.util.List", "java.util.Arrays",
            "java.util.Iterator", "java.util.NoSuchElementException");
    private static final Set<String> EXCEPTIONS = Set.of("IllegalStateException", "IllegalArgumentException",
            "IndexOutOfBoundsException", "ArithmeticException", "UnsupportedOperationException",
            "NoSuchElementException", "RuntimeException");
    // Object and Class stand in what javac adds to classes and enums.
    private static final Set<String> LIBRARY = Set.of("java/lang/Object", "java/lang/Class", "java/lang/String",
            "java/lang/StringBuilder", "java/lang/Enum", "java/lang/Integer", "java/lang/Long", "java/lang/Math",
            "java/lang/System", "java/lang/IllegalStateException", "java/lang/IllegalArgumentException",
            "java/lang/IndexOutOfBoundsException", "java/util/NoSuchElementException", "java/util/ArrayList",
            "java/util/List", "java/util/Arrays");
    // Nothing in the class has to be caught, and what a machine throws must not be.
    private static final List<String> FORBIDDEN = List.of("->", "::", "\\bcatch\\b", "\\bfinally\\b", "\\bsynchronized\\b",
            "\\bassert\\b", "\\bpackage\\b", "\\bvolatile\\b", "\\bthread\\b", "\\bMath\\.\\w+Exact\\b", "\\bSystem\\.(?!arraycopy)",
            "\\.getMessage\\b", "\\bstatic \\{", "\\bprotected\\b", "\\bObject\\b", "\\?\\?", "\"\\s*\\+", "\\+\\s*\"");

    public static void main(String[] args) throws IOException {
        String source = Files.readString(SOURCE, StandardCharsets.ISO_8859_1);
        signs(source);
        words(withoutComments(source));
        Map<String, String> bodies = methodBodies(withoutComments(source));
        due("all methods were found", bodies.size() > 100);
        for (String method : bodies.keySet()) {
            due("the length of " + method, bodies.get(method).split("\n").length < MOST_LINES);
            int depth = depthOf(method, bodies, new TreeMap<>());
            due("the calls of " + method + " go " + depth + " deep", depth <= MOST_DEPTH);
        }
        List<Class<?>> classes = new ArrayList<>(List.of(ConverterScanner.class));
        classes.addAll(List.of(ConverterScanner.class.getDeclaredClasses()));
        Bench.due("at most " + MOST_CLASSES + " classes", classes.size() <= MOST_CLASSES ? 1 : 0, 1);
        for (Class<?> one : classes) {
            shape(one);
            library(one);
            fields(one);
            methods(one);
        }
        Bench.end("LanguageTest");
    }

    private static void due(String what, boolean isKept) {
        Bench.due(what, isKept ? 1 : 0, 1);
    }

    // ---- the source

    private static void signs(String source) {
        due("signs 1 to 127", source.chars().allMatch(sign -> sign >= 1 && sign <= 127));
    }

    private static String withoutComments(String source) {
        return source.replaceAll("(?s)/\\*.*?\\*/", "").replaceAll("//[^\n]*", "");
    }

    private static void words(String code) {
        for (String forbidden : FORBIDDEN) {
            due("no " + forbidden, !Pattern.compile(forbidden).matcher(code).find());
        }
        Matcher imports = Pattern.compile("\\bimport ([^;]+);").matcher(code);
        while (imports.find()) {
            due("import " + imports.group(1), IMPORTS.contains(imports.group(1)));
        }
        Matcher throwing = Pattern.compile("\\bthrow\\b(?: new (\\w+)\\((?:\"[^\"]*\")?\\);)?").matcher(code);
        while (throwing.find()) {
            due(throwing.group(), throwing.group(1) != null && EXCEPTIONS.contains(throwing.group(1)));
        }
    }

    /** The text of each method, from its head to its closing line, by its class and name. */
    private static Map<String, String> methodBodies(String code) {
        Map<String, String> bodies = new LinkedHashMap<>();
        String[] lines = code.split("\n");
        String owner = "";
        for (int start = 0; start < lines.length; start++) {
            Matcher type = CLASS_HEAD.matcher(lines[start]);
            Matcher head = METHOD_HEAD.matcher(lines[start]);
            if (type.matches()) {
                owner = type.group(1);
            } else if (lines[start].equals("    }")) {
                owner = "";
            } else if (head.matches() && head.group(1).length() == (owner.isEmpty() ? 4 : 8)) {
                StringBuilder body = new StringBuilder(lines[start]);
                for (int i = start + 1; i < lines.length && !lines[i].equals(head.group(1) + "}"); i++) {
                    body.append('\n').append(lines[i]);
                }
                due(head.group(2) + " stands but once in " + owner,
                        bodies.put(owner + "." + head.group(2), body.toString()) == null);
            }
        }
        return bodies;
    }

    /** How many methods stand open at once; what is called with a dot may be of any class, so it is rather too many. */
    private static int depthOf(String method, Map<String, String> bodies, Map<String, Integer> known) {
        if (known.containsKey(method)) {
            due(method + " is no recursion", known.get(method) > 0);
            return known.get(method);
        }
        known.put(method, 0);
        int deepest = 0;
        String owner = method.substring(0, method.indexOf('.'));
        String body = bodies.get(method);
        Matcher call = METHOD_CALL.matcher(body.substring(body.indexOf('(') + 1));
        while (call.find()) {
            for (String other : bodies.keySet()) {
                boolean isNamed = other.endsWith("." + call.group(2)) && !other.equals(method);
                boolean isReached = !call.group(1).isEmpty() || other.startsWith(owner + ".") || other.startsWith(".");
                if (isNamed && isReached) {
                    deepest = Math.max(deepest, depthOf(other, bodies, known));
                }
            }
        }
        known.put(method, deepest + 1);
        return deepest + 1;
    }

    // ---- the classes

    private static void shape(Class<?> one) {
        boolean isOuter = one == ConverterScanner.class;
        int modifiers = one.getModifiers();
        due(one + " is static", isOuter || Modifier.isStatic(modifiers));
        due(one + " is hidden", isOuter || !Modifier.isPublic(modifiers) && !Modifier.isProtected(modifiers));
        due(one + " is no exception", !Throwable.class.isAssignableFrom(one));
        due(one + " stands one deep", isOuter || one.getDeclaredClasses().length == 0);
    }

    private static void library(Class<?> one) throws IOException {
        try (InputStream stream = one.getResourceAsStream(one.getName() + ".class")) {
            String bytes = new String(stream.readAllBytes(), StandardCharsets.ISO_8859_1);
            Matcher used = Pattern.compile("javax?/[\\w/$]+").matcher(bytes);
            while (used.find()) {
                due(one + " uses " + used.group(), LIBRARY.contains(used.group()));
            }
        }
    }

    private static void fields(Class<?> one) {
        int own = 0;
        for (Field field : one.getDeclaredFields()) {
            if (field.isSynthetic() || field.isEnumConstant()) {
                continue;
            }
            if (!Modifier.isStatic(field.getModifiers())) {
                own++;
                continue;
            }
            due(field + " is final", Modifier.isFinal(field.getModifiers()));
            boolean isOfValues = one.isEnum() && field.getType() == one.arrayType();
            due(field + " is a constant", isOfValues || CONSTANT_TYPES.contains(field.getType()));
        }
        due("the fields of " + one, own <= MOST_FIELDS);
    }

    private static void methods(Class<?> one) {
        Set<String> face = new TreeSet<>();
        for (Method method : ConverterScanner.class.getDeclaredMethods()) {
            if (Modifier.isPublic(method.getModifiers())) {
                face.add(method.getName());
            }
        }
        List<Executable> all = new ArrayList<>(List.of(one.getDeclaredMethods()));
        all.addAll(List.of(one.getDeclaredConstructors()));
        for (Executable method : all) {
            due("the parameters of " + method, method.getParameterCount() <= MOST_PARAMETERS);
            boolean isPrivate = Modifier.isPrivate(method.getModifiers());
            due(method + " bears no public one's name", !isPrivate || !face.contains(method.getName()));
        }
        for (String name : List.of("equals", "hashCode", "toString", "finalize", "clone")) {
            due(one + " has no " + name, all.stream().noneMatch(method -> method.getName().equals(name)));
        }
    }
}
