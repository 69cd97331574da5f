import java.io.IOException;
import java.lang.reflect.Constructor;
import java.lang.reflect.Field;
import java.lang.reflect.Method;
import java.lang.reflect.Modifier;
import java.nio.file.Files;
import java.nio.file.Path;
import java.util.ArrayList;
import java.util.Arrays;
import java.util.List;
import java.util.Map;
import java.util.Set;
import java.util.TreeMap;
import java.util.TreeSet;
import java.util.regex.Matcher;
import java.util.regex.Pattern;

/** The face is the document's, and what can be seen of LANGUAGE.md in the class and its source is kept. */
public final class LanguageTest {
    private static final String[] FACE = {"feed i:i", "end i:i", "text :i", "fault :i", "rule i:i", "corner ii:i", "wheel ii:i",
        "alter iii:i", "put ii:i", "cut i:i", "zero i:i", "shift iii:i", "add ii:i", "drop i:i", "pole ii:i", "trace i:i",
        "runs ii:i", "ahead ii:i", "when ii:i", "best ii:i", "step ii:i", "kind ii:i", "place ii:i", "swap i:i", "out i:i",
        "luck iiiii:l", "mean iiii:l", "see iii:i", "forget i:i", "kinds i:i", "steps i:i", "ask ii:i", "drift iii:i", "keep i:i",
        "back i:i", "sheet iii:i", "lay iii:i", "read iiii:i", "torn :i", "count i:i"};
    private static final List<String> NO_WORDS = List.of("throw", "throws", "try", "catch", "finally", "synchronized", "assert",
        "import", "package", "protected", "volatile", "transient", "native", "var", "Object", "System.out", "Exception");

    private static int wrong = 0;

    private static void hold(boolean holds, String what) {
        if (!holds) {
            wrong++;
            System.out.println(what);
        }
    }

    public static void main(String[] args) throws IOException {
        Class<?> face = WheelAreas.class;
        Set<String> names = publicMethods(face);
        constants(face);
        nested(face, names);
        source();
        System.out.println(wrong == 0 ? "the face and the language are kept" : wrong + " rules are not kept");
        if (wrong != 0) {
            System.exit(1);
        }
    }

    private static String shape(Method m) {
        StringBuilder text = new StringBuilder(m.getName()).append(' ');
        for (Class<?> type : m.getParameterTypes()) {
            text.append(type == int.class ? 'i' : '?');
        }
        return text.append(':').append(m.getReturnType() == int.class ? 'i' : m.getReturnType() == long.class ? 'l' : '?').toString();
    }

    private static Set<String> publicMethods(Class<?> face) {
        Set<String> shapes = new TreeSet<>();
        Set<String> names = new TreeSet<>();
        for (Method m : face.getDeclaredMethods()) {
            if (Modifier.isPublic(m.getModifiers())) {
                shapes.add(shape(m));
                names.add(m.getName());
                hold(!Modifier.isStatic(m.getModifiers()), m + " is static");
            }
        }
        hold(shapes.equals(new TreeSet<>(Arrays.asList(FACE))), "the public methods are " + shapes);
        for (Method m : face.getDeclaredMethods()) {
            boolean open = Modifier.isPublic(m.getModifiers());
            hold(open || m.isSynthetic() || Modifier.isPrivate(m.getModifiers()), m + " is neither public nor private");
            hold(open || !names.contains(m.getName()), m + " bears the name of a public one");
        }
        hold(Modifier.isFinal(face.getModifiers()) && Modifier.isPublic(face.getModifiers()), "the class is not public and final");
        Constructor<?>[] makers = face.getDeclaredConstructors();
        hold(makers.length == 1 && makers[0].getParameterCount() == 0 && Modifier.isPublic(makers[0].getModifiers()), "the constructor");
        return names;
    }

    private static void constants(Class<?> face) {
        Set<String> open = new TreeSet<>();
        for (Field f : face.getDeclaredFields()) {
            int is = f.getModifiers();
            if (Modifier.isPublic(is)) {
                open.add(f.getName());
                hold(Modifier.isStatic(is) && Modifier.isFinal(is) && f.getType() == int.class, f + " is no constant");
            } else {
                hold(Modifier.isPrivate(is) || f.isSynthetic(), f + " is not private");
            }
            hold(!Modifier.isStatic(is) || Modifier.isFinal(is) || f.isSynthetic(), f + " is static and not final");
        }
        hold(open.equals(Set.of("BAD", "STATE", "FULL", "NONE")), "the public constants are " + open);
        hold(WheelAreas.BAD == -1 && WheelAreas.STATE == -2 && WheelAreas.FULL == -3 && WheelAreas.NONE == -4, "the constants' numbers");
    }

    private static void nested(Class<?> face, Set<String> names) {
        hold(face.getDeclaredClasses().length <= 12, "too many classes");
        sizes(face);
        for (Class<?> inside : face.getDeclaredClasses()) {
            hold(Modifier.isStatic(inside.getModifiers()), inside + " is not static");
            hold(!Modifier.isPublic(inside.getModifiers()) && !Modifier.isProtected(inside.getModifiers()), inside + " is too open");
            sizes(inside);
            for (Method m : inside.getDeclaredMethods()) {
                hold(!names.contains(m.getName()), m + " bears the name of a public one");
            }
        }
    }

    private static void sizes(Class<?> one) {
        int fields = 0;
        for (Field f : one.getDeclaredFields()) {
            boolean fixed = Modifier.isStatic(f.getModifiers());
            hold(!fixed || Modifier.isFinal(f.getModifiers()) || f.isSynthetic(), f + " is static and not final");
            fields += fixed ? 0 : 1;
        }
        hold(fields <= 20, one + " has " + fields + " fields");
        for (Method m : one.getDeclaredMethods()) {
            hold(m.getParameterCount() <= 7, m + " takes too many parameters");
        }
    }

    private static void source() throws IOException {
        String whole = Files.readString(Path.of("src/main/java/WheelAreas.java"));
        hold(whole.chars().allMatch(c -> c == '\n' || c >= 32 && c < 127), "the source has other signs than plain ones");
        String bare = whole.replaceAll("(?s)/\\*.*?\\*/", " ").replaceAll("//[^\n]*", " ").replaceAll("\"[^\"\n]*\"", "\"\"");
        for (String word : NO_WORDS) {
            Matcher found = Pattern.compile("(?<![A-Za-z0-9_])" + Pattern.quote(word) + "(?![A-Za-z0-9_])").matcher(bare);
            hold(!found.find(), "the source has the word " + word);
        }
        hold(!bare.contains("->") && !bare.contains("::"), "the source has a lambda or a method reference");
        hold(!bare.contains("\" +") && !bare.contains("+ \""), "the source joins texts by +");
        Set<String> library = new TreeSet<>();
        Matcher calls = Pattern.compile("\\b(Math|Integer|Long|System|Arrays|String|StringBuilder)\\.(\\w+)").matcher(bare);
        while (calls.find()) {
            library.add(calls.group());
        }
        hold(Set.of("Math.abs", "Math.max", "Integer.bitCount", "System.arraycopy").containsAll(library),
            "the source uses " + library);
        // Without what a comment or a text says, but with every line where it was.
        String code = whole.replaceAll("//[^\n]*", " ").replaceAll("/\\*\\*[^\n]*\\*/", " ").replaceAll("\"[^\"\n]*\"", "\"\"");
        Map<String, Set<String>> called = methods(code.split("\n"));
        hold(called.size() > 60, "methods were not found");
        for (String name : called.keySet()) {
            callsAreShallow(called, name, new ArrayList<>());
        }
        objectsAreMadeAtFirst(code.split("\n"));
    }

    /** What each method calls, by names alone: two methods with one name are taken as one that does what both do. */
    private static Map<String, Set<String>> methods(String[] lines) {
        Map<String, Set<String>> called = new TreeMap<>();
        Pattern head = Pattern.compile("^( {4}| {8})[A-Za-z][^=]*?(\\w+)\\([^)]*\\) \\{$");
        Pattern call = Pattern.compile("(?<!new )\\b(\\w+)\\(");
        for (int from = 0; from < lines.length; from++) {
            Matcher found = head.matcher(lines[from]);
            if (!found.find() || lines[from].trim().matches("(if|for|while|switch) .*")) {
                continue;
            }
            Set<String> calls = called.computeIfAbsent(found.group(2), name -> new TreeSet<>());
            int to = from + 1;
            for (; to < lines.length && !lines[to].equals(found.group(1) + "}"); to++) {
                Matcher one = call.matcher(lines[to]);
                while (one.find()) {
                    calls.add(one.group(1));
                }
            }
            hold(to - from <= 60, "line " + (from + 1) + " begins a method of " + (to - from) + " lines");
        }
        return called;
    }

    private static void callsAreShallow(Map<String, Set<String>> called, String name, List<String> open) {
        if (!called.containsKey(name)) {
            return;
        }
        boolean fine = !open.contains(name) && open.size() < 8;
        open.add(name);
        hold(fine, "these calls go too deep, or come again: " + open);
        if (fine) {
            for (String next : called.get(name)) {
                callsAreShallow(called, next, open);
            }
        }
        open.remove(open.size() - 1);
    }

    /** All calls of a run share one room: none of them makes an object, but for the constructor. */
    private static void objectsAreMadeAtFirst(String[] lines) {
        boolean inMaker = false;
        int made = 0;
        for (String line : lines) {
            inMaker = line.equals("    public WheelAreas() {") || inMaker && !line.equals("    }");
            if (Pattern.compile("\\bnew\\b").matcher(line).find()) {
                made++;
                hold(inMaker || line.matches(" {4,8}(private )?final .* = new .*;"), "an object is made by: " + line.trim());
            }
        }
        hold(made > 10, "what is made was not found");
    }
}
