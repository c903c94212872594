import java.io.IOException;
import java.lang.reflect.Field;
import java.lang.reflect.Method;
import java.lang.reflect.Modifier;
import java.nio.file.Files;
import java.nio.file.Path;
import java.util.ArrayList;
import java.util.Arrays;
import java.util.List;
import java.util.Map;
import java.util.Set;
import java.util.TreeMap;
import java.util.TreeSet;
import java.util.regex.Matcher;
import java.util.regex.Pattern;

/** The rules of LANGUAGE.md that can be read off the source and the compiled class; run from the project's folder. */
public final class LanguageTest {
    private static final String[] FACE = {
        "int heap(int,int,int,int)", "int ofCell(int,int)", "int price(int,int)", "int need(int)", "int latest(int)",
        "int spent()", "int sleep()", "int shorten()", "int held(int)", "int plainly(int)",
        "int day(int,int,int,int,int)", "int reading(int,int)", "int back(int)", "int kinds(int)", "int prices(int)",
        "long odds(int,int,int,int)", "int sheet(int,int,int)", "int lose(int)", "int put(int,int,int)",
        "long cell(int,int,int)", "int copy(int,int,int,int,int)", "int tell(int)", "int point(int)", "int as(int,int)",
        "int trace()", "int fault()", "int many(int)"};
    private static final Set<String> CONSTANTS = Set.of("UNKNOWN", "OUTSIDE", "STATE", "FULL", "NONE", "LOST");
    private static final String[] FORBIDDEN = {"throw", "throws", "try", "catch", "finally", "synchronized", "assert",
        "volatile", "transient", "native", "package", "System\\.(?!arraycopy)\\w+", "Object", "Exact", "->", "::",
        "toString", "hashCode", "double", "float", "Thread", "Random"};

    public static void main(String[] args) throws IOException {
        face();
        insides();
        String source = Files.readString(Path.of("src/main/java/NeedOnce.java"));
        words(source);
        depth(source);
        Due.is("LOST", NeedOnce.LOST, Long.MIN_VALUE);
        Due.end();
    }

    private static void holds(String rule, boolean so) {
        Due.is(rule, so ? 1 : 0, 1);
    }

    private static void face() {
        int bits = NeedOnce.class.getModifiers();
        holds("rule 1: public and final", Modifier.isPublic(bits) && Modifier.isFinal(bits));
        Set<String> methods = new TreeSet<>();
        for (Method method : NeedOnce.class.getDeclaredMethods()) {
            if (!Modifier.isPrivate(method.getModifiers())) methods.add(told(method));
        }
        holds("rule 1: methods " + methods, methods.equals(new TreeSet<>(Arrays.asList(FACE))));
        Set<String> fields = new TreeSet<>();
        for (Field field : NeedOnce.class.getDeclaredFields()) {
            if (!Modifier.isPrivate(field.getModifiers())) fields.add(field.getName());
        }
        holds("rule 1: fields " + fields, fields.equals(CONSTANTS));
        holds("rule 1: one constructor", NeedOnce.class.getDeclaredConstructors().length == 1);
    }

    private static String told(Method method) {
        List<String> types = new ArrayList<>();
        for (Class<?> type : method.getParameterTypes()) types.add(type.getSimpleName());
        return method.getReturnType().getSimpleName() + " " + method.getName() + "(" + String.join(",", types) + ")";
    }

    private static void insides() {
        List<Class<?>> all = new ArrayList<>(List.of(NeedOnce.class));
        all.addAll(Arrays.asList(NeedOnce.class.getDeclaredClasses()));
        holds("rule 11: classes", all.size() <= 12);
        Set<String> names = new TreeSet<>();
        for (String call : FACE) names.add(call.substring(call.indexOf(' ') + 1, call.indexOf('(')));
        for (Class<?> one : all) {
            holds("rule 2: " + one + " is static", one == NeedOnce.class || Modifier.isStatic(one.getModifiers()));
            for (Method method : one.getDeclaredMethods()) {
                boolean isPublic = Modifier.isPublic(method.getModifiers());
                holds("rule 1: name of " + method, isPublic || !names.contains(method.getName()));
                holds("rule 11: parameters of " + method, method.getParameterCount() <= 7);
            }
            int own = 0;
            for (Field field : one.getDeclaredFields()) {
                boolean isStatic = Modifier.isStatic(field.getModifiers());
                holds("rule 5: " + field, !isStatic || Modifier.isFinal(field.getModifiers()));
                if (!isStatic) own++;
            }
            holds("rule 11: fields of " + one, own <= 20);
        }
    }

    private static void words(String source) {
        holds("signs 1 to 127", source.chars().allMatch(sign -> sign > 0 && sign < 128));
        String code = source.replaceAll("(?s)/\\*.*?\\*/", "").replaceAll("//[^\n]*", "");
        for (String word : FORBIDDEN) {
            boolean isWord = Character.isLetter(word.charAt(0));
            String pattern = isWord ? "\\b" + word + "\\b" : Pattern.quote(word);
            holds("rules 3, 4, 6: " + word, !Pattern.compile(pattern).matcher(code).find());
        }
        int lines = 0;
        for (String line : code.split("\n")) {
            boolean isField = line.contains("private final ");
            holds("rule 12: made once: " + line, isField || !line.contains("new "));
            holds("rule 4: " + line, !line.startsWith("import") || line.equals("import java.util.Arrays;"));
            boolean begins = line.matches("    (    )?(public|private) .*\\) \\{");
            boolean ends = line.matches("    (    )?\\}");
            lines = begins || ends ? 0 : lines + 1;
            holds("rule 11: short methods: " + line, lines <= 60);
        }
    }

    /** Rule 11: calls that are no recursion go at most eight deep; methods of one name are taken for one. */
    private static void depth(String source) {
        Map<String, Set<String>> calls = new TreeMap<>();
        Matcher method = Pattern.compile("(?ms)^( {4}| {8})(?:public|private) (?:static )?(?:\\w+ )?(\\w+)\\([^)]*\\) \\{\n(.*?)^\\1\\}")
            .matcher(source);
        while (method.find()) {
            Set<String> called = calls.computeIfAbsent(method.group(2), name -> new TreeSet<>());
            Matcher call = Pattern.compile("\\b([a-z]\\w*)\\(").matcher(method.group(3));
            while (call.find()) called.add(call.group(1));
        }
        int deepest = 0;
        for (String name : calls.keySet()) deepest = Math.max(deepest, depth(name, calls, new ArrayList<>()));
        holds("rule 11: methods found " + calls.size(), calls.size() > FACE.length);
        holds("rule 11: calls go " + deepest + " deep", deepest > 1 && deepest <= 8);
    }

    private static int depth(String name, Map<String, Set<String>> calls, List<String> open) {
        if (!calls.containsKey(name) || open.contains(name)) return 0;
        open.add(name);
        int deepest = 0;
        for (String called : calls.get(name)) deepest = Math.max(deepest, depth(called, calls, open));
        open.remove(open.size() - 1);
        return deepest + 1;
    }
}
