import java.io.IOException;
import java.nio.file.Files;
import java.nio.file.Path;
import java.util.ArrayList;
import java.util.Arrays;
import java.util.List;
import java.util.concurrent.ExecutorService;
import java.util.concurrent.Executors;
import java.util.concurrent.Future;
import java.util.concurrent.TimeUnit;
import java.util.regex.Matcher;
import java.util.regex.Pattern;
import java.util.stream.Stream;

/**
 * By hand, not by .ci/run: breaks the program at one place at a time and tells which breaks no test saw.
 * From the project's folder: java tools/Mutants.java EdgesTest [another test ..]
 */
final class Mutants {
    private record Mutant(int line, String was, String is, String source) {
    }

    private static final String[][] SWAPS = {{"<=", "<"}, {">=", ">"}, {"(?<![<>=-])<(?![<=])", "<="},
        {"(?<![<>=-])>(?![>=])", ">="}, {"==", "!="}, {"!=", "=="}, {"&&", "||"}, {"\\|\\|", "&&"}, {" \\+ ", " - "},
        {" - ", " + "}, {" \\* ", " + "}, {" % ", " + "}, {"\\|=", "&="}, {"\\btrue\\b", "false"}, {"\\bfalse\\b", "true"},
        {"\\+\\+", "--"}, {"\\+=", "-="}, {"return UNKNOWN", "return OUTSIDE"}, {"return OUTSIDE", "return UNKNOWN"},
        {"return STATE", "return OUTSIDE"}, {"return NONE", "return 0"}, {": NONE", ": 0"}, {"return LOST", "return 0"},
        {"faulted\\(SIZE\\)", "faulted(INDEX)"}, {"return NULL", "return CAST"}, {"return CAST", "return NULL"},
        {"return SIZE", "return INDEX"}, {": INDEX", ": SIZE"}, {"if \\(", "if (!!"}, {"!(?=[a-z(])", ""}};

    public static void main(String[] args) throws Exception {
        Path out = Files.createTempDirectory("mutants");
        List<String> tests = new ArrayList<>();
        try (Stream<Path> files = Files.list(Path.of("src/test/java"))) {
            files.map(Path::toString).filter(name -> name.endsWith(".java")).forEach(tests::add);
        }
        Path compiled = out.resolve("tests");
        List<String> javac = new ArrayList<>(List.of("javac", "-d", compiled.toString(), "src/main/java/NeedOnce.java"));
        javac.addAll(tests);
        if (run(javac) != 0) throw new IllegalStateException("the tests don't compile");
        List<Mutant> mutants = mutants(Files.readString(Path.of("src/main/java/NeedOnce.java")));
        ExecutorService workers = Executors.newFixedThreadPool(Runtime.getRuntime().availableProcessors());
        List<Future<String>> answers = new ArrayList<>();
        for (int k = 0; k < mutants.size(); k++) {
            Mutant mutant = mutants.get(k);
            Path dir = out.resolve("m" + k);
            answers.add(workers.submit(() -> answer(mutant, dir, compiled, args)));
        }
        int seen = 0, none = 0, left = 0;
        for (int k = 0; k < answers.size(); k++) {
            String answer = answers.get(k).get();
            if (answer.equals("seen")) seen++;
            else if (answer.equals("no java")) none++;
            else {
                left++;
                Mutant mutant = mutants.get(k);
                System.out.println("line " + mutant.line + ": " + mutant.was.strip() + "  ->  " + mutant.is.strip());
            }
        }
        workers.shutdown();
        System.out.println(seen + " breaks seen, " + left + " not seen, " + none + " that don't compile");
    }

    private static int run(List<String> command) throws IOException, InterruptedException {
        Process process = new ProcessBuilder(command).redirectErrorStream(true)
            .redirectOutput(ProcessBuilder.Redirect.DISCARD).start();
        if (process.waitFor(60, TimeUnit.SECONDS)) return process.exitValue();
        process.destroyForcibly();
        return -1;
    }

    private static String answer(Mutant mutant, Path dir, Path compiled, String[] tests) throws Exception {
        Files.createDirectories(dir);
        Path file = dir.resolve("NeedOnce.java");
        Files.writeString(file, mutant.source);
        if (run(List.of("javac", "-d", dir.toString(), file.toString())) != 0) return "no java";
        for (String test : tests) {
            if (run(List.of("java", "-XX:TieredStopAtLevel=1", "-cp", dir + ":" + compiled, test)) != 0) return "seen";
        }
        return "left";
    }

    private static List<Mutant> mutants(String source) {
        List<Mutant> all = new ArrayList<>();
        String[] lines = source.split("\n");
        for (int k = 0; k < lines.length; k++) {
            String line = lines[k];
            String code = line.strip();
            if (code.startsWith("*") || code.startsWith("/") || code.startsWith("import")) continue;
            for (String[] swap : SWAPS) {
                Matcher at = Pattern.compile(swap[0]).matcher(line);
                while (at.find()) {
                    String is = line.substring(0, at.start()) + swap[1] + line.substring(at.end());
                    if (swap[1].equals("if (!!")) is = negated(line, at.end());
                    add(all, lines, k, is);
                }
            }
            Matcher number = Pattern.compile("(?<![\\w'])\\d+(?!\\w)").matcher(line);
            while (number.find()) {
                for (int by : new int[] {1, -1}) {
                    int is = Integer.parseInt(number.group()) + by;
                    add(all, lines, k, line.substring(0, number.start()) + is + line.substring(number.end()));
                }
            }
            if (code.matches("[a-zA-Z.\\[\\], +]+(\\(.*\\)| [-+|]?= .*|\\+\\+| = .*);") && !code.startsWith("return")
                && !code.startsWith("private") && !code.startsWith("int ")) add(all, lines, k, "");
        }
        return all;
    }

    /** The condition that opens at a place, the other way about. */
    private static String negated(String line, int open) {
        int depth = 1, at = open;
        while (at < line.length() && depth > 0) {
            if (line.charAt(at) == '(') depth++;
            if (line.charAt(at) == ')') depth--;
            at++;
        }
        return line.substring(0, open) + "!(" + line.substring(open, at - 1) + ")" + line.substring(at - 1);
    }

    private static void add(List<Mutant> all, String[] lines, int k, String is) {
        String[] other = Arrays.copyOf(lines, lines.length);
        other[k] = is;
        all.add(new Mutant(k + 1, lines[k], is, String.join("\n", other)));
    }
}
