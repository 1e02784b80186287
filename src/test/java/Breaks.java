import java.io.ByteArrayOutputStream;
import java.io.IOException;
import java.net.URL;
import java.net.URLClassLoader;
import java.nio.file.Files;
import java.nio.file.Path;
import java.util.ArrayList;
import java.util.Comparator;
import java.util.List;
import java.util.concurrent.Callable;
import java.util.concurrent.ExecutorService;
import java.util.concurrent.Executors;
import java.util.concurrent.Future;
import java.util.concurrent.TimeUnit;
import java.util.concurrent.TimeoutException;
import java.util.stream.Stream;
import javax.tools.JavaCompiler;
import javax.tools.ToolProvider;

/**
 * Breaks each sentence of EdgesTest in the program, as src/test/breaks/breaks.txt tells, and looks whether the test of
 * this very sentence finds it. It is no test of the program, so .ci/run leaves it out; .ci/breaks runs it.
 */
public final class Breaks {
    private static final Path PROGRAM = Path.of("src", "main", "java", "VowBlocks.java");
    private static final Path TOLD = Path.of("src", "test", "breaks", "breaks.txt");
    private static final JavaCompiler COMPILER = ToolProvider.getSystemJavaCompiler();

    private static final class Break {
        String sentence = "";
        String anchor = "";
        String old = "";
        String replaced = "";

        @Override
        public String toString() {
            return sentence + " | " + anchor + " | " + old + " -> " + replaced;
        }

        String brokenProgram(String program) {
            int start = program.indexOf(anchor);
            int place = start < 0 ? -1 : program.indexOf(old, start);
            return place < 0 ? "" : program.substring(0, place) + replaced + program.substring(place + old.length());
        }
    }

    public static void main(String[] args) throws Exception {
        List<Break> breaks = told();
        String program = Files.readString(PROGRAM);
        List<String> faults = new ArrayList<>(missing(breaks));
        Path room = Files.createTempDirectory("breaks");
        ExecutorService workers = Executors.newFixedThreadPool(Runtime.getRuntime().availableProcessors());
        List<Future<String>> answers = new ArrayList<>();
        for (int i = 0; i < breaks.size(); i++) {
            Break one = breaks.get(i);
            Path place = room.resolve("break" + i);
            Callable<String> work = () -> judge(one, program, place);
            answers.add(workers.submit(work));
        }
        for (int i = 0; i < breaks.size(); i++) {
            faults.addAll(faultsOf(answers.get(i), breaks.get(i)));
        }
        remove(room);
        for (String fault : faults) {
            System.out.println(fault);
        }
        System.out.println(breaks.size() + " breaks, " + faults.size() + " faults");
        System.exit(faults.isEmpty() ? 0 : 1);
    }

    private static List<String> faultsOf(Future<String> answer, Break one) throws Exception {
        try {
            String fault = answer.get(60, TimeUnit.SECONDS);
            return fault.isEmpty() ? List.of() : List.of(fault);
        } catch (TimeoutException e) {
            return List.of("does not end: " + one);
        }
    }

    private static List<Break> told() throws IOException {
        List<Break> breaks = new ArrayList<>();
        String sentence = "";
        Break current = new Break();
        for (String line : Files.readAllLines(TOLD)) {
            String text = line.length() < 2 ? "" : line.substring(2);
            if (line.startsWith("=")) {
                sentence = text;
            } else if (line.startsWith("@")) {
                current = new Break();
                current.sentence = sentence;
                current.anchor = text.replace("\\n", "\n");
            } else if (line.startsWith("-")) {
                current.old = text;
            } else if (line.startsWith("+")) {
                current.replaced = text;
                breaks.add(current);
            }
        }
        return breaks;
    }

    /** Sentences without a break, and breaks without a sentence. */
    private static List<String> missing(List<Break> breaks) {
        List<String> missing = new ArrayList<>();
        for (String name : EdgesTest.names()) {
            if (breaks.stream().noneMatch(one -> name.startsWith(one.sentence))) {
                missing.add("no break: " + name);
            }
        }
        for (Break one : breaks) {
            if (EdgesTest.names().stream().filter(name -> name.startsWith(one.sentence)).count() != 1) {
                missing.add("not the beginning of one sentence: " + one);
            }
        }
        return missing;
    }

    /** Answers what is wrong with a break, or nothing if the test of its sentence finds it. */
    private static String judge(Break one, String program, Path place) throws Exception {
        String broken = one.brokenProgram(program);
        if (broken.isEmpty()) {
            return "not in the program: " + one;
        }
        Files.createDirectories(place);
        Path source = place.resolve("VowBlocks.java");
        Files.writeString(source, broken);
        ByteArrayOutputStream words = new ByteArrayOutputStream();
        if (COMPILER.run(null, words, words, "-proc:none", "-nowarn", "-d", place.toString(), source.toString()) != 0) {
            return "does not compile: " + one + "\n" + words;
        }
        List<?> found = brokenSentences(place);
        boolean isFound = found.stream().anyMatch(name -> name.toString().startsWith(one.sentence));
        return isFound ? "" : "not found by its test (but by " + found.size() + " others): " + one;
    }

    private static List<?> brokenSentences(Path place) throws Exception {
        URL tests = Breaks.class.getProtectionDomain().getCodeSource().getLocation();
        URL[] path = {place.toUri().toURL(), tests};
        try (URLClassLoader loader = new URLClassLoader(path, ClassLoader.getPlatformClassLoader())) {
            Class<?> test = loader.loadClass("EdgesTest");
            var method = test.getDeclaredMethod("broken");
            method.setAccessible(true);
            return (List<?>) method.invoke(null);
        }
    }

    private static void remove(Path room) throws IOException {
        try (Stream<Path> files = Files.walk(room)) {
            for (Path file : files.sorted(Comparator.reverseOrder()).toList()) {
                Files.delete(file);
            }
        }
    }
}
