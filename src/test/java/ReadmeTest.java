import java.io.File;
import java.io.IOException;
import java.lang.reflect.Method;
import java.lang.reflect.Modifier;
import java.nio.file.Files;
import java.nio.file.Path;

/** README.md: its example answers what it says there, and it names every call and every test. */
public final class ReadmeTest {
    private static final Check check = new Check("ReadmeTest");
    private static final Path README = Path.of("README.md");
    private static final Path TESTS = Path.of("src", "test", "java");

    public static void main(String[] args) throws IOException {
        example();
        if (Files.exists(README)) {
            String readme = Files.readString(README);
            exampleIsTheSame(readme);
            namesEveryCall(readme);
            namesEveryTest(readme);
        } else {
            System.out.println("ReadmeTest: " + README + " is not here, so only its example is run");
        }
        check.finish();
    }

    private static void example() {
        VowBlocks column = new VowBlocks();
        int block = column.make(255, 24);
        check.same("the block", block, 0);
        check.same("its code", column.block(block, 1), 3);
        check.same("its bits", column.block(block, 2), 12);
        column.put(block, 23, 0);
        check.same("the bits by steps", column.block(block, 2), 219);
        check.same("the bits by runs", column.cost(block, 1), 26);
        int regrets = column.pass(10);
        check.same("the regrets", regrets, 1930);
        int gain = column.gain(block);
        check.same("the gain", gain, 3780);
        check.same("the regrets in it", column.regretIn(block, 20), 3860);
        int fine = column.breakVow(block);
        check.same("the fine", fine, 80);
        check.same("the code behind it", column.block(block, 1), 1);
        check.same("the day of the vow", column.block(block, 3), 10);
        int saved = column.undo();
        check.same("saved states", saved, 3);
        check.same("the code behind undo", column.block(block, 1), 3);
        for (char sign : "7*9,8,200".toCharArray()) {
            column.append(sign);
        }
        int error = column.firstError();
        check.same("no error", error, 9);
        int typed = column.read();
        check.same("the typed block", typed, 1);
        check.holds("its values", Check.values(column, typed).equals("7,7,7,7,7,7,7,7,7,8,200"));
        int seven = column.ask(typed, 0, 7);
        check.same("values 7", seven, 9);
    }

    /** Every line of the example, without its comment, stands in example() above. */
    private static void exampleIsTheSame(String readme) throws IOException {
        String source = Files.readString(TESTS.resolve("ReadmeTest.java"));
        int start = readme.indexOf("```java\n");
        int end = readme.indexOf("```", start + 3);
        check.holds("there is an example", start >= 0 && end > start);
        for (String line : readme.substring(start + 8, end).split("\n")) {
            String statement = line.split(" +// ")[0].trim();
            check.holds("the example's line is run here: " + statement, source.contains(" " + statement + "\n"));
        }
    }

    private static void namesEveryCall(String readme) {
        for (Method m : VowBlocks.class.getDeclaredMethods()) {
            if (Modifier.isPublic(m.getModifiers())) {
                check.holds(m.getName() + " is named", readme.contains("`" + m.getName() + "`"));
            }
        }
    }

    private static void namesEveryTest(String readme) {
        for (File file : TESTS.toFile().listFiles()) {
            if (file.getName().endsWith("Test.java")) {
                String name = file.getName().replace(".java", "");
                check.holds(name + " is named", readme.contains("| `" + name + "` |"));
            }
        }
    }
}
