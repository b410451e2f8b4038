import java.io.File;
import java.io.IOException;
import java.lang.reflect.Method;
import java.lang.reflect.Modifier;
import java.nio.file.Files;
import java.nio.file.Path;
import java.util.Set;
import java.util.TreeSet;
import java.util.regex.Matcher;
import java.util.regex.Pattern;

/** README.md, which stands in the directory that tests run in, says what is so. */
public final class ReadmeTest {
    private static final Check CHECK = new Check("ReadmeTest");

    public static void main(String[] args) throws IOException {
        String readme = Files.readString(Path.of("README.md"));
        example(readme);
        calls(readme);
        tests(readme);
        CHECK.end();
    }

    /** Each line of the example answers what stands behind it. */
    private static void example(String readme) {
        ClubReads x = new ClubReads();
        Matcher block = Pattern.compile("(?s)```java\n(.*?)```").matcher(readme);
        CHECK.holds("there is an example", block.find());
        Pattern feeding = Pattern.compile("for \\(char sign : \"([^\"]*)\"\\.toCharArray\\(\\)\\) x\\.feed\\(sign\\);");
        Pattern asking = Pattern.compile("x\\.(\\w+)\\(([-\\d, ]*)\\); +// (-?\\d+): .*");
        for (String line : block.group(1).split("\n")) {
            Matcher fed = feeding.matcher(line);
            Matcher asked = asking.matcher(line);
            if (fed.matches()) {
                Check.feed(x, fed.group(1));
            } else if (asked.matches()) {
                long got = Edge.ask(x, asked.group(1), numbers(asked.group(2)));
                CHECK.due("README: " + line, got, Long.parseLong(asked.group(3)));
            } else {
                CHECK.holds("README: a line without its answer: " + line, line.equals("ClubReads x = new ClubReads();"));
            }
        }
    }

    private static int[] numbers(String text) {
        if (text.isEmpty()) {
            return new int[0];
        }
        String[] parts = text.split(", ");
        int[] values = new int[parts.length];
        for (int i = 0; i < parts.length; i++) {
            values[i] = Integer.parseInt(parts[i]);
        }
        return values;
    }

    /** The tables have a row for each call of the face, with as many arguments, and no other. */
    private static void calls(String readme) {
        Set<String> face = new TreeSet<>();
        for (Method m : ClubReads.class.getDeclaredMethods()) {
            if (Modifier.isPublic(m.getModifiers())) {
                face.add(m.getName() + " " + m.getParameterCount());
            }
        }
        Set<String> told = new TreeSet<>();
        Matcher row = Pattern.compile("(?m)^\\| `(\\w+)\\(([\\w, ]*)\\)` \\|").matcher(readme);
        while (row.find()) {
            told.add(row.group(1) + " " + (row.group(2).isEmpty() ? 0 : row.group(2).split(", ").length));
        }
        CHECK.holds("README tells the calls " + face + ": " + told, face.equals(told));
    }

    private static void tests(String readme) {
        Set<String> there = new TreeSet<>();
        File[] files = new File("src/test/java").listFiles();
        for (File file : files == null ? new File[0] : files) {
            if (file.getName().endsWith("Test.java")) {
                there.add(file.getName().replace(".java", ""));
            }
        }
        Set<String> told = new TreeSet<>();
        Matcher name = Pattern.compile("`(\\w+Test)`").matcher(readme);
        while (name.find()) {
            told.add(name.group(1));
        }
        CHECK.holds("README tells the tests " + there + ": " + told, there.equals(told));
        CHECK.holds(".ci/run can be run, as README says", new File(".ci/run").canExecute() && readme.contains(".ci/run"));
    }

    private ReadmeTest() {
    }
}
