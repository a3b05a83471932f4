import java.io.IOException;
import java.nio.file.Files;
import java.nio.file.Path;
import java.util.List;
import java.util.regex.Matcher;
import java.util.regex.Pattern;

/**
 * Makes a test of the Java example of README.md, named by the first argument, and prints it: the lines stand as they
 * are, and a line that tells an answer behind "// ->" is checked for it.
 */
public final class ReadmeExample {
    private static final Pattern TOLD = Pattern.compile("(?:int (\\w+) = )?(ferries\\..*);\\s*// -> ([\\w.-]+).*");

    private final StringBuilder test = new StringBuilder();
    private int answers = 0;

    public static void main(String[] args) throws IOException {
        ReadmeExample example = new ReadmeExample();
        example.write(Files.readAllLines(Path.of(args[0])));
        if (example.answers == 0) {
            // An example without answers would be checked for nothing.
            System.err.println("no answer is told in the example of " + args[0]);
            System.exit(1);
        }
        System.out.print(example.test);
    }

    private void write(List<String> lines) {
        line("public final class ReadmeExampleRun {");
        line("public static void main(String[] args) {");
        boolean isExample = false;
        for (String line : lines) {
            if (line.startsWith("```")) {
                isExample = line.equals("```java");
            } else if (isExample) {
                example(line);
            }
        }
        line("Check.end();");
        line("}");
        line("}");
    }

    private void example(String line) {
        Matcher told = TOLD.matcher(line);
        if (!told.matches()) {
            line(line);
            return;
        }
        answers++;
        String call = told.group(2);
        String asked = call;
        if (told.group(1) != null) {
            // A call that is made for its number is made once, and the number is asked.
            asked = told.group(1);
            line("int " + asked + " = " + call + ";");
        }
        line("Check.same(\"README.md: " + call + "\", Check.answer(() -> " + asked + "), \"" + told.group(3) + "\");");
    }

    private void line(String line) {
        test.append(line).append('\n');
    }
}
