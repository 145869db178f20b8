import java.io.ByteArrayOutputStream;
import java.io.IOException;
import java.io.PrintStream;
import java.lang.reflect.Method;
import java.lang.reflect.Modifier;
import java.nio.file.DirectoryStream;
import java.nio.file.Files;
import java.nio.file.Path;
import java.util.ArrayList;
import java.util.List;
import java.util.regex.Matcher;
import java.util.regex.Pattern;

/** What README.md says holds: its example answers as its remarks say, all calls and all tests are named there. */
public final class ReadmeTest {
    private static final Checks CHECK = new Checks("ReadmeTest");

    public static void main(String[] args) throws IOException {
        String readme = Files.readString(Path.of("README.md"));
        String example = Files.readString(Path.of("src/test/java/Example.java"));
        CHECK.isTrue("the example of README.md is src/test/java/Example.java", readme.contains("```java\n" + example + "```"));
        answersOfTheExample(example);
        allCallsAreNamed(readme);
        allTestsAreNamed(readme);
        CHECK.finish();
    }

    private static void answersOfTheExample(String example) {
        List<String> due = new ArrayList<>();
        Matcher remark = Pattern.compile("(?m)^ +show\\(.*\\); *// (-?\\d+)").matcher(example);
        while (remark.find()) due.add(remark.group(1));
        List<String> got = printedByExample();
        CHECK.isTrue("there are answers", due.size() > 10);
        CHECK.due("answers of the example", got.size(), due.size());
        for (int i = 0; i < Math.min(got.size(), due.size()); i++) {
            CHECK.isTrue("answer " + (i + 1) + " is " + got.get(i) + ", the remark says " + due.get(i), got.get(i).equals(due.get(i)));
        }
    }

    private static List<String> printedByExample() {
        PrintStream before = System.out;
        ByteArrayOutputStream bytes = new ByteArrayOutputStream();
        System.setOut(new PrintStream(bytes, true));
        Example.main(new String[0]);
        System.setOut(before);
        return bytes.toString().lines().toList();
    }

    private static void allCallsAreNamed(String readme) {
        for (Method m : StepsByHand.class.getDeclaredMethods()) {
            if (!Modifier.isPublic(m.getModifiers())) continue;
            CHECK.isTrue("README.md names the call " + m.getName(), readme.contains("`" + m.getName() + "`"));
        }
    }

    private static void allTestsAreNamed(String readme) throws IOException {
        try (DirectoryStream<Path> tests = Files.newDirectoryStream(Path.of("src/test/java"), "*Test.java")) {
            for (Path test : tests) {
                String name = test.getFileName().toString().replace(".java", "");
                CHECK.isTrue("README.md names " + name, readme.contains(name));
            }
        }
    }
}
