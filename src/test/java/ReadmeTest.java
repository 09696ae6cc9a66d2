import java.io.ByteArrayOutputStream;
import java.io.PrintStream;
import java.lang.reflect.Method;
import java.lang.reflect.Modifier;
import java.nio.file.Files;
import java.nio.file.Path;
import java.util.ArrayList;
import java.util.List;

/** README.md shows the example as it is, the example prints what it says, and every call is told. */
public final class ReadmeTest {
    private static final Check CHECK = new Check("ReadmeTest");

    public static void main(String[] args) throws Exception {
        String readme = Files.readString(Path.of("README.md"));
        String example = Files.readString(Path.of("src/test/java/Example.java"));
        CHECK.same("README.md has the example", readme.contains("```java\n" + example + "```\n") ? 1 : 0, 1);
        theExamplePrintsWhatItSays(example);
        everyCallIsTold(readme);
        CHECK.end();
    }

    private static void theExamplePrintsWhatItSays(String example) {
        List<String> said = new ArrayList<>();
        for (String line : example.split("\n")) {
            if (line.contains("println(")) {
                said.add(line.substring(line.indexOf("; // ") + "; // ".length()));
            }
        }
        CHECK.same("the example says something", said.isEmpty() ? 0 : 1, 1);
        CHECK.same("the example", printed(), String.join("\n", said));
    }

    private static String printed() {
        PrintStream before = System.out;
        ByteArrayOutputStream all = new ByteArrayOutputStream();
        System.setOut(new PrintStream(all, true));
        Example.main(new String[0]);
        System.setOut(before);
        return String.join("\n", all.toString().split("\\R"));
    }

    private static void everyCallIsTold(String readme) {
        for (Method method : SignatureForest.class.getDeclaredMethods()) {
            if (Modifier.isPublic(method.getModifiers())) {
                String row = "| `" + method.getName() + "(";
                CHECK.same("README.md tells of " + method.getName(), readme.contains(row) ? 1 : 0, 1);
            }
        }
    }
}
