import java.io.ByteArrayOutputStream;
import java.io.IOException;
import java.io.PrintStream;
import java.lang.reflect.Method;
import java.lang.reflect.Modifier;
import java.nio.charset.StandardCharsets;
import java.nio.file.Files;
import java.nio.file.Path;

/** README.md: its example is the one that runs, prints what the page says, and the page tells every call. */
public final class ReadmeTest {
    public static void main(String[] args) throws IOException {
        String page = Files.readString(Path.of("README.md"), StandardCharsets.UTF_8);
        example(page);
        printed(page);
        everyCall(page);
        Check.finish();
    }

    private static void example(String page) throws IOException {
        String source = Files.readString(Path.of("src", "test", "java", "Example.java"), StandardCharsets.UTF_8);
        Check.due("README.md has Example.java as it is", page.contains("```java\n" + source + "```\n"), true);
    }

    private static void printed(String page) {
        PrintStream standing = System.out;
        ByteArrayOutputStream bytes = new ByteArrayOutputStream();
        System.setOut(new PrintStream(bytes, true, StandardCharsets.UTF_8));
        Example.main(new String[0]);
        System.setOut(standing);
        String told = bytes.toString(StandardCharsets.UTF_8).replace(System.lineSeparator(), "\n");
        Check.due("README.md has what the example prints:\n" + told, page.contains("```text\n" + told + "```\n"), true);
    }

    private static void everyCall(String page) {
        for (Method method : DilutedDesk.class.getDeclaredMethods()) {
            if (Modifier.isPublic(method.getModifiers())) {
                String row = "\n| `" + method.getName() + "(";
                int at = page.indexOf(row);
                Check.due("README.md has a row for " + method.getName(), at >= 0, true);
                int end = page.indexOf(')', Math.max(at, 0));
                String names = at < 0 || end < 0 ? "" : page.substring(at + row.length(), end);
                int told = names.isEmpty() ? 0 : names.split(",").length;
                Check.due("arguments told of " + method.getName(), told, method.getParameterCount());
            }
        }
    }
}
