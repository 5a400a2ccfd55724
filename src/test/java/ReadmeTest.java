import java.io.IOException;
import java.lang.reflect.Method;
import java.lang.reflect.Modifier;
import java.nio.file.DirectoryStream;
import java.nio.file.Files;
import java.nio.file.Path;
import java.util.regex.Matcher;
import java.util.regex.Pattern;

/** What README.md says is so: its calls answer what stands behind them, and it names all calls and tests. */
public final class ReadmeTest {
    public static void main(String[] args) throws IOException {
        String text = Files.readString(Path.of("README.md"));
        Due.hold("README.md makes an object", text.contains("CoastLights coast = new CoastLights();"));
        calls(text);
        namesTheFace(text);
        namesTheTests(text);
        Due.end();
    }

    private static void calls(String text) {
        Matcher call = Pattern.compile("(?m)^coast\\.(\\w+\\(.*\\)); +// (-?\\d+): ").matcher(text);
        CoastLights coast = new CoastLights();
        int made = 0;
        while (call.find()) {
            String one = decimal(call.group(1));
            Due.due("README: " + one, Calls.make(coast, one), Integer.parseInt(call.group(2)));
            made++;
        }
        int there = text.split("\ncoast\\.").length - 1;
        Due.hold("README.md has calls", there > 0);
        Due.due("README: calls with an answer behind them", made, there);
    }

    /** Bytes stand there as hexadecimal numbers, so that a reader can see them. */
    private static String decimal(String call) {
        return Pattern.compile("0x([0-9a-f]+)L?").matcher(call)
            .replaceAll(bytes -> "" + Long.parseUnsignedLong(bytes.group(1), 16));
    }

    private static void namesTheFace(String text) {
        for (Method method : CoastLights.class.getDeclaredMethods()) {
            if (Modifier.isPublic(method.getModifiers())) {
                Due.hold("README.md does not name " + method.getName(), text.contains("`" + method.getName() + "`"));
            }
        }
        String[] findings = {"BEYOND", "MISSING", "SIZE", "KIND", "FULL", "NONE", "TAKEN", "BARRED"};
        for (int i = 0; i < findings.length; i++) {
            String row = "| " + (-100001 - i) + " | " + findings[i] + " |";
            Due.hold("README.md does not name " + findings[i], text.contains(row));
        }
    }

    private static void namesTheTests(String text) throws IOException {
        try (DirectoryStream<Path> files = Files.newDirectoryStream(Path.of("src/test/java"), "*Test.java")) {
            for (Path file : files) {
                String name = file.getFileName().toString().replace(".java", "");
                Due.hold("README.md does not name " + name, text.contains("| `" + name + "` |"));
            }
        }
    }
}
