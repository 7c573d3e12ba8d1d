import java.io.IOException;
import java.nio.file.Files;
import java.nio.file.Path;
import java.util.regex.Matcher;
import java.util.regex.Pattern;

/** The calls that README.md shows are answered as it says. */
public final class ReadmeExample {
    private static final Pattern CALL = Pattern.compile("x\\.(\\w+)\\((.*)\\); +// (-?\\d+)(:.*)?");

    public static void main(String[] args) throws IOException {
        String readme = Files.readString(Path.of("README.md"));
        String block = readme.substring(readme.indexOf("```java\n") + 8, readme.lastIndexOf("```"));
        Edge.test("README.md: each call answers what stands behind it", () -> {
            Played x = new Played();
            for (String line : block.split("\n")) {
                Matcher m = CALL.matcher(line);
                if (m.matches()) {
                    Edge.due(line, x.ask(m.group(1), numbers(m.group(2))), Long.parseLong(m.group(3)));
                } else {
                    Edge.due("'" + line + "' is the first line", line.startsWith("TubeWords x = new") ? 1 : 0, 1);
                }
            }
        });
        Edge.end();
    }

    private static int[] numbers(String list) {
        if (list.isEmpty()) {
            return new int[0];
        }
        String[] parts = list.split(", ");
        int[] numbers = new int[parts.length];
        for (int i = 0; i < parts.length; i++) {
            numbers[i] = parts[i].startsWith("'") ? parts[i].charAt(1) : Integer.parseInt(parts[i]);
        }
        return numbers;
    }
}
