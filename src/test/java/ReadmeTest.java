import java.io.IOException;
import java.lang.reflect.Field;
import java.lang.reflect.Method;
import java.lang.reflect.Modifier;
import java.nio.file.Files;
import java.nio.file.Path;
import java.util.ArrayList;
import java.util.List;
import java.util.regex.Matcher;
import java.util.regex.Pattern;
import javax.tools.ToolProvider;

/** The examples of README.md: each answers what stands behind it, all of them compile, and no call of the face lacks. */
public final class ReadmeTest {
    private static final Pattern CALL = Pattern.compile("sky\\.(\\w+)\\((.*)\\);(?: +// (throws \\w+|[^:]+)(?:: .+)?)?");
    private static final Pattern FILL = Pattern.compile("fill\\(sky, \"(.*)\"\\);");
    private static final String MADE = "WanderingMoons sky = new WanderingMoons();";

    public static void main(String[] args) throws IOException {
        Path source = Path.of(args.length > 0 ? args[0] : "src/main/java/WanderingMoons.java").toAbsolutePath();
        String page = Files.readString(source.resolve("../../../../README.md").normalize());
        List<String> blocks = blocks(page);
        play(blocks);
        compile(blocks);
        wholeFace(page);
        Check.end();
    }

    private static List<String> blocks(String page) {
        List<String> found = new ArrayList<>();
        Matcher block = Pattern.compile("```java\n(.*?)```", Pattern.DOTALL).matcher(page);
        while (block.find()) {
            found.add(block.group(1));
        }
        return found;
    }

    private static boolean isMethod(String block) {
        return block.startsWith("static ");
    }

    private static void play(List<String> blocks) {
        WanderingMoons sky = new WanderingMoons();
        int answers = 0;
        for (String block : blocks) {
            if (isMethod(block)) {
                continue;
            }
            for (String line : block.split("\n")) {
                Matcher fill = FILL.matcher(line);
                Matcher call = CALL.matcher(line);
                if (line.startsWith(MADE)) {
                    sky = new WanderingMoons();
                } else if (fill.matches()) {
                    Skies.fill(sky, fill.group(1));
                } else if (call.matches()) {
                    String due = call.group(3) == null ? "nothing" : call.group(3).replace("throws ", "throws.");
                    String words = (call.group(1) + " " + call.group(2).replace(",", "")).trim();
                    Check.same("README: " + line, Calls.answer(sky, words), due);
                    written(sky, line);
                    answers++;
                } else {
                    Check.same("README: a line of its examples", line, "a call");
                }
            }
        }
        Check.same("README: there are examples", answers > 50, true);
    }

    /** The text that an example says to be written. */
    private static void written(WanderingMoons sky, String line) {
        Matcher text = Pattern.compile("sky\\.writeTable.* // (\\d+): \"(.*)\"").matcher(line);
        if (text.matches()) {
            Check.same("README: " + line, Skies.written(sky, Integer.parseInt(text.group(1))), text.group(2));
        }
    }

    private static void compile(List<String> blocks) throws IOException {
        StringBuilder methods = new StringBuilder();
        StringBuilder lines = new StringBuilder();
        for (String block : blocks) {
            (isMethod(block) ? methods : lines).append(block);
        }
        Path folder = Files.createTempDirectory("readme");
        Path file = folder.resolve("ReadmeExamples.java");
        Files.writeString(file, "final class ReadmeExamples {\n" + methods + "static void play() {\n" + lines + "}\n}\n");
        int code = ToolProvider.getSystemJavaCompiler().run(null, null, null, "-cp", System.getProperty("java.class.path"),
                "-d", folder.toString(), file.toString());
        Check.same("README: its examples compile", code, 0);
        try (var all = Files.list(folder)) {
            for (Path one : all.toList()) {
                Files.delete(one);
            }
        }
        Files.delete(folder);
    }

    private static void wholeFace(String page) {
        for (Method m : WanderingMoons.class.getDeclaredMethods()) {
            if (Modifier.isPublic(m.getModifiers())) {
                String told = "`" + m.getName() + "[`(]";
                Check.same("README: " + m.getName() + " is told", Pattern.compile(told).matcher(page).find(), true);
            }
        }
        for (Field f : WanderingMoons.class.getDeclaredFields()) {
            if (Modifier.isPublic(f.getModifiers())) {
                Check.same("README: " + f.getName() + " is told", page.contains("`" + f.getName() + "`"), true);
            }
        }
        for (String due : new String[] {"IndexOutOfBoundsException", "IllegalArgumentException", "IllegalStateException"}) {
            Check.same("README: " + due + " is told", page.contains("- `" + due + "`: "), true);
        }
    }
}
