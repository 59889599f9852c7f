import java.io.IOException;
import java.lang.reflect.Method;
import java.lang.reflect.Modifier;
import java.nio.file.Files;
import java.nio.file.Path;
import java.util.Set;
import java.util.TreeSet;
import java.util.regex.Matcher;
import java.util.regex.Pattern;

/** README.md: its examples answer what stands behind them, and its commands are those of .ci/run. */
public final class ReadmeTest {
    private static final Pattern MADE = Pattern.compile("(?m)^WorkMeter x = new WorkMeter\\(\\);$");
    private static final Pattern CALL = Pattern.compile("(?m)^x\\.(\\w+)\\((.*?)\\); +// (-?\\d+|true|false)\\b");
    private static final Pattern COMMAND = Pattern.compile("\\b(?:javac|java) -[^\n;&`]*[^\n;&` ]");

    private ReadmeTest() {
    }

    public static void main(String[] args) throws IOException {
        String readme = Files.readString(Path.of("README.md"));
        String script = Files.readString(Path.of(".ci/run"));
        examplesAnswerSo(readme);
        commandsAreTheScripts(readme, script);
        Check.finish();
    }

    private static void examplesAnswerSo(String readme) {
        Set<String> shown = new TreeSet<>();
        int calls = 0;
        for (String part : readme.split("```java\n")) {
            String block = part.substring(0, Math.max(0, part.indexOf("```")));
            if (MADE.matcher(block).find()) {
                calls += runExample(block, shown);
            }
        }
        long told = readme.lines().filter(line -> line.startsWith("x.")).count();
        Check.due("README: calls that were run", calls, told);
        for (Method m : WorkMeter.class.getDeclaredMethods()) {
            if (Modifier.isPublic(m.getModifiers())) {
                Check.due("README shows " + m.getName(), shown.contains(m.getName()), true);
            }
        }
    }

    private static int runExample(String block, Set<String> shown) {
        Run run = Run.of("README");
        Matcher call = CALL.matcher(block);
        int calls = 0;
        while (call.find()) {
            run.go(call.group(1) + "(" + plain(call.group(2)) + ") " + answer(call.group(3)));
            shown.add(call.group(1));
            calls++;
        }
        return calls;
    }

    // Run takes numbers in tens, and NONE by its own name.
    private static String plain(String inside) {
        StringBuilder text = new StringBuilder();
        for (String word : inside.replace("WorkMeter.", "").split(",")) {
            String one = word.strip();
            text.append(text.length() == 0 ? "" : ", ").append(one.startsWith("0x") ? "" + Integer.decode(one) : one);
        }
        return text.toString();
    }

    private static String answer(String told) {
        return told.equals("true") ? "1" : told.equals("false") ? "0" : told;
    }

    private static void commandsAreTheScripts(String readme, String script) {
        Set<String> inScript = commands(script.replaceAll("(?m)^ *#.*", ""));
        Set<String> inReadme = new TreeSet<>();
        for (String line : readme.split("\n")) {
            if (line.startsWith("    ")) {
                inReadme.addAll(commands(line));
            }
        }
        Check.due("commands of .ci/run", inScript.size(), 5);
        Check.due("README names " + inReadme + ", .ci/run " + inScript, inReadme.equals(inScript), true);
    }

    private static Set<String> commands(String text) {
        Set<String> found = new TreeSet<>();
        Matcher command = COMMAND.matcher(text);
        while (command.find()) {
            found.add(command.group());
        }
        return found;
    }
}
