import java.io.IOException;
import java.lang.reflect.Method;
import java.lang.reflect.Modifier;
import java.nio.file.Files;
import java.nio.file.Path;
import java.util.HashMap;
import java.util.List;
import java.util.Map;
import java.util.regex.Matcher;
import java.util.regex.Pattern;

/** README.md: its example answers what the remarks beside its calls say, and it has a line for each call. */
public final class ReadmeTest {

    private static final Pattern CALL = Pattern.compile("(?:int (\\w+) = )?bot\\.(\\w+)\\((.*)\\); *// (\\w+).*");

    private static int wrong = 0;

    public static void main(String[] args) throws IOException {
        String text = Files.readString(Path.of("README.md"));
        int calls = runExample(text);
        lookForEachCall(text);
        System.out.println("the readme: " + calls + " calls, " + wrong + " wrong");
        if (wrong != 0 || calls == 0) {
            System.exit(1);
        }
    }

    private static int runExample(String text) {
        Bumpherald bot = new Bumpherald();
        Map<String, Integer> named = new HashMap<>(Map.of("true", 1, "false", 0));
        List<String> lines = exampleIn(text);
        due("the first line", lines.get(0), "Bumpherald bot = new Bumpherald();");
        for (String line : lines.subList(1, lines.size())) {
            runLine(bot, line, named);
        }
        return lines.size() - 1;
    }

    private static List<String> exampleIn(String text) {
        String start = "```java\n";
        int from = text.indexOf(start);
        int to = text.indexOf("```", from + start.length());
        if (from < 0 || to < 0) {
            throw new AssertionError("README.md has no example");
        }
        return text.substring(from + start.length(), to).lines().toList();
    }

    private static void runLine(Bumpherald bot, String line, Map<String, Integer> named) {
        Matcher call = CALL.matcher(line);
        if (!call.matches()) {
            due(line, "not a call with its answer", "one");
            return;
        }
        String[] words = call.group(3).split(", ");
        int[] given = new int[words.length];
        for (int i = 0; i < given.length; i++) {
            given[i] = numberOf(words[i], named);
        }
        String got = Calls.answer(bot, call.group(2), given);
        due(line, got, Integer.toString(numberOf(call.group(4), named)));
        if (call.group(1) != null) {
            named.put(call.group(1), Integer.valueOf(got));
        }
    }

    private static int numberOf(String word, Map<String, Integer> named) {
        return named.containsKey(word) ? named.get(word) : Integer.parseInt(word);
    }

    private static void lookForEachCall(String text) {
        for (Method method : Bumpherald.class.getDeclaredMethods()) {
            if (Modifier.isPublic(method.getModifiers())) {
                due(method.getName(), text.contains("| `" + method.getName() + "(") ? "there" : "missing", "there");
            }
        }
    }

    private static void due(String what, String got, String want) {
        if (!got.equals(want)) {
            wrong++;
            System.out.println("the readme: " + what + ": " + got + ", due is " + want);
        }
    }
}
