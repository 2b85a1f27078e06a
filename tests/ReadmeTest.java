import java.io.IOException;
import java.nio.file.Files;
import java.nio.file.Path;
import java.util.Set;
import java.util.TreeSet;
import java.util.regex.Matcher;
import java.util.regex.Pattern;

/** What README.md says holds: the answers behind its calls, every call of the face told, every test named. */
public final class ReadmeTest {
    private static final Checks CHECKS = new Checks("ReadmeTest");
    private static final Pattern BLOCK = Pattern.compile("```java\n(.*?)```", Pattern.DOTALL);
    private static final Pattern NEW = Pattern.compile("(?:LittleMore )?shop = new LittleMore\\(\\);");
    private static final Pattern FED =
        Pattern.compile("for \\(char sign : \"([^\"]*)\"\\.toCharArray\\(\\)\\) shop\\.feed\\(sign\\);.*");
    private static final Pattern CALL = Pattern.compile("shop\\.(\\w+)\\(([^)]*)\\);\\s+// (-?\\w+)\\b.*");

    private static long answerTold(String told) {
        switch (told) {
            case "NONE": return LittleMore.NONE;
            case "BAD": return LittleMore.BAD;
            case "STATE": return LittleMore.STATE;
            case "FULL": return LittleMore.FULL;
            case "NO": return LittleMore.NO;
            default: return Long.parseLong(told);
        }
    }

    private static void examples(String readme) {
        Set<String> told = new TreeSet<>();
        Matcher block = BLOCK.matcher(readme);
        LittleMore shop = new LittleMore();
        while (block.find()) {
            for (String line : block.group(1).split("\n")) {
                Matcher fed = FED.matcher(line);
                Matcher call = CALL.matcher(line);
                if (NEW.matcher(line).matches()) {
                    shop = new LittleMore();
                } else if (fed.matches()) {
                    Checks.feed(shop, fed.group(1));
                    told.add("feed");
                } else if (call.matches()) {
                    String arguments = call.group(2).isEmpty() ? "" : " " + call.group(2).replace(", ", " ");
                    CHECKS.due(line, Bounds.answer(shop, call.group(1) + arguments), answerTold(call.group(3)));
                    told.add(call.group(1));
                } else {
                    CHECKS.holds("a line without an answer: " + line, line.isEmpty());
                }
            }
        }
        CHECKS.holds("all 37 but the constructor are told: " + told, told.size() == 36);
    }

    private static void testsNamed(String readme) throws IOException {
        Set<String> there = new TreeSet<>();
        try (var files = Files.list(Path.of("tests"))) {
            files.map(file -> file.getFileName().toString()).filter(name -> name.endsWith("Test.java"))
                .forEach(name -> there.add(name.substring(0, name.length() - ".java".length())));
        }
        Set<String> named = new TreeSet<>();
        Matcher row = Pattern.compile("(?m)^\\| `(\\w+Test)` \\|").matcher(readme);
        while (row.find()) {
            named.add(row.group(1));
        }
        CHECKS.holds("the tests " + there + " are named: " + named, there.equals(named));
        CHECKS.holds(".ci/run is named, and can be run", readme.contains("    .ci/run\n")
            && Files.isExecutable(Path.of(".ci/run")));
    }

    public static void main(String[] args) throws IOException {
        String readme = Files.readString(Path.of("README.md"));
        examples(readme);
        testsNamed(readme);
        CHECKS.end();
    }
}
