import java.io.IOException;
import java.lang.reflect.Method;
import java.lang.reflect.Modifier;
import java.nio.file.Files;
import java.nio.file.Path;
import java.util.Set;
import java.util.TreeSet;
import java.util.regex.Matcher;
import java.util.regex.Pattern;
import java.util.stream.Collectors;
import java.util.stream.Stream;

/** What README.md says: its example's answers, the calls of the class, the tests and how they are run. */
public final class ReadmeTest {
    private static final Pattern CALL = Pattern.compile(
        "x\\.(\\w+)\\(([-\\d, ]*)\\); +// (-?\\d+|NoSuchElementException|IllegalArgumentException): (.+)");
    private static final Pattern QUOTED = Pattern.compile("`([^`\n]+)`");
    private static final Path TESTS = Path.of("src/test/java");
    private static final Check check = new Check();

    public static void main(String[] args) throws IOException {
        String page = Files.readString(Path.of("README.md"));
        example(block(page, "java").split("\n"));
        String prose = page.replaceAll("(?s)```.*?```", "");
        calls(rowsUnder(prose, "| calls |"));
        tests(prose);
        running(prose, block(page, "sh"));
        check.end("ReadmeTest");
    }

    private static void holds(String what, boolean is) {
        check.same(what, 1, Check.of(is));
    }

    private static String block(String page, String language) {
        Matcher m = Pattern.compile("(?s)```" + language + "\n(.*?)\n```").matcher(page);
        holds("a block of " + language, m.find());
        String found = m.group(1);
        holds("only one block of " + language, !m.find());
        return found;
    }

    // ---- the example

    private static void example(String[] lines) {
        holds("the example begins with an object", lines[0].equals("HorizonDues x = new HorizonDues();"));
        Run x = new Run(check);
        for (int i = 1; i < lines.length; i++) {
            Matcher m = CALL.matcher(lines[i]);
            boolean told = m.matches();
            holds("a call with its answer: " + lines[i], told);
            if (told) {
                int[] numbers = numbersOf(m.group(2));
                x.is(answerOf(m.group(3)), m.group(1), numbers);
                if (m.group(1).equals("feed")) {
                    holds("what is fed is " + m.group(4), m.group(4).equals("\"" + bytesOf(numbers) + "\""));
                }
            }
        }
    }

    private static int[] numbersOf(String told) {
        return Stream.of(told.split(", ")).filter(s -> !s.isEmpty()).mapToInt(Integer::parseInt).toArray();
    }

    private static long answerOf(String told) {
        switch (told) {
            case "NoSuchElementException": return Check.NO_SUCH;
            case "IllegalArgumentException": return Check.ILLEGAL;
            default: return Long.parseLong(told);
        }
    }

    private static String bytesOf(int[] numbers) {
        StringBuilder s = new StringBuilder();
        for (int number : numbers) {
            for (int shift = 24; shift >= 0; shift -= 8) {
                s.append((char) (number >>> shift & 255));
            }
        }
        return s.toString();
    }

    // ---- what it names

    private static String rowsUnder(String prose, String header) {
        int from = prose.indexOf(header);
        holds("a table " + header, from >= 0);
        return from < 0 ? "" : prose.substring(from, prose.indexOf("\n\n", from));
    }

    private static Set<String> quotedIn(String text) {
        return QUOTED.matcher(text).results().map(r -> r.group(1)).collect(Collectors.toCollection(TreeSet::new));
    }

    private static void calls(String table) {
        Set<String> face = new TreeSet<>();
        for (Method m : HorizonDues.class.getDeclaredMethods()) {
            if (Modifier.isPublic(m.getModifiers())) {
                face.add(m.getName());
            }
        }
        Set<String> named = quotedIn(table);
        holds("the calls " + named + " are " + face, named.equals(face));
    }

    private static void tests(String prose) throws IOException {
        Set<String> named = quotedIn(prose);
        Set<String> files = new TreeSet<>();
        try (Stream<Path> all = Files.list(TESTS)) {
            all.forEach(file -> files.add(file.getFileName().toString().replace(".java", "")));
        }
        for (String file : files) {
            holds(file + " is named", named.contains(file));
        }
        for (String name : named) {
            boolean isClass = name.matches("[A-Z]\\w*[a-z]\\w*");
            holds("there is a class " + name, !isClass || files.contains(name));
        }
    }

    private static void running(String prose, String commands) {
        holds("the script is named", quotedIn(prose).contains("bash .ci/run"));
        holds("the script can be run", Files.isExecutable(Path.of(".ci/run")));
        for (String line : commands.split("\n")) {
            for (String word : line.split(" ")) {
                boolean isFile = word.endsWith(".java") && !word.contains("*");
                holds("there is a file " + word, !isFile || Files.exists(Path.of(word)));
                holds("there is a test " + word, !word.endsWith("Test") || Files.exists(TESTS.resolve(word + ".java")));
            }
        }
    }
}
