import java.lang.reflect.Method;
import java.nio.charset.StandardCharsets;
import java.nio.file.Files;
import java.nio.file.Path;
import java.nio.file.Paths;
import java.util.ArrayList;
import java.util.List;
import java.util.Set;
import java.util.TreeSet;
import java.util.regex.Matcher;
import java.util.regex.Pattern;

/** What README.md says: each call that it shows answers so, and the command that it names runs every test. */
public final class ReadmeTest {
    private static final Due D = new Due("ReadmeTest");
    private static final Pattern CALL = Pattern.compile("x\\.(\\w+)\\(([^()]*)\\); *// *(-?\\d+|true|false)\\b.*");
    private static final String MADE = "PaperWay x = new PaperWay();";

    public static void main(String[] args) throws Exception {
        Path readme = Paths.get(told("PAPERWAY_README", "README.md"));
        String page = new String(Files.readAllBytes(readme), StandardCharsets.UTF_8);
        calls(page);
        textShown(page);
        command(page, readme.toAbsolutePath().getParent());
        D.end();
    }

    private static String told(String name, String otherwise) {
        String value = System.getenv(name);
        return value == null ? otherwise : value;
    }

    private static List<String> blocks(String page, String language) {
        List<String> found = new ArrayList<>();
        Matcher m = Pattern.compile("(?s)```" + language + "\\n(.*?)```").matcher(page);
        while (m.find()) {
            found.add(m.group(1));
        }
        return found;
    }

    private static void calls(String page) throws Exception {
        PaperWay x = null;
        int shown = 0;
        Set<String> names = new TreeSet<>();
        for (String block : blocks(page, "java")) {
            for (String line : block.split("\n")) {
                if (line.equals(MADE)) {
                    x = new PaperWay();
                    continue;
                }
                Matcher m = CALL.matcher(line);
                D.due("a call with its answer: " + line, m.matches(), true);
                if (m.matches() && x != null) {
                    D.due(line, answer(x, m.group(1), m.group(2)), number(m.group(3)));
                    names.add(m.group(1));
                    shown++;
                }
            }
        }
        D.due("calls shown in a row that an object is good for", shown > 40 && shown <= 512, true);
        D.due("different calls shown", names.size() > 30, true);
    }

    private static long number(String word) {
        return word.equals("true") ? 1 : word.equals("false") ? 0 : Long.decode(word);
    }

    private static long answer(PaperWay x, String name, String arguments) throws Exception {
        String[] words = arguments.isEmpty() ? new String[0] : arguments.split(", *");
        for (Method m : PaperWay.class.getMethods()) {
            if (m.getName().equals(name) && m.getParameterCount() == words.length) {
                Object[] values = new Object[words.length];
                for (int i = 0; i < words.length; i++) {
                    values[i] = value(words[i], m.getParameterTypes()[i]);
                }
                Object got = m.invoke(x, values);
                return got instanceof Boolean ? (Boolean) got ? 1 : 0 : ((Number) got).longValue();
            }
        }
        throw new IllegalStateException("README.md shows a call that there is not: " + name);
    }

    private static Object value(String word, Class<?> type) {
        if (type == boolean.class) {
            return word.equals("true");
        }
        return type == long.class ? (Object) Long.decode(word.replace("L", "")) : (Object) Integer.decode(word);
    }

    /** The text that the page names is the one that its feeds put on the tape. */
    private static void textShown(String page) {
        StringBuilder fed = new StringBuilder();
        Matcher m = Pattern.compile("0x([0-9a-f]{8})").matcher(page);
        while (m.find()) {
            for (int i = 0; i < 8; i += 2) {
                fed.append((char) Integer.parseInt(m.group(1).substring(i, i + 2), 16));
            }
        }
        D.due("the text that is fed stands on the page", page.contains("\n`" + fed.toString().trim() + "`\n"), true);
    }

    /** The command is .ci/run, which runs each file that has a main method, ours and the shared ones. */
    private static void command(String page, Path root) throws Exception {
        List<String> commands = blocks(page, "sh");
        D.due("one command", commands.size(), 1);
        D.due("the command", commands.get(0).equals("bash .ci/run\n"), true);
        Path script = root.resolve(".ci/run");
        D.due("it is there and can be run", Files.isExecutable(script), true);
        String run = new String(Files.readAllBytes(script), StandardCharsets.UTF_8);
        D.due("it takes each file that ends in Test", run.contains("\"$root\"/src/test/java/*Test.java; do"), true);
        D.due("and each shared one", run.contains("\"$shared\"/*.java; do"), true);
        int tests = 0;
        for (java.io.File file : root.resolve("src/test/java").toFile().listFiles()) {
            String source = new String(Files.readAllBytes(file.toPath()), StandardCharsets.UTF_8);
            boolean isTest = file.getName().endsWith("Test.java");
            D.due(file.getName() + " has a main method", source.contains("void main(String[] args)"), isTest);
            tests += isTest ? 1 : 0;
        }
        D.due("tests of the project", tests > 20, true);
    }
}
