import java.lang.reflect.Constructor;
import java.lang.reflect.Field;
import java.lang.reflect.Method;
import java.lang.reflect.Modifier;
import java.nio.charset.StandardCharsets;
import java.nio.file.Files;
import java.nio.file.Paths;
import java.util.Set;
import java.util.TreeSet;
import java.util.regex.Matcher;
import java.util.regex.Pattern;

/** The face of the class, and what of LANGUAGE.md can be seen from outside and from the words of the source. */
public final class RulesTest {
    private static final Due D = new Due("RulesTest");
    private static final String FACE = "boolean corner(int, boolean);boolean heat(int, int, int, int);"
        + "boolean image(int);boolean part(int, int, int, int);boolean pocket(int, int);boolean restore(int);"
        + "boolean saw(int, int, int);boolean tray(int, int, boolean);int again(int);int clear(boolean);"
        + "int copies(int);int count(int);int crease(int, int, int, int, int);int empty();int explain(int, int);"
        + "int fault(int);int feed(int, int, int, int, int);int foretold(int, int, int);int forget();int kept(int);"
        + "int lack(int);int lay(int, boolean);int load(int, int);int out(int);int page(int, boolean);"
        + "int passing(int, int, int);int pay(int, int, int);int plan(int);int row(int, int, int);int save(int);"
        + "int sees(int);int service(int, int, int);int set(int, int, int);int sheet(int, int);int text(int);"
        + "int tick(int);long write(int, int, long);";

    public static void main(String[] args) throws Exception {
        face();
        classesInside();
        words();
        D.end();
    }

    private static void face() throws Exception {
        Class<?> c = PaperWay.class;
        D.due("public and final", c.getModifiers(), Modifier.PUBLIC | Modifier.FINAL);
        D.due("no class above", c.getSuperclass() == Object.class && c.getInterfaces().length == 0, true);
        Constructor<?>[] made = c.getDeclaredConstructors();
        D.due("one constructor", made.length, 1);
        D.due("public, without arguments",
                made[0].getModifiers() == Modifier.PUBLIC && made[0].getParameterCount() == 0, true);
        Set<String> open = new TreeSet<>();
        Set<String> openNames = new TreeSet<>();
        Set<String> hidden = new TreeSet<>();
        for (Method m : c.getDeclaredMethods()) {
            if (m.isSynthetic()) {
                continue;
            }
            if (Modifier.isPrivate(m.getModifiers())) {
                hidden.add(m.getName());
                continue;
            }
            D.due(m.getName() + " is public and no more", m.getModifiers(), Modifier.PUBLIC);
            StringBuilder s = new StringBuilder(m.getReturnType().getName() + " " + m.getName() + "(");
            for (Class<?> p : m.getParameterTypes()) {
                s.append(s.charAt(s.length() - 1) == '(' ? "" : ", ").append(p.getName());
            }
            open.add(s + ")");
            openNames.add(m.getName());
        }
        Set<String> due = new TreeSet<>();
        for (String s : FACE.split(";")) {
            due.add(s);
        }
        D.due("the document's methods, found " + open, open.equals(due), true);
        D.due("37 of them", open.size(), 37);
        for (Class<?> inside : c.getDeclaredClasses()) {
            for (Method m : inside.getDeclaredMethods()) {
                hidden.add(m.getName());
            }
        }
        hidden.retainAll(openNames);
        D.due("hidden methods with a public name: " + hidden, hidden.size(), 0);
        for (Field f : c.getDeclaredFields()) {
            boolean constant = f.getName().equals("NONE");
            D.due(f.getName() + " is hidden, or the constant", Modifier.isPrivate(f.getModifiers()), !constant);
        }
        D.due("NONE", c.getField("NONE").getInt(null), -1);
    }

    private static void classesInside() {
        Class<?>[] all = PaperWay.class.getDeclaredClasses();
        D.due("some twelve classes", all.length <= 12, true);
        for (Class<?> c : all) {
            D.due(c.getName() + " is static", Modifier.isStatic(c.getModifiers()), true);
            D.due(c.getName() + " is hidden", Modifier.isPublic(c.getModifiers()), false);
            int own = 0;
            for (Field f : c.getDeclaredFields()) {
                boolean ofAll = Modifier.isStatic(f.getModifiers());
                own += ofAll ? 0 : 1;
                D.due(c.getName() + "." + f.getName() + ": a static one is final",
                        !ofAll || Modifier.isFinal(f.getModifiers()), true);
            }
            D.due(c.getName() + " has some twenty fields", own <= 20, true);
        }
    }

    private static void words() throws Exception {
        String path = System.getenv("PAPERWAY_SOURCE");
        byte[] bytes = Files.readAllBytes(Paths.get(path == null ? "src/main/java/PaperWay.java" : path));
        String source = new String(bytes, StandardCharsets.ISO_8859_1);
        for (int i = 0; i < source.length(); i++) {
            if (source.charAt(i) > 126) {
                D.due("sign " + i, source.charAt(i), 'a');
            }
        }
        String code = source.replaceAll("(?s)/\\*.*?\\*/", "").replaceAll("//[^\\n]*", "")
                .replaceAll("\"[^\"\\n]*\"", "\"\"");
        String[] never = {"\\bthrow\\b", "\\bthrows\\b", "\\btry\\b", "\\bcatch\\b", "\\bassert\\b", "\\bsynchronized\\b",
            "->", "::", "\\bpackage\\b", "\\bMap\\b", "\\bvar\\b", "\\w+Exact\\b", "\\bSystem\\.(?!arraycopy)",
            "\\bhashCode\\b", "\\btoString\\b", "\\bString\\.format", "\"\" *\\+", "\\+ *\"\"", "\\bprotected\\b",
            "\\bRandom\\b", "\\bThread\\b", "\\bfloat\\b", "\\bdouble\\b", "\\bObject\\b", "\\bimport (?!java\\.util\\.Arrays;)"};
        for (String word : never) {
            Matcher m = Pattern.compile(word).matcher(code);
            D.due("the source has " + word, m.find(), false);
        }
        lengths(code);
    }

    /** Methods of some sixty lines, seven parameters at most. */
    private static void lengths(String code) {
        Pattern head = Pattern.compile("(?m)^( {4}| {8})(?=\\S)[\\w\\[\\] ]+\\(([^()]*)\\) \\{\\n(?s:(.*?))^\\1\\}");
        Matcher m = head.matcher(code);
        int met = 0;
        while (m.find()) {
            met++;
            int lines = m.group(3).split("\n").length;
            String name = m.group().substring(0, m.group().indexOf('(')).trim();
            D.due(name + " has " + lines + " lines", lines <= 60, true);
            int parameters = m.group(2).isEmpty() ? 0 : m.group(2).split(",").length;
            D.due(name + " has " + parameters + " parameters", parameters <= 7, true);
        }
        D.due("methods met", met > 120, true);
    }
}
