import java.lang.reflect.Method;
import java.lang.reflect.Modifier;
import java.nio.file.Files;
import java.nio.file.Path;
import java.util.ArrayList;
import java.util.List;
import java.util.Set;
import java.util.TreeSet;
import java.util.regex.Matcher;
import java.util.regex.Pattern;

/** What of LANGUAGE.md can be seen from the source's words and from the class's members. */
public final class LanguageTest {
    private static final Check check = new Check("language");

    private static final String[] FACE = {
        "int sets(int, int)", "int anew()", "int load(int, int)", "int store(int, int, int)", "int fence()",
        "int ticks(int)", "int draw(int, int)", "int got(int, int)", "int often(int)", "int where(int)",
        "int item(int, int, int)", "int place(int, int)", "int fetch(int, int)", "int cost(int)", "long even()",
        "int best(int)", "int type(int)", "int clear()", "int runs()", "int back()", "int told(int)", "long digest()"
    };

    private static final String[] RULED_OUT = {
        "\\bpackage\\b", "\\bimport\\b", "\\bprotected\\b", "Exact\\b", "\\bFloat\\b", "\\bDouble\\b", "\\bMap\\b",
        "->", "::", "\\bthrows?\\b", "\\btry\\b", "\\bcatch\\b", "\\bfinally\\b", "\\bsynchronized\\b", "\\bassert\\b",
        "\\binstanceof\\b", "\\bvolatile\\b", "\\bhashCode\\b", "\\btoString\\b", "\\bequals\\b", "\\bThread\\b",
        "\\bnanoTime\\b", "\\bcurrentTimeMillis\\b", "\\bgetenv\\b", "\\bRandom\\b", "\\bwhile\\b", "\\bstatic\\s*\\{",
        "\\bMath\\.(?!max\\b|min\\b)", "\\bSystem\\.(?!arraycopy\\b)"
    };

    public static void main(String[] args) throws Exception {
        face();
        insideClasses();
        source(Files.readString(Path.of(args[0])));
        check.finish();
    }

    private static String shown(Method m) {
        List<String> types = new ArrayList<>();
        for (Class<?> type : m.getParameterTypes()) {
            types.add(type.getSimpleName());
        }
        return m.getReturnType().getSimpleName() + " " + m.getName() + "(" + String.join(", ", types) + ")";
    }

    private static void face() {
        Set<String> face = new TreeSet<>(List.of(FACE));
        Set<String> there = new TreeSet<>();
        for (Method m : LateLines.class.getDeclaredMethods()) {
            if (!Modifier.isPrivate(m.getModifiers())) {
                there.add(shown(m));
                check.due(shown(m) + " is public alone", m.getModifiers(), Modifier.PUBLIC);
            }
        }
        check.due("the face " + there, there.equals(face) ? 1 : 0, 1);
        check.due("constructors", LateLines.class.getDeclaredConstructors().length, 1);
        check.due("the class is public and final", LateLines.class.getModifiers(), Modifier.PUBLIC | Modifier.FINAL);
        int constants = 0;
        for (var field : LateLines.class.getDeclaredFields()) {
            boolean open = !Modifier.isPrivate(field.getModifiers());
            constants += open ? 1 : 0;
            boolean fixed = !Modifier.isStatic(field.getModifiers()) || Modifier.isFinal(field.getModifiers());
            check.due("static field " + field.getName() + " is final", fixed ? 1 : 0, 1);
        }
        check.due("constants of the face", constants, 4);
    }

    private static void insideClasses() {
        Set<String> names = new TreeSet<>();
        for (String line : FACE) {
            names.add(line.substring(line.indexOf(' ') + 1, line.indexOf('(')));
        }
        Class<?>[] inside = LateLines.class.getDeclaredClasses();
        check.due("twelve classes at most", inside.length < 12 ? 1 : 0, 1);
        for (Class<?> c : inside) {
            check.due(c.getName() + " is static", Modifier.isStatic(c.getModifiers()) ? 1 : 0, 1);
            check.due(c.getName() + " has twenty fields at most", c.getDeclaredFields().length <= 20 ? 1 : 0, 1);
            for (Method m : c.getDeclaredMethods()) {
                check.due(m.getName() + " bears no name of the face", names.contains(m.getName()) ? 1 : 0, 0);
                check.due(m.getName() + " has seven parameters at most", m.getParameterCount() <= 7 ? 1 : 0, 1);
            }
        }
    }

    private static void source(String text) {
        String code = text.replaceAll("(?s)/\\*.*?\\*/", " ").replaceAll("//[^\n]*", " ");
        for (String word : RULED_OUT) {
            Matcher m = Pattern.compile(word).matcher(code);
            check.due(word + " in the source", m.find() ? 1 : 0, 0);
        }
        for (int i = 0; i < text.length(); i++) {
            if (text.charAt(i) > 127) {
                check.due("the sign at " + i, text.charAt(i), 127);
            }
        }
        methodLengths(text);
        madeInConstructors(code);
    }

    /** All calls of a run live in one room: no call makes an object, constructors alone do. */
    private static void madeInConstructors(String code) {
        Pattern head = Pattern.compile("^\\s*(?:public|private) (?:(?!class|static final)[\\w\\[\\]<>]+ )*(\\w+)\\(.*\\{$");
        String method = "";
        for (String line : code.split("\n")) {
            Matcher m = head.matcher(line);
            method = m.matches() ? m.group(1) : method;
            boolean constructor = !method.isEmpty() && Character.isUpperCase(method.charAt(0));
            check.due("new in " + method, line.matches(".*\\bnew\\b.*") && !constructor ? 1 : 0, 0);
        }
        check.due("methods were seen, the last of them " + method, method.isEmpty() ? 1 : 0, 0);
    }

    private static void methodLengths(String text) {
        int depth = 0;
        int longest = 0;
        int[] since = new int[50];
        String[] lines = text.split("\n");
        for (int i = 0; i < lines.length; i++) {
            String line = lines[i].replaceAll("'.'", "").trim();
            if (line.startsWith("*") || line.startsWith("/*") || line.startsWith("//")) {
                continue;
            }
            for (int k = 0; k < line.length(); k++) {
                if (line.charAt(k) == '{') {
                    since[depth] = line.contains("class ") || line.contains("= {") ? Integer.MAX_VALUE : i;
                    depth++;
                } else if (line.charAt(k) == '}') {
                    depth--;
                    longest = since[depth] == Integer.MAX_VALUE ? longest : Math.max(longest, i - since[depth] + 1);
                }
            }
        }
        check.due("a method of " + longest + " lines", longest <= 60 && longest > 5 ? 1 : 0, 1);
    }
}
