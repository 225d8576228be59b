import java.lang.reflect.Method;
import java.lang.reflect.Modifier;
import java.nio.file.Files;
import java.nio.file.Path;
import java.util.List;
import java.util.regex.Matcher;
import java.util.regex.Pattern;

/** What README.md says of the calls: its examples are carried out line by line. */
public final class ReadmeTest {
    private static final Check check = new Check("readme");
    private static final Pattern CALL = Pattern.compile(
            "(Float\\.intBitsToFloat\\(|Double\\.longBitsToDouble\\()?x\\.(\\w+)\\(([^)]*)\\)\\)?;\\s*// (-?[0-9.]+)(?::.*)?");
    private static final Pattern TYPED = Pattern.compile("for \\(char c : \"([^\"]*)\"\\.toCharArray\\(\\)\\) x\\.type\\(c\\);");

    private static int examples;

    public static void main(String[] args) throws Exception {
        // The path of the program is given; README.md stands four steps above it.
        Path root = Path.of(args[0]).toAbsolutePath();
        for (int i = 0; i < 4; i++) {
            root = root.getParent();
        }
        String text = Files.readString(root.resolve("README.md"));
        examples(text);
        callsNamed(text);
        check.finish();
    }

    private static void examples(String text) throws Exception {
        LateLines x = null;
        boolean java = false;
        for (String line : text.split("\n")) {
            if (line.startsWith("```")) {
                java = line.equals("```java");
            } else if (java && line.equals("LateLines x = new LateLines();")) {
                x = new LateLines();
            } else if (java) {
                carryOut(line, x);
            }
        }
        check.due("examples were seen: " + examples, examples > 30 ? 1 : 0, 1);
    }

    private static void carryOut(String line, LateLines x) throws Exception {
        Matcher typed = TYPED.matcher(line);
        Matcher call = CALL.matcher(line);
        if (typed.matches()) {
            check.text(x, typed.group(1));
        } else if (call.matches()) {
            examples++;
            long got = answer(x, call.group(2), call.group(3));
            if (call.group(1) == null) {
                check.due(line, got, Long.parseLong(call.group(4)));
            } else if (call.group(1).startsWith("Float")) {
                check.due(line, got, Float.floatToIntBits(Float.parseFloat(call.group(4))));
            } else {
                check.due(line, got, Double.doubleToLongBits(Double.parseDouble(call.group(4))));
            }
        } else {
            check.due("could not read: " + line, 1, 0);
        }
    }

    private static long answer(LateLines x, String name, String shown) throws Exception {
        String[] parts = shown.isEmpty() ? new String[0] : shown.split(", *");
        Class<?>[] types = new Class<?>[parts.length];
        Object[] values = new Object[parts.length];
        for (int i = 0; i < parts.length; i++) {
            types[i] = int.class;
            values[i] = parts[i].startsWith("'") ? (int) parts[i].charAt(1) : Integer.parseInt(parts[i]);
        }
        return ((Number) LateLines.class.getMethod(name, types).invoke(x, values)).longValue();
    }

    private static void callsNamed(String text) {
        List<String> lines = List.of(text.split("\n"));
        for (Method m : LateLines.class.getDeclaredMethods()) {
            if (Modifier.isPublic(m.getModifiers())) {
                Pattern row = Pattern.compile("\\| `" + m.getName() + "\\(((\\w+(, )?)*)\\)` \\|.*");
                int parameters = -1;
                for (String line : lines) {
                    Matcher found = row.matcher(line);
                    if (found.matches()) {
                        parameters = found.group(1).isEmpty() ? 0 : found.group(1).split(", ").length;
                    }
                }
                check.due("parameters of " + m.getName() + " in README.md", parameters, m.getParameterCount());
            }
        }
    }
}
