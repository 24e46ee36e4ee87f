import java.io.IOException;
import java.lang.reflect.InvocationTargetException;
import java.lang.reflect.Method;
import java.nio.charset.StandardCharsets;
import java.nio.file.Files;
import java.nio.file.Path;
import java.util.Set;
import java.util.TreeSet;
import java.util.regex.Matcher;
import java.util.regex.Pattern;

/** README.md: its run of calls has the answers that stand there, and no call of the face is left out. */
public final class ReadmeTest {
    private static final Pattern CALL = Pattern.compile("x\\.(\\w+)\\(([^)]*)\\);\\s*// (throws )?([-\\w]+).*");
    private static int wrong = 0;

    private static void need(boolean good, String what) {
        if (!good) {
            wrong++;
            System.out.println(what);
        }
    }

    public static void main(String[] args) throws IOException, IllegalAccessException {
        String readme = Files.readString(Path.of("README.md"), StandardCharsets.UTF_8);
        String[] blocks = readme.split("```");
        need(blocks.length == 3 && blocks[1].startsWith("java\n"), "README.md has one run of calls in Java");
        int calls = blocks.length > 1 ? run(blocks[1]) : 0;
        need(calls >= 20, "the run has " + calls + " calls");
        for (Method m : LaughLine.class.getDeclaredMethods()) {
            boolean face = java.lang.reflect.Modifier.isPublic(m.getModifiers());
            need(!face || readme.contains("`" + m.getName() + "`"), "README.md doesn't name " + m.getName());
        }
        need(readme.contains("    bash .ci/run\n"), "README.md says how the tests are run");
        System.out.println("ReadmeTest: " + calls + " calls, " + wrong + " wrong");
        if (wrong != 0) {
            System.exit(1);
        }
    }

    private static int run(String block) throws IllegalAccessException {
        LaughLine x = null;
        StringBuilder tape = new StringBuilder();
        Set<String> texts = new TreeSet<>();
        int calls = 0;
        for (String line : block.split("\n")) {
            Matcher call = CALL.matcher(line);
            if (line.equals("LaughLine x = new LaughLine();")) {
                x = new LaughLine();
            } else if (call.matches() && x != null) {
                calls++;
                String[] numbers = call.group(2).isEmpty() ? new String[0] : call.group(2).split(", ");
                String due = (call.group(3) == null ? "" : "throws ") + call.group(4);
                String got = answer(x, call.group(1), numbers);
                need(got.equals(due), line + ": answered " + got);
                if (call.group(1).equals("feed")) {
                    for (String number : numbers) {
                        addBytes(tape, Integer.parseInt(number));
                    }
                }
            } else if (line.startsWith("// ")) {
                texts.add(line.substring(3));
            } else {
                need(line.isEmpty() || line.equals("java"), "no call with its answer: " + line);
            }
        }
        for (String text : texts) {
            need(tape.indexOf(text) >= 0, "the feeds don't bring: " + text);
        }
        return calls;
    }

    private static void addBytes(StringBuilder tape, int four) {
        for (int shift = 24; shift >= 0; shift -= 8) {
            tape.append((char) (four >>> shift & 255));
        }
    }

    private static String answer(LaughLine x, String name, String[] words) throws IllegalAccessException {
        for (Method m : LaughLine.class.getMethods()) {
            if (m.getName().equals(name) && m.getParameterCount() == words.length) {
                Object[] values = new Object[words.length];
                for (int i = 0; i < words.length; i++) {
                    values[i] = m.getParameterTypes()[i] == boolean.class ? (Object) Boolean.valueOf(words[i])
                        : (Object) Integer.valueOf(words[i]);
                }
                try {
                    return "" + m.invoke(x, values);
                } catch (InvocationTargetException e) {
                    return "throws " + e.getCause().getClass().getSimpleName();
                }
            }
        }
        return "no such call";
    }
}
