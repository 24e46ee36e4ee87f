import java.io.IOException;
import java.lang.reflect.Constructor;
import java.lang.reflect.Field;
import java.lang.reflect.Method;
import java.lang.reflect.Modifier;
import java.nio.charset.StandardCharsets;
import java.nio.file.Files;
import java.nio.file.Path;
import java.util.ArrayList;
import java.util.Arrays;
import java.util.List;
import java.util.Set;
import java.util.TreeSet;

/** The public face of the document, and those rules of LANGUAGE.md that can be seen from outside. */
public final class RuleTest {
    private static final String[] FACE = {
        "int feed(int, int, int, int, int)", "int text(int)", "int fault(int)", "int named(int, int)",
        "int rider(int, int) throws IndexOutOfBoundsException, NoSuchElementException", "int has(int, int)",
        "int joke(int, int)", "int heard(int, int)", "int told(int, int)", "int seen(int)", "long law(int, int, int)",
        "boolean ears(int, boolean)", "boolean seat(int, int)", "boolean tell(int, int, boolean)", "int go(int)",
        "int ahead(int, int)", "int getsOut(int)", "int nextHalt()", "int when(int, int)", "int both(int, int, int)",
        "int seating(int)", "int stopped(int)", "int rests(int, int)", "int rest(int, int, int)", "int likely(int, int)",
        "int solemn()", "int late(int)", "int note(int, int, boolean)", "int out(int)", "boolean known(int)",
        "int dulls(int)", "int chance(int, int, int, int)", "int tried(int, int, int)", "int undo()", "int keep()",
        "int back()", "int count(int)"};
    private static int wrong = 0;

    private static void need(boolean good, String what) {
        if (!good) {
            wrong++;
            System.out.println(what);
        }
    }

    public static void main(String[] args) throws IOException {
        face();
        for (Class<?> c : classes()) {
            members(c);
        }
        source(Files.readString(Path.of(args.length > 0 ? args[0] : "src/main/java/LaughLine.java"), StandardCharsets.ISO_8859_1));
        room();
        anyArguments();
        System.out.println("RuleTest: " + wrong + " wrong");
        if (wrong != 0) {
            System.exit(1);
        }
    }

    private static List<Class<?>> classes() {
        List<Class<?>> all = new ArrayList<>(List.of(LaughLine.class));
        all.addAll(Arrays.asList(LaughLine.class.getDeclaredClasses()));
        need(all.size() <= 12, "rule 11: " + all.size() + " classes");
        return all;
    }

    private static String signature(Method m) {
        StringBuilder b = new StringBuilder(m.getReturnType().getSimpleName()).append(' ').append(m.getName()).append('(');
        for (int i = 0; i < m.getParameterCount(); i++) {
            b.append(i > 0 ? ", " : "").append(m.getParameterTypes()[i].getSimpleName());
        }
        b.append(')');
        for (int i = 0; i < m.getExceptionTypes().length; i++) {
            b.append(i > 0 ? ", " : " throws ").append(m.getExceptionTypes()[i].getSimpleName());
        }
        return b.toString();
    }

    private static void face() {
        Set<String> want = new TreeSet<>(List.of(FACE));
        Set<String> got = new TreeSet<>();
        for (Method m : LaughLine.class.getDeclaredMethods()) {
            if (!Modifier.isPrivate(m.getModifiers())) {
                need(Modifier.isPublic(m.getModifiers()) && !Modifier.isStatic(m.getModifiers()), "rule 1: " + m);
                got.add(signature(m));
            }
        }
        need(got.equals(want), "rule 1: the face is " + got + ", due is " + want);
        Constructor<?>[] constructors = LaughLine.class.getDeclaredConstructors();
        need(constructors.length == 1 && Modifier.isPublic(constructors[0].getModifiers())
            && constructors[0].getParameterCount() == 0, "rule 1: the constructor");
        for (Field f : LaughLine.class.getDeclaredFields()) {
            need(Modifier.isPrivate(f.getModifiers()) || f.getName().equals("NONE"), "rule 1: " + f);
        }
        int modifiers = LaughLine.class.getModifiers();
        need(Modifier.isPublic(modifiers) && Modifier.isFinal(modifiers), "rule 1: public and final");
    }

    private static void members(Class<?> c) {
        int fields = 0;
        for (Field f : c.getDeclaredFields()) {
            if (Modifier.isStatic(f.getModifiers())) {
                need(Modifier.isFinal(f.getModifiers()), "rule 5: " + f);
            } else {
                fields++;
            }
        }
        need(fields <= 21, "rule 11: " + c + " has " + fields + " fields");
        Set<String> face = new TreeSet<>();
        for (Method m : LaughLine.class.getDeclaredMethods()) {
            if (Modifier.isPublic(m.getModifiers())) {
                face.add(m.getName());
            }
        }
        for (Method m : c.getDeclaredMethods()) {
            need(m.getParameterCount() <= 7, "rule 11: " + m);
            need(Modifier.isPublic(m.getModifiers()) || !face.contains(m.getName()), "rule 1: a name of the face: " + m);
        }
        if (c != LaughLine.class) {
            need(Modifier.isStatic(c.getModifiers()) && !Modifier.isPublic(c.getModifiers()), "rule 1: " + c);
        }
    }

    private static void source(String text) {
        String code = text.replaceAll("(?s)/\\*.*?\\*/", "").replaceAll("//[^\n]*", "");
        for (String word : new String[] {"->", "::", "null", "Exact", "catch", "finally", "synchronized", "assert", "instanceof",
            "System.", "Thread", "Random", "Object", "double", "float", "package "}) {
            need(!code.contains(word), "there is " + word + " in the program");
        }
        for (char sign : text.toCharArray()) {
            need(sign < 127 && (sign >= 32 || sign == 10), "a sign " + (int) sign);
        }
        int imports = code.split("\nimport |^import ", -1).length - 1;
        need(imports == 1 && code.contains("import java.util.NoSuchElementException;"), "rule 4: imports");
        methodLengths(text.split("\n"));
    }

    /** A method ends at the next '}' that stands as far in as its first line. */
    private static void methodLengths(String[] lines) {
        int methods = 0;
        for (int i = 0; i < lines.length; i++) {
            boolean begins = lines[i].matches(" {4}( {4})?[a-zA-Z].*\\(.*\\) (throws .*)?\\{")
                && !lines[i].matches(" *(if|for|while|switch|do|else) .*");
            if (begins) {
                String end = lines[i].replaceAll("[^ ].*", "") + "}";
                int length = 1;
                while (i + length < lines.length && !lines[i + length].equals(end)) {
                    length++;
                }
                methods++;
                need(length < 60, "rule 11: " + (length + 1) + " lines: " + lines[i]);
            }
        }
        need(methods > LaughLine.class.getDeclaredMethods().length, "rule 11: " + methods + " methods were found");
    }

    /** What many calls make is counted: nothing stays, nothing is made. */
    private static void room() {
        LaughLine x = new LaughLine();
        String text = "line 20;rider a 3 9 0 0;rider b 5 9 1 0;rider c 7 9 2 0;joke j 30 0;joke k 20 1;tell j 3;law calm 2+halts;";
        com.sun.management.ThreadMXBean bean =
            (com.sun.management.ThreadMXBean) java.lang.management.ManagementFactory.getThreadMXBean();
        long id = Thread.currentThread().getId();
        asks(x);
        bean.getThreadAllocatedBytes(id);
        long before = bean.getThreadAllocatedBytes(id);
        for (int i = 0; i < text.length(); i += 20) {
            x.feed(word(text, i), word(text, i + 4), word(text, i + 8), word(text, i + 12), word(text, i + 16));
        }
        int lines = x.text(text.length());
        for (int i = 0; i < 10; i++) {
            asks(x);
        }
        long made = bean.getThreadAllocatedBytes(id) - before;
        need(lines == 8, "the text has " + lines + " lines");
        need(made < 4096, "calls made " + made + " bytes of objects");
    }

    /** Rule 7: nothing but rider's two exceptions, whatever is asked in whatever state. */
    private static void anyArguments() {
        int[] edges = {Integer.MIN_VALUE, -2, -1, 0, 0, 0, 1, 1, 2, 3, 4, 5, 6, 7, 9, 10, 23, 24, 25, 59, 60, 61, 62, 63, 64, 99, 100,
            700, 701, Integer.MAX_VALUE};
        String[] texts = {"", "line 1;rider a 1 0 9 3;joke j 99 3;law mirth 0-9999;law laugh 1;law calm 1/mood;",
            "line 60;rider a 0 0 0 0;rider b 60 99 9 3;rider c 60 1 1 1;rider d 3 1 2 1;rider e 5 1 3 1;rider f 6 1 4 1;"
            + "joke a 9 0;joke b 9 1;joke c 9 2;joke d 9 3;joke e 99 0;joke f 99 1;law mirth 99;near 9;"};
        java.util.Random random = new java.util.Random(11);
        Method[] methods = LaughLine.class.getMethods();
        Arrays.sort(methods, java.util.Comparator.comparing(Method::getName));
        for (int run = 0; run < 60; run++) {
            LaughLine x = new LaughLine();
            String text = texts[run % texts.length];
            for (int i = 0; i < text.length(); i += 20) {
                x.feed(word(text, i), word(text, i + 4), word(text, i + 8), word(text, i + 12), word(text, i + 16));
            }
            x.text(text.length());
            for (int call = 0; call < 450; call++) {
                Method m = methods[random.nextInt(methods.length)];
                Object[] v = new Object[m.getParameterCount()];
                for (int i = 0; i < v.length; i++) {
                    v[i] = m.getParameterTypes()[i] == boolean.class ? (Object) random.nextBoolean()
                        : (Object) edges[random.nextInt(edges.length)];
                }
                if (m.getDeclaringClass() == LaughLine.class && !m.getName().equals("text")) {
                    ask(x, m, v);
                }
            }
        }
    }

    private static void ask(LaughLine x, Method m, Object[] v) {
        try {
            m.invoke(x, v);
        } catch (java.lang.reflect.InvocationTargetException e) {
            Class<?> c = e.getCause().getClass();
            boolean due = c == IndexOutOfBoundsException.class || c == java.util.NoSuchElementException.class;
            need(m.getName().equals("rider") && due, "rule 6: " + m + Arrays.toString(v) + " threw " + e.getCause());
        } catch (IllegalAccessException e) {
            need(false, "rule 1: " + m);
        }
    }

    private static int word(String text, int at) {
        int v = 0;
        for (int i = at; i < at + 4; i++) {
            v = v << 8 | (i < text.length() ? text.charAt(i) : ' ');
        }
        return v;
    }

    private static void asks(LaughLine x) {
        x.go(5);
        x.ears(0, true);
        x.seat(1, 4);
        x.tell(0, 5, true);
        x.undo();
        x.keep();
        x.note(0, 3, true);
        x.out(0);
        x.dulls(0);
        x.when(0, 0);
        x.both(0, 1, 0);
        x.seating(4);
        x.stopped(1);
        x.rests(0, 1);
        x.rest(0, 1, 0);
        x.likely(0, 0);
        x.solemn();
        x.late(0);
        x.chance(5, 50, 0, 1);
        x.tried(1, 0, 50);
        x.ahead(50, 1);
        x.getsOut(0);
        x.nextHalt();
        x.law(2, 0, 0);
        x.back();
        x.named(0, 5);
        x.count(2);
    }
}
