import java.util.ArrayList;
import java.util.HashMap;
import java.util.List;
import java.util.Map;
import java.util.NoSuchElementException;
import java.util.Random;
import java.util.TreeMap;

/** Random texts and calls, answered by LaughLine and by a plain model that is written apart from it. */
public final class ModelTest {
    private static int wrong = 0;

    public static void main(String[] args) {
        int runs = args.length > 1 ? Integer.parseInt(args[1]) : 1000;
        Map<String, Integer> asked = new TreeMap<>();
        for (int run = 0; run < runs && wrong < 20; run++) {
            new Run(run, asked).go();
        }
        for (int run = 0; run < 10 * runs && wrong < 20; run++) {
            new Run(runs + run, asked).spoiled();
        }
        for (String name : Run.CALLS) {
            if (!asked.containsKey(name)) {
                wrong++;
                System.out.println("never asked: " + name);
            }
        }
        System.out.println("ModelTest: " + runs + " runs, " + wrong + " wrong");
        if (wrong != 0) {
            System.exit(1);
        }
    }

    // ---- one run of random calls

    private static final class Run {
        static final String[] CALLS = {
            "feed", "text", "fault", "named", "rider", "has", "joke", "heard", "told", "seen", "law", "ears", "seat",
            "tell", "go", "ahead", "getsOut", "nextHalt", "when", "both", "seating", "stopped", "rests", "rest",
            "likely", "solemn", "late", "note", "out", "known", "dulls", "chance", "tried", "undo", "keep", "back",
            "count"};
        static final String[] CHANGES = {"ears", "seat", "tell", "ears", "seat", "tell", "ears", "seat", "tell", "undo", "told",
            "count", "solemn"};
        static final String[] NOTES = {"note", "note", "out", "out", "known", "dulls", "note", "out"};
        final Random random;
        final LaughLine real = new LaughLine();
        final Model model = new Model();
        final Map<String, Integer> asked;
        final List<String> log = new ArrayList<>();
        final int run;

        Run(int run, Map<String, Integer> asked) {
            this.run = run;
            this.asked = asked;
            this.random = new Random(run * 7919L + 5);
        }

        void go() {
            int texts = 1 + random.nextInt(3);
            int calls = 0;
            for (int t = 0; t < texts; t++) {
                String text = new Texts(random).make();
                if (text.length() > 700) {
                    continue;
                }
                calls += load(text);
                int more = 60 + random.nextInt(60);
                for (int c = 0; c < more && calls < 500; c++, calls++) {
                    one(CALLS[random.nextInt(CALLS.length)]);
                }
                if (random.nextInt(4) == 0) {
                    String[] some = random.nextBoolean() ? CHANGES : NOTES;
                    for (int c = 0; c < 40 && calls < 500; c++, calls++) {
                        one(some[random.nextInt(some.length)]);
                    }
                }
            }
        }

        /** Texts alone, most of them with faults. */
        void spoiled() {
            for (int t = 0; t < 5; t++) {
                String text = new Texts(random).makeSpoiled();
                if (text.length() <= 700) {
                    load(text);
                    call("count", 5);
                }
            }
        }

        int load(String text) {
            byte[] bytes = new byte[(text.length() + 19) / 20 * 20];
            for (int i = 0; i < bytes.length; i++) {
                bytes[i] = i < text.length() ? (byte) text.charAt(i) : 32;
            }
            // what was left on the tape goes first
            call("text", 0);
            for (int i = 0; i < bytes.length; i += 20) {
                int[] v = new int[5];
                for (int k = 0; k < 20; k++) {
                    v[k / 4] = v[k / 4] << 8 | (bytes[i + k] & 255);
                }
                call("feed", v);
            }
            log.add("text is: " + text);
            call("text", text.length());
            call("fault", 0);
            call("fault", 1);
            return bytes.length / 20 + 4;
        }

        int rider() {
            return random.nextInt(12) == 0 ? random.nextInt(10) - 2 : random.nextInt(Math.max(1, model.riders.size()));
        }

        int joke() {
            return random.nextInt(12) == 0 ? random.nextInt(10) - 2 : random.nextInt(Math.max(1, model.jokes.size()));
        }

        int mile() {
            return random.nextInt(10) == 0 ? random.nextInt(66) - 3 : random.nextInt(model.last + 1);
        }

        int miles() {
            return random.nextInt(12) == 0 ? random.nextInt(130) - 10 : random.nextInt(40);
        }

        int up(int to) {
            return random.nextInt(15) == 0 ? random.nextInt(to + 6) - 3 : random.nextInt(to);
        }

        void one(String name) {
            int bit = random.nextInt(2);
            switch (name) {
                case "feed":
                    if (random.nextInt(3) == 0) {
                        call(name, random.nextInt(), random.nextInt(), random.nextInt(), random.nextInt(), random.nextInt());
                    }
                    break;
                case "text":
                    if (random.nextInt(6) == 0) {
                        call(name, random.nextInt(8) == 0 ? 0 : random.nextInt(30) * 2 - 5);
                    }
                    break;
                case "fault": call(name, up(2)); break;
                case "named": call(name, up(2), random.nextInt(4) == 0 ? random.nextInt() : Model.pack(new Texts(random).name())); break;
                case "rider": call(name, rider(), up(8)); break;
                case "has": case "joke": call(name, rider(), up(3)); break;
                case "heard": call(name, rider(), joke()); break;
                case "told": call(name, joke(), mile()); break;
                case "seen": call(name, mile()); break;
                case "law": call(name, up(3), rider(), joke()); break;
                case "ears": call(name, rider(), bit); break;
                case "seat": call(name, rider(), up(10)); break;
                case "tell": call(name, joke(), mile(), bit); break;
                case "go": call(name, random.nextInt(3) == 0 ? miles() : random.nextInt(6)); break;
                case "ahead": call(name, miles(), up(5)); break;
                case "getsOut": case "stopped": case "late": case "dulls": call(name, rider()); break;
                case "nextHalt": case "solemn": case "undo": case "keep": case "back": call(name); break;
                case "when": call(name, joke(), up(2)); break;
                case "both": call(name, joke(), joke(), up(3)); break;
                case "seating": call(name, up(5)); break;
                case "rests": call(name, joke(), joke()); break;
                case "rest": call(name, joke(), joke(), up(6)); break;
                case "likely": call(name, rider(), up(2)); break;
                case "note":
                    int who = rider();
                    call(name, who, random.nextInt(3) == 0 ? mile() : model.firstOut(who), random.nextInt(4) == 0 ? 0 : 1);
                    break;
                case "out": call(name, up(Math.max(1, model.notes.size()))); break;
                case "known": call(name, random.nextInt(4) == 0 ? -1 : up(1 + model.notes.size())); break;
                case "chance": call(name, random.nextInt(12) == 0 ? -1 : random.nextInt() >>> 1, miles(), rider(), up(3)); break;
                case "tried":
                    int what = up(6);
                    call(name, what, what == 2 ? rider() : random.nextInt(15) / 14, miles());
                    break;
                default: call("count", up(17)); break;
            }
        }

        void call(String name, int... v) {
            asked.merge(name, 1, Integer::sum);
            String words = name + java.util.Arrays.toString(v);
            String got = real(name, v);
            String want = model.answer(name, v);
            log.add(words + " -> " + got);
            if (!got.equals(want)) {
                wrong++;
                System.out.println("run " + run + ": " + words + " answered " + got + ", due is " + want);
                if (wrong == 1) {
                    log.forEach(System.out::println);
                }
            }
        }

        String real(String name, int[] v) {
            LaughLine x = real;
            switch (name) {
                case "feed": return "" + x.feed(v[0], v[1], v[2], v[3], v[4]);
                case "text": return "" + x.text(v[0]);
                case "fault": return "" + x.fault(v[0]);
                case "named": return "" + x.named(v[0], v[1]);
                case "rider":
                    try {
                        return "" + x.rider(v[0], v[1]);
                    } catch (IndexOutOfBoundsException e) {
                        return e.getClass() == IndexOutOfBoundsException.class ? "no rider" : "" + e;
                    } catch (NoSuchElementException e) {
                        return "no what";
                    }
                case "has": return "" + x.has(v[0], v[1]);
                case "joke": return "" + x.joke(v[0], v[1]);
                case "heard": return "" + x.heard(v[0], v[1]);
                case "told": return "" + x.told(v[0], v[1]);
                case "seen": return "" + x.seen(v[0]);
                case "law": return "" + x.law(v[0], v[1], v[2]);
                case "ears": return "" + x.ears(v[0], v[1] == 1);
                case "seat": return "" + x.seat(v[0], v[1]);
                case "tell": return "" + x.tell(v[0], v[1], v[2] == 1);
                case "go": return "" + x.go(v[0]);
                case "ahead": return "" + x.ahead(v[0], v[1]);
                case "getsOut": return "" + x.getsOut(v[0]);
                case "nextHalt": return "" + x.nextHalt();
                case "when": return "" + x.when(v[0], v[1]);
                case "both": return "" + x.both(v[0], v[1], v[2]);
                case "seating": return "" + x.seating(v[0]);
                case "stopped": return "" + x.stopped(v[0]);
                case "rests": return "" + x.rests(v[0], v[1]);
                case "rest": return "" + x.rest(v[0], v[1], v[2]);
                case "likely": return "" + x.likely(v[0], v[1]);
                case "solemn": return "" + x.solemn();
                case "late": return "" + x.late(v[0]);
                case "note": return "" + x.note(v[0], v[1], v[2] == 1);
                case "out": return "" + x.out(v[0]);
                case "known": return "" + x.known(v[0]);
                case "dulls": return "" + x.dulls(v[0]);
                case "chance": return "" + x.chance(v[0], v[1], v[2], v[3]);
                case "tried": return "" + x.tried(v[0], v[1], v[2]);
                case "undo": return "" + x.undo();
                case "keep": return "" + x.keep();
                case "back": return "" + x.back();
                default: return "" + x.count(v[0]);
            }
        }
    }

    // ---- random texts, some of them with faults

    private static final class Texts {
        static final String[] NAMES = {"a", "bo", "cy", "ann", "dora", "eve", "fritzi", "g", "pun", "pie"};
        static final String[] WORDS = {"line", "rider", "joke", "tell", "sight", "tunnel", "near", "seed", "law", "mirth",
            "laugh", "calm", "or", "and", "not", "fun", "likes", "heard", "mood", "dull", "halts", "mile", "toolong", "ab",
            "12", "0", "7", "100000", "10000", "9999", "(", ")", "<", "=", ">", "<=", ">=", "<>", "+", "-", "*", "/", ";",
            ";", "!", "A", "\t", "\u00e9", " ", "\n"};
        final Random random;

        Texts(Random random) {
            this.random = random;
        }

        String name() {
            return NAMES[random.nextInt(NAMES.length)];
        }

        /** Lines told twice, elsewhere, not at all; numbers beyond; tokens put in, changed, left out. */
        String makeSpoiled() {
            List<String> lines = new ArrayList<>(List.of(make().split("(?<=;)")));
            for (int i = random.nextInt(6); i > 0; i--) {
                int at = random.nextInt(lines.size());
                String line = lines.get(random.nextInt(lines.size()));
                switch (random.nextInt(5)) {
                    case 0: lines.add(at, line); break;
                    case 1: lines.set(at, line); break;
                    case 2: lines.add(lines.remove(at)); break;
                    case 3: lines.set(at, line.replaceFirst(" [0-9]+", " " + random.nextInt(random.nextBoolean() ? 120 : 12000))); break;
                    default: lines.set(at, line.replaceFirst("[0-9a-z]+;", brackets() + ";")); break;
                }
            }
            String text = String.join("", lines);
            int at = random.nextInt(text.length() + 1);
            return random.nextInt(3) > 0 ? text : text.substring(0, at) + WORDS[random.nextInt(WORDS.length)] + text.substring(at);
        }

        String brackets() {
            int open = random.nextInt(11);
            StringBuilder b = new StringBuilder("(".repeat(open));
            b.append(random.nextBoolean() ? "not ".repeat(random.nextInt(4)) : "").append(random.nextInt(9));
            b.append("+1".repeat(random.nextInt(random.nextBoolean() ? 5 : 35))).append(")".repeat(open));
            return b.toString();
        }

        String make() {
            List<String> t = new ArrayList<>();
            int last = random.nextInt(3) == 0 ? 1 + random.nextInt(4) : 1 + random.nextInt(20);
            add(t, "line", "" + last, ";");
            int riders = random.nextInt(9) == 0 ? 0 : 1 + random.nextInt(6);
            for (int r = 0; r < riders; r++) {
                add(t, "rider", NAMES[r], "" + random.nextInt(last + 3), "" + random.nextInt(random.nextBoolean() ? 30 : 70),
                    "" + random.nextInt(random.nextBoolean() ? 4 : 10), "" + random.nextInt(4), ";");
            }
            int jokes = random.nextInt(9) == 0 ? 0 : 1 + random.nextInt(6);
            for (int j = 0; j < jokes; j++) {
                add(t, "joke", NAMES[9 - j], "" + random.nextInt(random.nextBoolean() ? 30 : 100), "" + random.nextInt(4), ";");
            }
            List<String> tellings = new ArrayList<>();
            for (int i = random.nextInt(9); i > 0 && jokes > 0; i--) {
                String joke = NAMES[9 - random.nextInt(jokes)];
                int mile = random.nextInt(Math.min(61, last + 2));
                if (!tellings.contains(joke + mile)) {
                    tellings.add(joke + mile);
                    add(t, "tell", joke, "" + mile, ";");
                }
            }
            for (int i = random.nextInt(4); i > 0; i--) {
                add(t, "sight", "" + random.nextInt(last + 2), "" + random.nextInt(100), ";");
            }
            for (int i = random.nextInt(3); i > 0; i--) {
                int from = random.nextInt(last + 1);
                add(t, "tunnel", "" + from, "" + (from + random.nextInt(4)), ";");
            }
            if (random.nextBoolean()) {
                add(t, "near", "" + random.nextInt(random.nextBoolean() ? 3 : 10), ";");
            }
            if (random.nextInt(4) == 0) {
                add(t, "seed", "" + random.nextInt(100000), ";");
            }
            for (String rule : new String[] {"mirth", "laugh", "calm"}) {
                if (random.nextInt(3) == 0) {
                    add(t, "law", rule);
                    expression(t, random.nextInt(4));
                    t.add(";");
                }
            }
            if (random.nextInt(6) == 0) {
                spoil(t);
            }
            return join(t);
        }

        void add(List<String> t, String... words) {
            t.addAll(List.of(words));
        }

        void spoil(List<String> t) {
            for (int i = random.nextInt(3); i >= 0 && t.size() > 1; i--) {
                int at = random.nextInt(t.size());
                String word = WORDS[random.nextInt(WORDS.length)];
                switch (random.nextInt(4)) {
                    case 0: t.remove(at); break;
                    case 1: t.set(at, word); break;
                    case 2: t.add(at, word); break;
                    default: t.subList(at, t.size()).clear(); break;
                }
            }
        }

        String join(List<String> t) {
            StringBuilder b = new StringBuilder();
            for (String word : t) {
                boolean letters = b.length() > 0 && Character.isLetterOrDigit(b.charAt(b.length() - 1))
                    && Character.isLetterOrDigit(word.charAt(0));
                b.append(letters || random.nextInt(8) == 0 ? random.nextInt(9) == 0 ? "\n " : " " : "").append(word);
            }
            return b.toString();
        }

        void expression(List<String> t, int depth) {
            int pick = depth <= 0 ? random.nextInt(2) : 2 + random.nextInt(9);
            String[] names = {"fun", "likes", "heard", "mood", "dull", "halts", "mile"};
            if (pick == 0) {
                t.add("" + random.nextInt(random.nextInt(4) == 0 ? 10000 : 12));
            } else if (pick == 1) {
                t.add(names[random.nextInt(7)]);
            } else if (pick == 2) {
                if (random.nextInt(3) > 0) {
                    t.add("(");
                    t.add("not");
                    expression(t, depth - 1);
                    t.add(")");
                } else {
                    t.add("not");
                    expression(t, depth - 1);
                }
            } else if (pick == 3) {
                t.add("(");
                expression(t, depth - 1);
                t.add(")");
            } else {
                String[] signs = {"+", "-", "*", "/", "<", "<=", "=", "<>", ">=", ">", "and", "or", "+", "-", "*", "*"};
                String sign = signs[random.nextInt(signs.length)];
                boolean bare = random.nextInt(3) > 0;
                side(t, bare ? 0 : depth - 1);
                t.add(sign);
                side(t, bare ? 0 : depth - 1);
            }
        }

        void side(List<String> t, int depth) {
            if (depth <= 0) {
                expression(t, 0);
                if (random.nextInt(4) == 0) {
                    t.add(random.nextBoolean() ? "*" : "/");
                    expression(t, 0);
                }
            } else {
                t.add("(");
                expression(t, depth);
                t.add(")");
            }
        }
    }

    // ---- the model

    private static final class Fault extends RuntimeException {
        private static final long serialVersionUID = 1;
        final int kind;
        final int place;

        Fault(int kind, int place) {
            this.kind = kind;
            this.place = place;
        }
    }

    private static final class Token {
        final String word;
        final int place;

        Token(String word, int place) {
            this.word = word;
            this.place = place;
        }

        boolean isNumber() {
            return !word.isEmpty() && Character.isDigit(word.charAt(0));
        }
    }

    /** A knot with its parts. */
    private static final class Knot {
        final String sign;
        final Knot left;
        final Knot right;

        Knot(String sign, Knot left, Knot right) {
            this.sign = sign;
            this.left = left;
            this.right = right;
        }

        /** null: an error. */
        Long value(Map<String, Long> names) {
            if (left == null) {
                return Character.isDigit(sign.charAt(0)) ? Long.valueOf(sign) : names.get(sign);
            }
            Long a = left.value(names);
            Long b = right == null ? Long.valueOf(0) : right.value(names);
            if (a == null || b == null) {
                return null;
            }
            java.math.BigInteger x = java.math.BigInteger.valueOf(a);
            java.math.BigInteger y = java.math.BigInteger.valueOf(b);
            int c = Long.compare(a, b);
            java.math.BigInteger v;
            switch (sign) {
                case "+": v = x.add(y); break;
                case "-": v = x.subtract(y); break;
                case "*": v = x.multiply(y); break;
                case "/":
                    if (b == 0) {
                        return null;
                    }
                    v = x.divide(y);
                    break;
                case "<": return c < 0 ? 1L : 0L;
                case "<=": return c <= 0 ? 1L : 0L;
                case "=": return c == 0 ? 1L : 0L;
                case "<>": return c != 0 ? 1L : 0L;
                case ">=": return c >= 0 ? 1L : 0L;
                case ">": return c > 0 ? 1L : 0L;
                case "and": return a != 0 && b != 0 ? 1L : 0L;
                case "or": return a != 0 || b != 0 ? 1L : 0L;
                default: return a == 0 ? 1L : 0L;
            }
            return v.abs().compareTo(java.math.BigInteger.valueOf(1000000000000L)) > 0 ? null : Long.valueOf(v.longValue());
        }
    }

    private static final class Parser {
        static final List<String> LANGUAGE = List.of("line", "rider", "joke", "tell", "sight", "tunnel", "near", "seed", "law",
            "mirth", "laugh", "calm", "or", "and", "not", "fun", "likes", "heard", "mood", "dull", "halts", "mile");
        final List<Token> tokens = new ArrayList<>();
        int at = 0;
        int knots = 0;
        int open = 0;
        int lines = 0;
        final Map<String, List<int[]>> told = new HashMap<>();
        final Map<String, Knot> laws = new HashMap<>();
        final Map<String, List<String>> names = new HashMap<>();

        Parser(String text) {
            int i = 0;
            while (i < text.length()) {
                char c = text.charAt(i);
                int from = i;
                if (c == 10 || c == 32) {
                    i++;
                    continue;
                }
                boolean letter = c >= 'a' && c <= 'z';
                boolean digit = c >= '0' && c <= '9';
                i++;
                while (i < text.length() && (letter && text.substring(i, i + 1).matches("[a-z]")
                    || digit && text.substring(i, i + 1).matches("[0-9]"))) {
                    i++;
                }
                if (!letter && !digit && i < text.length()
                    && List.of("<=", "<>", ">=").contains(text.substring(from, i + 1))) {
                    i++;
                }
                tokens.add(new Token(text.substring(from, i), from));
            }
            tokens.add(new Token("", text.length()));
            for (String kind : LANGUAGE.subList(0, 8)) {
                told.put(kind, new ArrayList<>());
                names.put(kind, new ArrayList<>());
            }
        }

        Token peek() {
            return tokens.get(at);
        }

        void need(boolean good, int kind) {
            if (!good) {
                throw new Fault(kind, peek().place);
            }
        }

        boolean takes(String... words) {
            if (List.of(words).contains(peek().word)) {
                at++;
                return true;
            }
            return false;
        }

        int number(int least, int most) {
            need(peek().isNumber(), 1);
            java.math.BigInteger v = new java.math.BigInteger(peek().word);
            need(v.bitLength() < 31 && v.intValue() >= least && v.intValue() <= most, 2);
            at++;
            return v.intValue();
        }

        String name() {
            String word = peek().word;
            need(word.matches("[a-z]{1,6}") && !LANGUAGE.contains(word), 1);
            return word;
        }

        void text() {
            while (!peek().word.isEmpty()) {
                line();
                need(peek().word.equals(";"), 1);
                at++;
                lines++;
            }
        }

        void line() {
            String kind = peek().word;
            if (kind.equals("law")) {
                at++;
                law();
                return;
            }
            need(told.containsKey(kind), 1);
            List<int[]> rows = told.get(kind);
            Map<String, Integer> most = Map.of("rider", 6, "joke", 6, "tell", 8, "sight", 5, "tunnel", 3);
            need(!most.containsKey(kind) || rows.size() < most.get(kind), 2);
            need(most.containsKey(kind) || rows.isEmpty(), 3);
            at++;
            switch (kind) {
                case "line": rows.add(new int[] {number(1, 60)}); break;
                case "near": rows.add(new int[] {number(0, 9)}); break;
                case "seed": rows.add(new int[] {number(0, 99999)}); break;
                case "rider":
                    newName(kind);
                    rows.add(new int[] {number(0, 60), number(0, 99), number(0, 9), number(0, 3)});
                    break;
                case "joke":
                    newName(kind);
                    rows.add(new int[] {number(0, 99), number(0, 3)});
                    break;
                case "sight": rows.add(new int[] {number(0, 60), number(0, 99)}); break;
                case "tunnel":
                    int from = number(0, 60);
                    rows.add(new int[] {from, number(from, 60)});
                    break;
                default:
                    int joke = names.get("joke").indexOf(name());
                    need(joke >= 0, 4);
                    at++;
                    int mile = number(0, 60);
                    at--;
                    for (int[] row : rows) {
                        need(row[0] != joke || row[1] != mile, 3);
                    }
                    at++;
                    rows.add(new int[] {joke, mile});
                    break;
            }
        }

        void newName(String kind) {
            String name = name();
            need(!names.get(kind).contains(name), 3);
            at++;
            names.get(kind).add(name);
        }

        void law() {
            String rule = peek().word;
            need(List.of("mirth", "laugh", "calm").contains(rule), 1);
            need(!laws.containsKey(rule), 3);
            at++;
            laws.put(rule, any());
        }

        /** The token stands: it is a knot. */
        String knot() {
            need(++knots <= 64, 2);
            return tokens.get(at++).word;
        }

        boolean is(String... words) {
            return List.of(words).contains(peek().word);
        }

        Knot any() {
            Knot k = all();
            while (is("or")) {
                k = new Knot(knot(), k, all());
            }
            return k;
        }

        Knot all() {
            Knot k = negation();
            while (is("and")) {
                k = new Knot(knot(), k, negation());
            }
            return k;
        }

        Knot negation() {
            if (is("not")) {
                return new Knot(knot(), negation(), null);
            }
            Knot k = sum();
            return is("<", "<=", "=", "<>", ">=", ">") ? new Knot(knot(), k, sum()) : k;
        }

        Knot sum() {
            Knot k = term();
            while (is("+", "-")) {
                k = new Knot(knot(), k, term());
            }
            return k;
        }

        Knot term() {
            Knot k = part();
            while (is("*", "/")) {
                k = new Knot(knot(), k, part());
            }
            return k;
        }

        Knot part() {
            if (is("(")) {
                need(++open <= 8, 2);
                at++;
                Knot k = any();
                need(is(")"), 1);
                at++;
                open--;
                return k;
            }
            if (peek().isNumber()) {
                int n = number(0, 9999);
                at--;
                knot();
                return new Knot("" + n, null, null);
            }
            need(LANGUAGE.indexOf(peek().word) >= 15, 1);
            return new Knot(knot(), null, null);
        }
    }

    /** What changes on the way. */
    private static final class State {
        int day;
        int mile;
        int minutes;
        int halts;
        int dayHalts;
        int laughs;
        int alights;
        int passes;
        int[] mood = new int[6];
        boolean[] aboard = new boolean[6];
        boolean[] deaf = new boolean[6];
        int[] seat = new int[6];
        int[] dull = new int[6];
        int[] out = new int[6];
        int[] alighted = new int[6];
        int[] laughed = new int[6];
        int[] passed = new int[6];
        int[][] heard = new int[6][6];
        boolean[][] told = new boolean[6][61];

        State copy() {
            State s = new State();
            s.day = day;
            s.mile = mile;
            s.minutes = minutes;
            s.halts = halts;
            s.dayHalts = dayHalts;
            s.laughs = laughs;
            s.alights = alights;
            s.passes = passes;
            s.mood = mood.clone();
            s.aboard = aboard.clone();
            s.deaf = deaf.clone();
            s.seat = seat.clone();
            s.dull = dull.clone();
            s.out = out.clone();
            s.alighted = alighted.clone();
            s.laughed = laughed.clone();
            s.passed = passed.clone();
            for (int i = 0; i < 6; i++) {
                s.heard[i] = heard[i].clone();
                s.told[i] = told[i].clone();
            }
            return s;
        }
    }

    private static final class Model {
        List<int[]> riders = new ArrayList<>();
        List<int[]> jokes = new ArrayList<>();
        List<int[]> tells = new ArrayList<>();
        List<int[]> sights = new ArrayList<>();
        List<int[]> tunnels = new ArrayList<>();
        Map<String, Knot> laws = new HashMap<>();
        List<String> riderNames = new ArrayList<>();
        List<String> jokeNames = new ArrayList<>();
        int knots = 0;
        int last = 30;
        int near = 1;
        StringBuilder tape = new StringBuilder();
        int fault = 0;
        int place = -1;
        State now = new State();
        State image = null;
        List<State> undo = new ArrayList<>();
        List<int[]> notes = new ArrayList<>();
        int known = -1;
        // how miles go otherwise
        int tried = 0;
        int missing = -1;
        boolean chance = false;
        long drawn = 0;

        Model() {
            now = fresh();
        }

        static int pack(String name) {
            int v = 0;
            for (int i = 0; i < 6; i++) {
                v = v * 32 + (i < name.length() ? name.charAt(i) - 96 : 0);
            }
            return v;
        }

        State fresh() {
            State s = new State();
            for (int r = 0; r < 6; r++) {
                s.out[r] = -1;
                s.aboard[r] = r < riders.size();
                s.dull[r] = r < riders.size() ? riders.get(r)[1] : 0;
                s.seat[r] = r < riders.size() ? riders.get(r)[2] : 0;
            }
            for (int[] t : tells) {
                s.told[t[0]][t[1]] = true;
            }
            return s;
        }

        int firstOut(int rider) {
            if (rider < 0 || rider >= riders.size()) {
                return 0;
            }
            State s = fresh();
            while (s.day == 0) {
                step(s);
            }
            return Math.max(0, s.out[rider]);
        }

        boolean dark(int mile) {
            for (int[] t : tunnels) {
                if (tried != 1 && t[0] <= mile && t[1] >= mile) {
                    return true;
                }
            }
            return false;
        }

        int more() {
            if (!chance) {
                return 0;
            }
            drawn = (drawn * 1103515245L + 12345) % 2147483648L;
            return (int) (drawn / 65536) % 10;
        }

        Long law(State s, String rule, int r, int fun, int joke) {
            if (!laws.containsKey(rule)) {
                return null;
            }
            Map<String, Long> names = new HashMap<>();
            names.put("fun", (long) fun);
            names.put("likes", joke >= 0 && jokes.get(joke)[1] == riders.get(r)[3] ? 1L : 0L);
            names.put("heard", joke >= 0 && tried != 5 ? (long) s.heard[r][joke] : 0L);
            names.put("mood", (long) s.mood[r]);
            names.put("dull", (long) s.dull[r]);
            names.put("halts", (long) s.dayHalts);
            names.put("mile", (long) s.mile);
            return laws.get(rule).value(names);
        }

        void cheer(State s, int fun, int joke) {
            for (int r = 0; r < riders.size(); r++) {
                if (!s.aboard[r] || joke >= 0 && s.deaf[r]) {
                    continue;
                }
                Long e = law(s, "mirth", r, fun, joke);
                long by = e != null ? e : fun;
                if (e == null && joke >= 0) {
                    by += jokes.get(joke)[1] == riders.get(r)[3] ? 10 : 0;
                    by -= tried == 5 ? 0 : 5 * s.heard[r][joke];
                }
                s.mood[r] = (int) Math.min(999, s.mood[r] + Math.max(0, Math.min(99, by)));
                if (joke >= 0) {
                    s.heard[r][joke]++;
                }
            }
        }

        void step(State s) {
            for (int[] g : sights) {
                if (g[0] == s.mile && !dark(s.mile)) {
                    cheer(s, g[1] + more(), -1);
                }
            }
            for (int j = 0; j < jokes.size(); j++) {
                if (s.told[j][s.mile]) {
                    cheer(s, jokes.get(j)[0] + more(), j);
                }
            }
            boolean halt = false;
            for (int r = 0; r < riders.size(); r++) {
                Long e = law(s, "laugh", r, 0, -1);
                boolean laughs = e != null ? e != 0 : s.mood[r] >= s.dull[r] && s.mood[r] != 0;
                if (s.aboard[r] && laughs) {
                    halt = true;
                    s.laughed[r]++;
                    s.laughs++;
                    s.mood[r] = 0;
                    for (int q = 0; q < riders.size(); q++) {
                        boolean beside = s.seat[q] == s.seat[r] - 1 || s.seat[q] == s.seat[r] + 1;
                        s.mood[q] += beside && s.aboard[q] && tried != 3 ? 10 : 0;
                    }
                }
            }
            s.minutes += halt ? 3 : 1;
            if (halt) {
                s.halts++;
                s.dayHalts++;
            }
            for (int r = 0; r < riders.size(); r++) {
                int home = riders.get(r)[0];
                if (halt && s.aboard[r] && home >= s.mile - near && home <= s.mile + near) {
                    s.aboard[r] = false;
                    s.out[r] = s.mile;
                    s.alighted[r]++;
                    s.alights++;
                }
                if (s.aboard[r]) {
                    Long e = law(s, "calm", r, 0, -1);
                    s.mood[r] = (int) Math.max(0, s.mood[r] - (e == null ? 2 : Math.max(0, Math.min(99, e))));
                }
            }
            s.mile++;
            if (s.mile > last) {
                s.mile = 0;
                s.day++;
                s.dayHalts = 0;
                for (int r = 0; r < riders.size(); r++) {
                    s.passed[r] += s.aboard[r] ? 1 : 0;
                    s.passes += s.aboard[r] ? 1 : 0;
                    s.aboard[r] = r != missing;
                    s.mood[r] = 0;
                }
            }
        }

        State after(State from, int n) {
            State s = from.copy();
            for (int i = 0; i < n; i++) {
                step(s);
            }
            return s;
        }

        State dayAfter(State from) {
            State s = from.copy();
            while (s.day == from.day) {
                step(s);
            }
            return s;
        }

        int text(int n) {
            if (n < 0 || n > tape.length()) {
                return -2;
            }
            Parser p = new Parser(tape.substring(0, n));
            tape.setLength(0);
            try {
                p.text();
            } catch (Fault f) {
                fault = f.kind;
                place = f.place;
                return -1;
            }
            fault = 0;
            place = -1;
            riders = p.told.get("rider");
            jokes = p.told.get("joke");
            tells = p.told.get("tell");
            sights = p.told.get("sight");
            tunnels = p.told.get("tunnel");
            riderNames = p.names.get("rider");
            jokeNames = p.names.get("joke");
            laws = p.laws;
            knots = p.knots;
            last = p.told.get("line").isEmpty() ? 30 : p.told.get("line").get(0)[0];
            near = p.told.get("near").isEmpty() ? 1 : p.told.get("near").get(0)[0];
            now = fresh();
            image = null;
            undo.clear();
            notes.clear();
            known = -1;
            return p.lines;
        }

        boolean isR(int r) {
            return r >= 0 && r < riders.size();
        }

        boolean isJ(int j) {
            return j >= 0 && j < jokes.size();
        }

        boolean isM(int m) {
            return m >= 0 && m <= 60;
        }

        boolean in(int v, int most) {
            return v >= 0 && v <= most;
        }

        void remember() {
            undo.add(now.copy());
            if (undo.size() > 20) {
                undo.remove(0);
            }
        }

        String answer(String name, int[] v) {
            switch (name) {
                case "feed":
                    if (tape.length() + 20 > 700) {
                        return "-1";
                    }
                    for (int x : v) {
                        for (int k = 3; k >= 0; k--) {
                            tape.append((char) (x >> 8 * k & 255));
                        }
                    }
                    return "" + tape.length();
                case "text": return "" + text(v[0]);
                case "fault": return "" + (v[0] == 0 ? fault : v[0] == 1 ? place : -1);
                case "named":
                    List<String> names = v[0] == 0 ? riderNames : v[0] == 1 ? jokeNames : List.of();
                    for (int i = 0; i < names.size(); i++) {
                        if (pack(names.get(i)) == v[1]) {
                            return "" + i;
                        }
                    }
                    return "-1";
                case "rider":
                    if (!isR(v[0])) {
                        return "no rider";
                    }
                    if (!in(v[1], 7)) {
                        return "no what";
                    }
                    int[] own = riders.get(v[0]);
                    return "" + new int[] {own[0], own[1], now.seat[v[0]], own[3], now.mood[v[0]], now.aboard[v[0]] ? 1 : 0,
                        now.out[v[0]], now.alighted[v[0]]}[v[1]];
                case "has":
                    return !isR(v[0]) || !in(v[1], 2) ? "-1"
                        : "" + new int[] {now.laughed[v[0]], now.deaf[v[0]] ? 1 : 0, now.passed[v[0]]}[v[1]];
                case "joke":
                    if (!isJ(v[0]) || !in(v[1], 2)) {
                        return "-1";
                    }
                    return "" + (v[1] < 2 ? jokes.get(v[0])[v[1]] : tellings(v[0]));
                case "heard": return isR(v[0]) && isJ(v[1]) ? "" + now.heard[v[0]][v[1]] : "-1";
                case "told": return isJ(v[0]) && isM(v[1]) ? now.told[v[0]][v[1]] ? "1" : "0" : "-1";
                case "seen":
                    int sum = 0;
                    for (int[] g : sights) {
                        sum += g[0] == v[0] && !dark(v[0]) ? g[1] : 0;
                    }
                    return isM(v[0]) ? "" + sum : "-1";
                case "law":
                    if (!in(v[0], 2) || !isR(v[1]) || v[0] == 0 && !isJ(v[2])) {
                        return "" + Long.MIN_VALUE;
                    }
                    Long e = v[0] == 0 ? law(now, "mirth", v[1], jokes.get(v[2])[0], v[2])
                        : law(now, v[0] == 1 ? "laugh" : "calm", v[1], 0, -1);
                    return "" + (e == null ? Long.MIN_VALUE : e);
                case "ears":
                    if (!isR(v[0]) || now.deaf[v[0]] == (v[1] == 1)) {
                        return "false";
                    }
                    remember();
                    now.deaf[v[0]] = v[1] == 1;
                    return "true";
                case "seat":
                    if (!isR(v[0]) || !in(v[1], 9) || now.seat[v[0]] == v[1]) {
                        return "false";
                    }
                    remember();
                    now.seat[v[0]] = v[1];
                    return "true";
                case "tell":
                    if (!isJ(v[0]) || !isM(v[1]) || now.told[v[0]][v[1]] == (v[2] == 1)) {
                        return "false";
                    }
                    remember();
                    now.told[v[0]][v[1]] = v[2] == 1;
                    return "true";
                case "undo":
                    if (undo.isEmpty()) {
                        return "-1";
                    }
                    now = undo.remove(undo.size() - 1);
                    return "" + undo.size();
                case "keep":
                    image = now.copy();
                    return "" + now.day;
                case "back":
                    if (image == null) {
                        return "-1";
                    }
                    now = image.copy();
                    undo.clear();
                    return "" + now.day;
                case "go":
                    if (!in(v[0], 99) || now.day > 900) {
                        return "-1";
                    }
                    if (v[0] > 0) {
                        undo.clear();
                    }
                    now = after(now, v[0]);
                    return "" + now.mile;
                case "known":
                    if (v[0] < -1 || v[0] > notes.size()) {
                        return "false";
                    }
                    known = v[0];
                    return "true";
                default: return "" + question(name, v);
            }
        }

        int tellings(int joke) {
            int n = 0;
            for (boolean is : now.told[joke]) {
                n += is ? 1 : 0;
            }
            return n;
        }

        int count(int what) {
            int told = 0;
            for (int j = 0; j < jokes.size(); j++) {
                told += tellings(j);
            }
            int aboard = 0;
            for (int r = 0; r < riders.size(); r++) {
                aboard += now.aboard[r] ? 1 : 0;
            }
            int[] all = {riders.size(), jokes.size(), told, sights.size(), tunnels.size(), knots, now.day, now.mile,
                now.minutes, now.halts, now.laughs, now.alights, now.passes, aboard, notes.size(),
                known < 0 ? notes.size() : known, undo.size()};
            return in(what, 16) ? all[what] : -1;
        }

        int question(String name, int[] v) {
            switch (name) {
                case "count": return count(v[0]);
                case "ahead":
                    if (!in(v[0], 99) || !in(v[1], 4)) {
                        return -1;
                    }
                    State s = after(now, v[0]);
                    return new int[] {s.halts - now.halts, s.laughs - now.laughs, s.alights - now.alights,
                        s.passes - now.passes, s.minutes - now.minutes}[v[1]];
                case "getsOut":
                    if (!isR(v[0])) {
                        return -1;
                    }
                    State end = dayAfter(now);
                    return end.alighted[v[0]] > now.alighted[v[0]] ? end.out[v[0]] : -2;
                case "nextHalt":
                    for (int n = 1; n <= 99; n++) {
                        if (after(now, n).halts > now.halts) {
                            return n;
                        }
                    }
                    return -2;
                case "tried":
                    if (!in(v[0], 5) || !in(v[2], 99) || (v[0] == 2 ? !isR(v[1]) : v[1] != 0)) {
                        return -1;
                    }
                    return tried(v[0], v[1], v[2]);
                case "chance":
                    if (v[0] < 0 || v[1] < 1 || v[1] > 99 || !isR(v[2]) || !in(v[3], 9)) {
                        return -1;
                    }
                    chance = true;
                    drawn = v[0];
                    int times = 0;
                    for (int i = 0; i < 10; i++) {
                        times += after(now, v[1]).alighted[v[2]] - now.alighted[v[2]] >= v[3] ? 1 : 0;
                    }
                    chance = false;
                    return times;
                case "note":
                    if (!isR(v[0]) || !isM(v[1]) || notes.size() >= 24) {
                        return -1;
                    }
                    notes.add(new int[] {-1, v[0], v[1], v[2]});
                    return notes.size() - 1;
                case "out":
                    if (v[0] < 0 || v[0] >= notes.size() || notes.size() >= 24) {
                        return -1;
                    }
                    notes.add(new int[] {v[0]});
                    return notes.size() - 1;
                default: return nextDay(name, v);
            }
        }

        int tried(int what, int i, int n) {
            State s = now.copy();
            tried = what;
            if (what == 2) {
                missing = i;
                s.aboard[i] = false;
            }
            if (what == 4) {
                s.deaf = new boolean[6];
            }
            int alights = after(s, n).alights - now.alights;
            tried = 0;
            missing = -1;
            return alights;
        }

        int nextDay(String name, int[] v) {
            State dawn = dayAfter(now);
            switch (name) {
                case "when": return isJ(v[0]) && in(v[1], 1) ? when(dawn, v[0])[v[1]] : -1;
                case "both": return isJ(v[0]) && isJ(v[1]) && v[0] != v[1] && in(v[2], 2) ? both(dawn, v[0], v[1])[v[2]] : -1;
                case "seating":
                    if (!in(v[0], 4)) {
                        return -1;
                    }
                    return v[0] < 4 && v[0] >= riders.size() ? -2 : seating(dawn)[v[0]];
                case "stopped": return isR(v[0]) ? stopped(dawn, v[0]) : -1;
                case "rests": return isJ(v[0]) && isJ(v[1]) && v[0] != v[1] ? rests(dawn, v[0], v[1]).size() : -1;
                case "rest":
                    if (!isJ(v[0]) || !isJ(v[1]) || v[0] == v[1] || v[2] < 0) {
                        return -1;
                    }
                    List<Integer> rests = rests(dawn, v[0], v[1]);
                    return v[2] < rests.size() ? rests.get(v[2]) : -2;
                case "likely":
                    if (!isR(v[0]) || !in(v[1], 1)) {
                        return -1;
                    }
                    int above = 0;
                    for (int m = 0; m < 10; m++) {
                        State s = dawn.copy();
                        s.mood[v[0]] = m;
                        above += dayAfter(s).alighted[v[0]] - s.alighted[v[0]];
                    }
                    int g = java.math.BigInteger.valueOf(above).gcd(java.math.BigInteger.TEN).intValue();
                    return (v[1] == 0 ? above : 10) / g;
                case "solemn":
                    int bits = 0;
                    State end = dayAfter(dawn);
                    for (int r = 0; r < riders.size(); r++) {
                        bits |= end.laughed[r] == dawn.laughed[r] ? 1 << r : 0;
                    }
                    return bits;
                case "late":
                    if (!isR(v[0])) {
                        return -1;
                    }
                    State whole = dayAfter(dawn);
                    return whole.alighted[v[0]] == dawn.alighted[v[0]] ? -2
                        : after(dawn, whole.out[v[0]]).minutes - dawn.minutes;
                default: return dulls(v[0]);
            }
        }

        int[] when(State dawn, int joke) {
            int[] best = {0, -1};
            for (int m = 0; m <= last; m++) {
                State s = dawn.copy();
                s.told[joke][m] = true;
                int n = dayAfter(s).alights - s.alights;
                if (n > best[1]) {
                    best = new int[] {m, n};
                }
            }
            return best;
        }

        int[] both(State dawn, int one, int other) {
            int[] best = {0, 0, -1};
            for (int p = 0; p < 36; p++) {
                State s = dawn.copy();
                int a = p / 6 * last / 5;
                int b = p % 6 * last / 5;
                s.told[one][a] = true;
                s.told[other][b] = true;
                int n = dayAfter(s).alights - s.alights;
                if (n > best[2]) {
                    best = new int[] {a, b, n};
                }
            }
            return best;
        }

        int[] seating(State dawn) {
            List<List<Integer>> orders = new ArrayList<>();
            permute(new ArrayList<>(), Math.min(4, riders.size()), orders);
            int[] best = {0, 0, 0, 0, Integer.MAX_VALUE};
            for (List<Integer> order : orders) {
                State s = dawn.copy();
                int[] seats = {0, 0, 0, 0, 0};
                for (int i = 0; i < order.size(); i++) {
                    seats[i] = dawn.seat[order.get(i)];
                    s.seat[i] = seats[i];
                }
                seats[4] = dayAfter(s).laughs - s.laughs;
                if (seats[4] < best[4]) {
                    best = seats;
                }
            }
            return best;
        }

        void permute(List<Integer> begun, int size, List<List<Integer>> orders) {
            if (begun.size() == size) {
                orders.add(new ArrayList<>(begun));
                return;
            }
            for (int i = 0; i < size; i++) {
                if (!begun.contains(i)) {
                    begun.add(i);
                    permute(begun, size, orders);
                    begun.remove(begun.size() - 1);
                }
            }
        }

        int stopped(State dawn, int rider) {
            int best = -2;
            for (int set = 0; set < 1 << riders.size(); set++) {
                if ((set >> rider & 1) == 1) {
                    continue;
                }
                State s = dawn.copy();
                for (int r = 0; r < riders.size(); r++) {
                    s.deaf[r] |= (set >> r & 1) == 1;
                }
                boolean alights = dayAfter(s).alighted[rider] > s.alighted[rider];
                if (alights && (best < 0 || Integer.bitCount(set) < Integer.bitCount(best))) {
                    best = set;
                }
            }
            return best;
        }

        int laughsAt(State dawn, int one, int a, int other, int b, int mile) {
            State s = dawn.copy();
            s.told[one][a] = true;
            s.told[other][b] = true;
            int n = after(s, mile + 1).laughs - after(s, mile).laughs;
            return a == b ? n / 2 : n;
        }

        List<Integer> rests(State dawn, int one, int other) {
            int[][] first = new int[5][5];
            int[][] second = new int[5][5];
            for (int i = 0; i < 5; i++) {
                for (int k = 0; k < 5; k++) {
                    first[i][k] = laughsAt(dawn, one, i * last / 4, other, k * last / 4, i * last / 4);
                    second[i][k] = laughsAt(dawn, one, i * last / 4, other, k * last / 4, k * last / 4);
                }
            }
            List<Integer> rests = new ArrayList<>();
            for (int i = 0; i < 5; i++) {
                for (int k = 0; k < 5; k++) {
                    boolean rest = true;
                    for (int c = 0; c < 5; c++) {
                        rest &= first[c][k] <= first[i][k] && second[i][c] <= second[i][k];
                    }
                    if (rest) {
                        rests.add(10 * i + k);
                    }
                }
            }
            return rests;
        }

        int dulls(int rider) {
            if (!isR(rider)) {
                return -1;
            }
            int n = known < 0 ? notes.size() : known;
            boolean[] struck = new boolean[24];
            for (int i = n - 1; i >= 0; i--) {
                if (notes.get(i)[0] >= 0 && !struck[i]) {
                    struck[notes.get(i)[0]] = true;
                }
            }
            int bits = 0;
            for (int d = 0; d < 10; d++) {
                State s = fresh();
                s.dull[rider] = 10 * d;
                State end = dayAfter(s);
                boolean fits = true;
                for (int i = 0; i < n; i++) {
                    int[] note = notes.get(i);
                    fits &= note[0] >= 0 || struck[i] || (end.out[note[1]] == note[2]) == (note[3] == 1);
                }
                bits |= fits ? 1 << d : 0;
            }
            return bits;
        }
    }
}
