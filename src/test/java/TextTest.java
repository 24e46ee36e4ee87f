/** Bounds of the tape and of the text: just inside, just outside, and the state afterwards. */
public final class TextTest {
    private static final String[] WORDS = {"line", "rider", "joke", "tell", "sight", "tunnel", "near", "seed", "law", "mirth", "laugh",
        "calm", "or", "and", "not", "fun", "likes", "heard", "mood", "dull", "halts", "mile"};
    private static int wrong = 0;

    private static void due(String call, long got, long want) {
        if (got != want) {
            wrong++;
            System.out.println(call + " answered " + got + ", due is " + want);
        }
    }

    /** Behind the text comes what would be a fault. */
    private static LaughLine fed(String text) {
        LaughLine x = new LaughLine();
        feed(x, text);
        return x;
    }

    private static void feed(LaughLine x, String text) {
        for (int i = 0; i < text.length(); i += 20) {
            int[] v = new int[5];
            for (int k = 0; k < 20; k++) {
                v[k / 4] = v[k / 4] << 8 | (i + k < text.length() ? text.charAt(i + k) : '!');
            }
            x.feed(v[0], v[1], v[2], v[3], v[4]);
        }
    }

    private static LaughLine stands(int lines, String text) {
        LaughLine x = fed(text);
        due("text of \"" + text + "\"", x.text(text.length()), lines);
        due("fault(0) of \"" + text + "\"", x.fault(0), 0);
        due("fault(1) of \"" + text + "\"", x.fault(1), -1);
        return x;
    }

    /** Into one that has a text already, all of which stays. */
    private static void fault(int kind, int place, String text) {
        String old = "line 7;rider x 1 2 3 0;joke y 4 1;tell y 5;sight 6 7;tunnel 1 2;law calm 1+2;";
        LaughLine x = fed(old);
        x.text(old.length());
        x.go(2);
        feed(x, text);
        due("text of \"" + text + "\"", x.text(text.length()), -1);
        due("fault(0) of \"" + text + "\"", x.fault(0), kind);
        due("fault(1) of \"" + text + "\"", x.fault(1), place);
        int[] counts = {1, 1, 1, 1, 1, 3, 0, 2};
        for (int i = 0; i < counts.length; i++) {
            due("count(" + i + ") behind \"" + text + "\"", x.count(i), counts[i]);
        }
        due("the tape is empty", x.text(1), -2);
        due("go(5) to 7", x.go(5), 7);
        due("7 is the last mile", x.go(1), 0);
    }

    private static int letters(String name) {
        int v = 0;
        for (int i = 0; i < 6; i++) {
            v = v << 5 | (i < name.length() ? name.charAt(i) - 'a' + 1 : 0);
        }
        return v;
    }

    public static void main(String[] args) {
        newObject();
        tapeAtMost();
        bytesOfNumbers();
        firstBytes();
        faultOfTheLatest();
        afterText();
        blanks();
        names();
        numbers();
        numbersOfE();
        lastAndNear();
        atMost();
        brackets();
        knots();
        toldAlready();
        leastOfOnePlace();
        moreMustCome();
        signsInARow();
        System.out.println("TextTest: " + wrong + " wrong");
        if (wrong != 0) {
            System.exit(1);
        }
    }

    // ---- the tape

    /** "A TEXT without LINES; an empty TAPE." */
    private static void newObject() {
        LaughLine x = new LaughLine();
        for (int what = 0; what <= 16; what++) {
            due("count(" + what + ") of a new one", x.count(what), 0);
        }
        due("count(17)", x.count(17), -1);
        due("text(1)", x.text(1), -2);
        due("fault(0)", x.fault(0), 0);
        due("fault(1)", x.fault(1), -1);
        due("feed()", x.feed(0, 0, 0, 0, 0), 20);
        due("30 without a line", x.go(30), 30);
        due("30 is the last", x.go(1), 0);
    }

    /** "NONE, and none come, if it would have more than 700" */
    private static void tapeAtMost() {
        LaughLine x = new LaughLine();
        for (int i = 1; i <= 34; i++) {
            due("feed " + i, x.feed(0x20202020, 0x20202020, 0x20202020, 0x20202020, 0x20202020), 20 * i);
        }
        // the last twenty are "near 3;" and a rider
        due("feed 35", x.feed(0x6e656172, 0x20333b72, 0x69646572, 0x20612031, 0x20312031), 700);
        due("feed 36", x.feed(0x2031203b, 0x20202020, 0x20202020, 0x20202020, 0x20202020), -1);
        due("feed 37", x.feed(0, 0, 0, 0, 0), -1);
        due("text(701)", x.text(701), -2);
        due("text(700), more must come", x.text(700), -1);
        due("fault(0)", x.fault(0), 1);
        due("fault(1)", x.fault(1), 700);
        due("the tape is empty", x.feed(0x20202020, 0x20202020, 0x20202020, 0x20202020, 0x20202020), 20);
        // 700 bytes that stand
        x.text(0);
        for (int i = 1; i <= 34; i++) {
            x.feed(0x0a0a0a0a, 0x20202020, 0x0a200a20, 0x20202020, 0x20202020);
        }
        x.feed(0x20202020, 0x20202020, 0x20202020, 0x6e656172, 0x2020333b);
        due("text(699)", x.text(699), -1);
        due("fault(1)", x.fault(1), 699);
        for (int i = 1; i <= 34; i++) {
            x.feed(0x0a0a0a0a, 0x20202020, 0x0a200a20, 0x20202020, 0x20202020);
        }
        x.feed(0x20202020, 0x20202020, 0x20202020, 0x6e656172, 0x2020333b);
        due("text(700)", x.text(700), 1);
    }

    /** "Twenty bytes come behind the TAPE, four of each number, the highest first" */
    private static void bytesOfNumbers() {
        for (int place = 0; place < 20; place++) {
            int[] v = {0x20202020, 0x20202020, 0x20202020, 0x20202020, 0x20202020};
            v[place / 4] ^= (0x20 ^ 0xff) << 8 * (3 - place % 4);
            LaughLine x = new LaughLine();
            due("feed", x.feed(v[0], v[1], v[2], v[3], v[4]), 20);
            due("text(20)", x.text(20), -1);
            due("the place of 255", x.fault(1), place);
            x.feed(v[0], v[1], v[2], v[3], v[4]);
            due("text up to it", x.text(place), 0);
        }
    }

    /** "The TAPE's first n bytes (it is empty then)", "-2, and the TAPE stays: there are not so many, n is below 0" */
    private static void firstBytes() {
        LaughLine x = fed("near 3;seed 4;");
        due("text(-1)", x.text(-1), -2);
        due("text(21)", x.text(21), -2);
        due("text(greatest)", x.text(Integer.MAX_VALUE), -2);
        due("text(least)", x.text(Integer.MIN_VALUE), -2);
        due("text(7)", x.text(7), 1);
        due("what was behind is gone", x.text(1), -2);
        due("text(0)", x.text(0), 0);
        feed(x, "near 3;seed 4;");
        due("text(0) of twenty", x.text(0), 0);
        due("they are gone", x.text(7), -2);
        feed(x, "near 3;seed 4;");
        due("text(14)", x.text(14), 2);
        feed(x, "near 3;seed 4;      ");
        due("text(20), all of them", x.text(20), 2);
        feed(x, "near 3;seed 4;");
        due("text(15), a fault", x.text(15), -1);
        due("they are gone with a fault", x.text(7), -2);
    }

    /** "Of the latest text() that was not -2" */
    private static void faultOfTheLatest() {
        LaughLine x = fed("near 3;near 4;");
        x.text(14);
        for (int n : new int[] {-1, 1, 701}) {
            due("text(" + n + ")", x.text(n), -2);
            due("fault(0)", x.fault(0), 3);
            due("fault(1)", x.fault(1), 7);
        }
        due("fault(2)", x.fault(2), -1);
        due("fault(-1)", x.fault(-1), -1);
        feed(x, "near 10;");
        x.text(8);
        due("fault(0)", x.fault(0), 2);
        due("fault(1)", x.fault(1), 5);
        due("text(0)", x.text(0), 0);
        due("fault(0)", x.fault(0), 0);
        due("fault(1)", x.fault(1), -1);
    }

    /** "(DAY 0, MILE 0, all ABOARD, no EARS STOPPED, nothing HEARD, no NOTES, all KNOWN, no IMAGE, nothing to undo then)" */
    private static void afterText() {
        String text = "line 3;rider a 0 5 0 0;joke j 50 1;tell j 0;near 0;";
        LaughLine x = stands(5, text);
        x.keep();
        x.note(0, 0, true);
        x.known(0);
        x.go(5);
        due("alighted", x.rider(0, 7), 2);
        due("out", x.rider(0, 5), 0);
        x.ears(0, true);
        x.seat(0, 7);
        x.tell(0, 1, true);
        feed(x, text);
        due("text", x.text(text.length()), 5);
        int[] counts = {1, 1, 1, 0, 0, 0, 0, 0, 0, 0, 0, 0, 0, 1, 0, 0, 0};
        for (int i = 0; i < counts.length; i++) {
            due("count(" + i + ")", x.count(i), counts[i]);
        }
        int[] rider = {0, 5, 0, 0, 0, 1, -1, 0};
        for (int i = 0; i < rider.length; i++) {
            due("rider(0, " + i + ")", x.rider(0, i), rider[i]);
        }
        for (int i = 0; i < 3; i++) {
            due("has(0, " + i + ")", x.has(0, i), 0);
        }
        due("heard", x.heard(0, 0), 0);
        due("told(0, 1)", x.told(0, 1), 0);
        due("no image", x.back(), -1);
        due("nothing to undo", x.undo(), -1);
        due("note", x.note(0, 0, false), 0);
        due("all known", x.count(15), 1);
        due("dulls of 60 and more", x.dulls(0), 960);
    }

    // ---- tokens

    /** "Blanks 10, 32", "a TOKEN that is none" */
    private static void blanks() {
        for (int sign = 0; sign < 256; sign++) {
            String text = "near" + (char) sign + "5;";
            boolean letter = sign >= 'a' && sign <= 'z';
            if (sign == 10 || sign == 32 || sign == '0') {
                stands(1, text);
            } else if (sign >= '1' && sign <= '9') {
                fault(2, 4, text);
            } else {
                fault(1, letter ? 0 : 4, text);
            }
            text = "near 5;" + (char) sign;
            if (sign == 10 || sign == 32) {
                stands(1, text);
                stands(1, (char) sign + "near" + (char) sign + (char) sign + "5" + (char) sign + ";");
            } else {
                fault(1, 7, text);
            }
        }
    }

    /** "W: one of 1 .. 6 letters, none of those of the language" */
    private static void names() {
        String name = "";
        for (int length = 1; length <= 6; length++) {
            name += (char) ('z' - length);
            LaughLine x = stands(3, "rider " + name + " 1 2 3 0;joke " + name + " 1 2;tell " + name + " 3;");
            due("rider " + name, x.named(0, letters(name)), 0);
            due("joke " + name, x.named(1, letters(name)), 0);
            due("told", x.told(0, 3), 1);
            if (length < 6) {
                due("rider " + name + "a", x.named(0, letters(name + "a")), -1);
            }
            due("rider of one letter less", x.named(0, letters(name.substring(1))), -1);
        }
        fault(1, 6, "rider " + name + "a 1 2 3 0;");
        fault(1, 5, "joke " + name + "a 1 2;");
        fault(1, 21, "joke " + name + " 1 2;tell " + name + "a 3;");
        fault(1, 0, "tunnels 1 2;");
        fault(1, 0, name + "abcdefghij");
        fault(1, 4, "law " + name + "a 1;");
        fault(1, 9, "law calm " + name + "a;");
        for (String word : WORDS) {
            fault(1, 6, "rider " + word + " 1 2 3 0;");
            fault(1, 5, "joke " + word + " 1 2;");
            fault(1, 5, "tell " + word + " 1;");
            String more = word.length() < 6 ? word + "x" : word.substring(0, 5);
            due("joke " + more, stands(1, "joke " + more + " 1 2;").named(1, letters(more)), 0);
            due("joke " + word, stands(1, "joke " + more + " 1 2;").named(1, letters(word)), -1);
        }
        // a name of its kind alone
        LaughLine x = stands(3, "rider a 1 2 3 0;rider b 1 2 3 0;joke b 1 2;");
        due("rider b", x.named(0, letters("b")), 1);
        due("joke b", x.named(1, letters("b")), 0);
        due("joke a", x.named(1, letters("a")), -1);
        fault(4, 21, "rider a 1 2 3 0;tell a 3;");
    }

    // ---- numbers

    /** "a number beyond what is said (of a TUNNEL: below its first one, too)" */
    private static void numbers() {
        bounds("line ", ";", 1, 60);
        bounds("rider a ", " 0 0 0;", 0, 60);
        bounds("rider a 0 ", " 0 0;", 0, 99);
        bounds("rider a 0 0 ", " 0;", 0, 9);
        bounds("rider a 0 0 0 ", ";", 0, 3);
        bounds("joke a ", " 0;", 0, 99);
        bounds("joke a 0 ", ";", 0, 3);
        bounds("joke a 0 0;tell a ", ";", 0, 60);
        bounds("sight ", " 0;", 0, 60);
        bounds("sight 0 ", ";", 0, 99);
        bounds("tunnel ", " 60;", 0, 60);
        bounds("tunnel 0 ", ";", 0, 60);
        bounds("tunnel 1 ", ";", 1, 60);
        bounds("tunnel 59 ", ";", 59, 60);
        bounds("tunnel 60 ", ";", 60, 60);
        bounds("near ", ";", 0, 9);
        bounds("seed ", ";", 0, 99999);
        bounds("law mirth ", ";", 0, 9999);
        bounds("law calm 1<=(", ");", 0, 9999);
        LaughLine x = stands(2, "rider a 60 99 9 3;rider b 0 0 0 0;");
        int[] most = {60, 99, 9, 3};
        for (int what = 0; what < 4; what++) {
            due("rider(0, " + what + ")", x.rider(0, what), most[what]);
            due("rider(1, " + what + ")", x.rider(1, what), 0);
        }
        x = stands(4, "joke a 99 3;joke b 0 0;tell a 60;tell b 0;");
        due("joke(0, 0)", x.joke(0, 0), 99);
        due("joke(0, 1)", x.joke(0, 1), 3);
        due("joke(1, 0)", x.joke(1, 0), 0);
        due("joke(1, 1)", x.joke(1, 1), 0);
        due("told(0, 60)", x.told(0, 60), 1);
        due("told(0, 59)", x.told(0, 59), 0);
        due("told(1, 0)", x.told(1, 0), 1);
        due("told(1, 1)", x.told(1, 1), 0);
        x = stands(3, "sight 60 99;sight 0 98;tunnel 0 0;");
        due("seen(60)", x.seen(60), 99);
        due("seen(59)", x.seen(59), 0);
        due("seen(0)", x.seen(0), 0);
    }

    private static void bounds(String ahead, String behind, int least, int most) {
        String semicolons = (ahead + behind).replaceAll("[^;]", "");
        int lines = semicolons.length();
        int place = ahead.length();
        for (String digits : new String[] {"" + least, "" + most, "0" + least, "000000000000" + most}) {
            stands(lines, ahead + digits + behind);
        }
        fault(2, place, ahead + (most + 1) + behind);
        fault(2, place, ahead + "0" + (most + 1) + behind);
        fault(2, place, ahead + most + "0000000" + behind);
        // what an int or a long would take for the least
        fault(2, place, ahead + (4294967296L + least) + behind);
        fault(2, place, ahead + "18446744073709551" + (616 + least) + behind);
        if (least > 0) {
            fault(2, place, ahead + (least - 1) + behind);
            fault(2, place, ahead + "0" + behind);
        }
        fault(1, place, ahead + "-1" + behind);
        fault(1, place, ahead + "x" + behind);
    }

    /** "N of E 0 .. 9999" */
    private static void numbersOfE() {
        LaughLine x = stands(5, "rider a 0 0 0 0;joke j 0 0;law mirth 9999;law laugh 0;law calm 00012;");
        due("law(0, 0, 0)", x.law(0, 0, 0), 9999);
        due("law(1, 0, 0)", x.law(1, 0, 0), 0);
        due("law(2, 0, 0)", x.law(2, 0, 0), 12);
        fault(2, 10, "law mirth 10000;");
        fault(2, 12, "law mirth 1+10000;");
        fault(2, 11, "law mirth (10000");
    }

    /** "line: the LAST mile 1 .. 60 (30 without)", "near: 0 .. 9 (1 without)" */
    private static void lastAndNear() {
        for (int last : new int[] {1, 2, 30, 59, 60}) {
            LaughLine x = stands(1, "line " + last + ";");
            due("go(" + last + ")", x.go(last), last);
            due("day", x.count(6), 0);
            due("the next", x.go(1), 0);
            due("day", x.count(6), 1);
        }
        // a text without them is as at first, whatever was told ahead of it
        LaughLine x = stands(2, "line 5;near 9;");
        String text = "rider a 3 5 0 0;sight 0 9;";
        feed(x, text);
        due("text", x.text(text.length()), 2);
        due("go(30)", x.go(30), 30);
        due("not near", x.count(11), 0);
        due("the halt", x.count(9), 1);
        due("go(1)", x.go(1), 0);
        feed(x, "near 3;" + text);
        due("text", x.text(text.length() + 7), 3);
        x.go(1);
        due("near 3", x.count(11), 1);
    }

    // ---- too much, told already

    private static String many(int n, String ahead, String behind) {
        StringBuilder b = new StringBuilder();
        for (int i = 0; i < n; i++) {
            b.append(ahead).append((char) ('a' + i)).append(behind);
        }
        return b.toString();
    }

    /** "at most 6", "at most 8", "at most 5", "at most 3": "a seventh rider and so on (at the word of the LINE)" */
    private static void atMost() {
        String riders = many(6, "rider ", " 1 1 1 1;");
        due("riders", stands(6, riders).count(0), 6);
        due("the last one", stands(6, riders).named(0, letters("f")), 5);
        fault(2, riders.length(), riders + "rider g 1 1 1 1;");
        fault(2, riders.length(), riders + "rider");
        String jokes = many(6, "joke ", " 1 1;");
        due("jokes", stands(6, jokes).count(1), 6);
        due("the last one", stands(6, jokes).named(1, letters("f")), 5);
        fault(2, jokes.length(), jokes + "joke g 1 1;");
        fault(2, jokes.length(), jokes + "joke;");
        StringBuilder told = new StringBuilder(jokes);
        for (int i = 0; i < 8; i++) {
            told.append("tell ").append((char) ('a' + i % 6)).append(' ').append(i).append(';');
        }
        LaughLine x = stands(14, told.toString());
        due("tellings", x.count(2), 8);
        due("told(1, 7)", x.told(1, 7), 1);
        fault(2, told.length(), told + "tell a 9;");
        fault(2, told.length(), told + "tell a 0;");
        fault(2, told.length(), told + "tell z 0;");
        // by call there may be more
        due("tell", x.tell(0, 9, true) ? 1 : 0, 1);
        due("tellings", x.count(2), 9);
        String sights = "sight 0 1;sight 0 2;sight 0 3;sight 0 4;sight 0 5;";
        due("sights", stands(5, sights).count(3), 5);
        due("all are seen", stands(5, sights).seen(0), 15);
        fault(2, sights.length(), sights + "sight 0 0;");
        String tunnels = "tunnel 0 0;tunnel 2 2;tunnel 4 4;";
        due("tunnels", stands(3, tunnels).count(4), 3);
        fault(2, tunnels.length(), tunnels + "tunnel 5 5;");
        String all = riders + told + sights + tunnels;
        x = stands(28, all);
        int[] counts = {6, 6, 8, 5, 3};
        for (int i = 0; i < counts.length; i++) {
            due("count(" + i + ")", x.count(i), counts[i]);
        }
    }

    /** "a ninth '(' open" */
    private static void brackets() {
        LaughLine x = stands(3, "rider a 1 1 1 1;joke j 1 1;law mirth ((((((((7))))))));");
        due("law", x.law(0, 0, 0), 7);
        due("brackets are no knots", x.count(5), 1);
        fault(2, 18, "law mirth ((((((((((7))))))))));");
        fault(2, 18, "law mirth ((((((((((");
        fault(2, 18, "law mirth (((((((((");
        fault(1, 18, "law mirth ((((((((");
        // not so many at once, but more in all
        stands(1, "law mirth ((((((((7))))))))+((((((((7))))))))+((((((((1)+2)))))));");
        fault(2, 26, "law mirth (((((((7)+1+((2+(3)))))))));");
        // those of one law are closed in another one
        stands(2, "law mirth ((((((((7))))))));law calm ((((((((7))))))));");
    }

    /** "a 65th KNOT of all E (N, NAMES, signs, not, and, or: one each)" */
    private static void knots() {
        String ones = "1" + "+1".repeat(31);
        due("63", stands(1, "law mirth " + ones + ";").count(5), 63);
        due("64", stands(1, "law mirth not " + ones + ";").count(5), 64);
        fault(2, 10 + 4 + 63, "law mirth not " + ones + "+1;");
        fault(2, 10 + 63 + 1, "law mirth " + ones + "+1;");
        String all = "law mirth " + ones + ";law calm ";
        int at = all.length();
        due("64 of two", stands(2, all + "fun;").count(5), 64);
        due("64 of two", stands(3, all + "fun;near 1;").count(5), 64);
        fault(2, at + 1, all + "1+1;");
        fault(2, at + 1, all + "1-1;");
        fault(2, at + 1, all + "1*1;");
        fault(2, at + 1, all + "1/1;");
        fault(2, at + 1, all + "1<1;");
        fault(2, at + 1, all + "1<=1;");
        fault(2, at + 1, all + "1=1;");
        fault(2, at + 1, all + "1<>1;");
        fault(2, at + 1, all + "1>=1;");
        fault(2, at + 1, all + "1>1;");
        fault(2, at + 2, all + "1 and 1;");
        fault(2, at + 2, all + "1 or 1;");
        fault(2, at + 4, all + "not 1;");
        fault(2, at + 4, all + "not not 1;");
        fault(2, at + 3, all + "(1)+1;");
        for (int w = 15; w < WORDS.length; w++) {
            due(WORDS[w], stands(2, all + WORDS[w] + ";").count(5), 64);
            fault(2, at + 12, all + "1;law laugh " + WORDS[w] + ";");
        }
    }

    /** "3 told already: a name of its kind (at W), a TELLING ..., line, near, seed (at the word), a law of its RULE (at RULE)" */
    private static void toldAlready() {
        fault(3, 22, "rider a 1 1 1 1;rider a 2 2 2 2;");
        fault(3, 22, "rider a 1 1 1 1;rider a");
        stands(2, "rider a 1 1 1 1;rider b 1 1 1 1;");
        fault(3, 16, "joke a 1 1;joke a 1 1;");
        stands(2, "rider a 1 1 1 1;joke a 1 1;");
        fault(3, 27, "joke a 1 1;tell a 5;tell a 5;");
        fault(3, 27, "joke a 1 1;tell a 5;tell a 005");
        stands(3, "joke a 1 1;tell a 5;tell a 6;");
        stands(4, "joke a 1 1;joke b 1 1;tell a 5;tell b 5;");
        for (String word : new String[] {"line", "near", "seed"}) {
            fault(3, 7, word + " 3;" + word + " 3;");
            fault(3, 7, word + " 3;" + word);
            fault(3, 23, word + " 3;rider a 1 2 3 0;" + word + " 4;");
        }
        for (int rule = 9; rule <= 11; rule++) {
            String law = "law " + WORDS[rule] + " 1;";
            fault(3, law.length() + 4, law + law);
            fault(3, law.length() + 4, law + "law " + WORDS[rule]);
            String another = "law " + WORDS[rule == 11 ? 9 : rule + 1] + " 1;";
            stands(2, law + another);
            fault(3, law.length() + another.length() + 4, law + another + law);
        }
    }

    /** "the first along the text (of one place the least)" */
    private static void leastOfOnePlace() {
        // it can't stand there, and is too much or told already
        fault(1, 11, "law mirth 1(((((((((1;");
        fault(1, 12, "law mirth 1 10000;");
        fault(1, 7, "near 3 10000;");
        fault(1, 5, "near near 3;near 3;");
        fault(1, 12, "near 3;line near 3;");
        String ones = "law mirth 1" + "+1".repeat(31) + ";law calm 1";
        fault(1, ones.length(), ones + "(1);");
        fault(1, ones.length() + 1, ones + " 1;");
        fault(1, ones.length() + 1, ones + " not 1;");
        fault(1, ones.length() + 1, ones + " fun;");
        fault(2, ones.length(), ones + "+10000;");
        String eight = "law mirth ((((((((1";
        fault(1, eight.length(), eight + "(1)))))))));");
        // too much ahead of what is unknown or told
        fault(2, 5, "near 10;near 3;");
        fault(4, 5, "tell a 61;");
        fault(3, 22, "rider a 1 1 1 1;rider a 61 1 1 1;");
        fault(2, 8, "rider a 61 100 10 4;");
        fault(2, 11, "rider a 60 100 10 4;");
    }

    /** "(the length, if more must come)" */
    private static void moreMustCome() {
        String text = "line 12;rider ab 1 22 3 0; joke c\n9 1;tell c 4 ;sight 5 66;tunnel 7 8;near 2;seed 99;"
            + "law mirth (fun+10)*2<=likes and not heard or mood<>dull;law laugh halts/mile>0;law calm ((1));";
        int lines = 0;
        boolean between = true;
        for (int n = 0; n <= text.length(); n++) {
            String part = text.substring(0, n);
            if (n > 0) {
                char sign = text.charAt(n - 1);
                lines += sign == ';' ? 1 : 0;
                between = sign == ';' || between && (sign == ' ' || sign == 10);
            }
            if (between) {
                stands(lines, part);
            } else {
                fault(1, cutWord(text, n), part);
            }
        }
    }

    /** A word of the language that is cut off can't stand; whatever else is cut off may. */
    private static int cutWord(String text, int n) {
        int from = n;
        while (from > 0 && Character.isLetter(text.charAt(from - 1))) {
            from--;
        }
        int to = n;
        while (to < text.length() && Character.isLetter(text.charAt(to))) {
            to++;
        }
        String whole = text.substring(from, to);
        boolean cut = from < n && n < to && java.util.List.of(WORDS).contains(whole);
        return cut ? from : n;
    }

    /** "A = (or > behind <) right behind < or > belongs to it." */
    private static void signsInARow() {
        String ahead = "rider a 1 1 1 1;law calm ";
        String[] signs = {"<", "<=", "=", "<>", ">=", ">"};
        int[][] worths = {{1, 0, 0}, {1, 1, 0}, {0, 1, 0}, {1, 0, 1}, {0, 1, 1}, {0, 0, 1}};
        for (int i = 0; i < signs.length; i++) {
            for (int left = 1; left <= 3; left++) {
                due(left + signs[i] + 2, stands(2, ahead + left + signs[i] + "2;").law(2, 0, 0), worths[i][left - 1]);
                due(left + " " + signs[i] + " 2", stands(2, ahead + left + " " + signs[i] + "\n2;").law(2, 0, 0), worths[i][left - 1]);
            }
            due("knots of " + signs[i], stands(2, ahead + "1" + signs[i] + "2;").count(5), 3);
        }
        // another sign where a value must come: its place is behind the longest sign that can be
        String[] rows = {"< =", "< >", "> =", "<<", ">>", "><", "==", "=>", "=<", "<=>", "<>=", "<>>", ">=>", ">==", "<=="};
        int[] places = {2, 2, 2, 1, 1, 1, 1, 1, 1, 2, 2, 2, 2, 2, 2};
        for (int i = 0; i < rows.length; i++) {
            fault(1, 10 + places[i], "law calm 1" + rows[i] + "2;");
        }
    }
}
