/** The text's language: what stands, and each fault with its place. */
public final class FaultTest {
    private static int wrong = 0;

    private static LaughLine read(String text, int want) {
        LaughLine x = new LaughLine();
        for (int i = 0; i < text.length(); i += 20) {
            int[] v = new int[5];
            for (int k = 0; k < 20; k++) {
                v[k / 4] = v[k / 4] << 8 | (i + k < text.length() ? text.charAt(i + k) & 255 : '!');
            }
            x.feed(v[0], v[1], v[2], v[3], v[4]);
        }
        int got = x.text(text.length());
        if (got != want) {
            wrong++;
            System.out.println("text answered " + got + ", due is " + want + ": " + text);
        }
        return x;
    }

    private static void stands(int lines, String text) {
        LaughLine x = read(text, lines);
        if (x.fault(0) != 0 || x.fault(1) != -1) {
            wrong++;
            System.out.println("fault " + x.fault(0) + " at " + x.fault(1) + ", due is none: " + text);
        }
    }

    /** The fault's place is where the mark stands, which is no part of the text. */
    private static void fault(int kind, String marked) {
        int place = marked.indexOf('@');
        String text = marked.substring(0, place) + marked.substring(place + 1);
        LaughLine x = read(text, -1);
        if (x.fault(0) != kind || x.fault(1) != place) {
            wrong++;
            System.out.println("fault " + x.fault(0) + " at " + x.fault(1) + ", due is " + kind + " at " + place + ": " + text);
        }
    }

    private static String times(int n, String part) {
        return part.repeat(n);
    }

    private static String lettered(int n, String before, String after) {
        StringBuilder b = new StringBuilder();
        for (int i = 0; i < n; i++) {
            b.append(before).append((char) ('a' + i)).append(after);
        }
        return b.toString();
    }

    public static void main(String[] args) {
        whatStands();
        whatCannotStand();
        expressions();
        numbers();
        tooMany();
        knots();
        toldAlready();
        unknownJokes();
        order();
        System.out.println("FaultTest: " + wrong + " wrong");
        if (wrong != 0) {
            System.exit(1);
        }
    }

    private static void whatStands() {
        stands(0, "");
        stands(0, " \n \n");
        stands(1, "line 60;");
        stands(1, "line1;");
        stands(1, "\nline\n 0007 ;\n");
        stands(4, "rider abcdef 60 99 9 3;rider a1 2 3 0;joke a 99 3;tell a 60;");
        stands(5, "sight 60 99;tunnel 0 60;tunnel 5 5;near 9;seed 99999;");
        stands(3, "law mirth 1;law laugh 2;law calm 9999;");
        stands(2, "joke rides 1 1;rider linex 0 0 0 0;");
        stands(2, "sight 1 1;sight 1 1;");
        stands(2, "tunnel 1 1;tunnel 1 1;");
    }

    private static void whatCannotStand() {
        fault(1, "@;");
        fault(1, "@x 1;");
        fault(1, "@12;");
        fault(1, "@Line 5;");
        fault(1, "@lines 5;");
        fault(1, "@mirth 5;");
        fault(1, "line 5@");
        fault(1, "line@");
        fault(1, "line @;");
        fault(1, "line @x;");
        fault(1, "line 5 @5;");
        fault(1, "line 5;@;");
        fault(1, "line 5; \n@!");
        fault(1, "line @-5;");
        fault(1, "line 5\n @\t;");
        fault(1, "line 5 \n @");
        fault(1, "rider @abcdefg 1 1 1 1;");
        fault(1, "rider @tunnel 1 1 1 1;");
        fault(1, "rider @or 1 1 1 1;");
        fault(1, "rider @1 1 1 1 1;");
        fault(1, "rider a 1 1 1@;");
        fault(1, "rider a 1 1 1 1 @1;");
        fault(1, "rider a@");
        fault(1, "joke @fun 1 1;");
        fault(1, "joke a 1 @a;");
        fault(1, "tell @5;");
        fault(1, "tell @laugh 5;");
        fault(1, "law @near 5;");
        fault(1, "law @a 5;");
        fault(1, "law@");
        fault(1, "law calm@");
        fault(1, "near 1;@abcdefgh");
        fault(1, "near 1@" + (char) 233);
        fault(1, "near 1@" + (char) 0);
    }

    private static void expressions() {
        stands(1, "law calm ((((((((1))))))));");
        stands(1, "law calm (1)+(2)*((3)-(4))/(((5)));");
        stands(1, "law calm not not not 1;");
        stands(1, "law calm not (not 1 and not 2 or not 3);");
        stands(1, "law calm 1<2 and 2>=3 or 3<>4;");
        stands(1, "law calm (1<2)<(2<3);");
        stands(1, "law calm not 1<2;");
        stands(1, "law calm 1<>2;");
        fault(1, "law calm @;");
        fault(1, "law calm @+1;");
        fault(1, "law calm 1+@;");
        fault(1, "law calm 1 @2;");
        fault(1, "law calm 1 @fun;");
        fault(1, "law calm 1 @(2);");
        fault(1, "law calm (1)@(2);");
        fault(1, "law calm (@);");
        fault(1, "law calm (1@;");
        fault(1, "law calm 1@);");
        fault(1, "law calm (1))".replace("))", ")@)") + ";");
        fault(1, "law calm 1+1@");
        fault(1, "law calm 1+@");
        fault(1, "law calm (1@");
        fault(1, "law calm 1<2@<3;");
        fault(1, "law calm 1=2@=3;");
        fault(1, "law calm 1+1<2*2@>=3;");
        fault(1, "law calm not 1<2@<3;");
        fault(1, "law calm 1 or 1<2@<3;");
        fault(1, "law calm 1+@not 1;");
        fault(1, "law calm 1*@not 1;");
        fault(1, "law calm 1<@not 1;");
        fault(1, "law calm 1 @not 1;");
        fault(1, "law calm not@;");
        fault(1, "law calm not @and 1;");
        fault(1, "law calm 1 and @or 1;");
        fault(1, "law calm 1 and@");
        fault(1, "law calm @calm;");
        fault(1, "law calm @x;");
        fault(1, "law calm 1 + @law;");
        fault(1, "law calm 1 < @= 2;");
        fault(1, "law calm 1 > @= 2;");
        fault(1, "law calm 1 < @> 2;");
        fault(1, "law calm 1 >@> 2;");
        fault(1, "law calm 1 >@< 2;");
        fault(1, "law calm 1 =@> 2;");
        fault(1, "law calm 1 =@= 2;");
        fault(1, "law calm 1 <>@= 2;");
        fault(1, "law calm 1 <=@> 2;");
        fault(1, "law calm 1 + @- 2;");
        fault(1, "law calm 1 @& 2;");
        fault(1, "law calm 1;@1;");
    }

    private static void numbers() {
        fault(2, "line @0;");
        fault(2, "line @61;");
        fault(2, "line @99999999999999999999;");
        fault(2, "line @4294967301;");
        fault(2, "rider a @61 0 0 0;");
        fault(2, "rider a 60 @100 0 0;");
        fault(2, "rider a 60 99 @10 0;");
        fault(2, "rider a 60 99 9 @4;");
        fault(2, "joke a @100 0;");
        fault(2, "joke a 99 @4;");
        fault(2, "joke a 99 3;tell a @61;");
        fault(2, "sight @61 0;");
        fault(2, "sight 60 @100;");
        fault(2, "tunnel @61 61;");
        fault(2, "tunnel 60 @61;");
        fault(2, "tunnel 5 @4;");
        fault(2, "near @10;");
        fault(2, "seed @100000;");
        fault(2, "law calm @10000;");
        fault(2, "law calm 1+@99999999999999999999999;");
        stands(1, "law calm 000000000000000000009999;");
    }

    private static void tooMany() {
        stands(6, lettered(6, "rider ", " 1 1 1 1;"));
        fault(2, lettered(6, "rider ", " 1 1 1 1;") + "@rider a 1 1 1 1;");
        fault(2, lettered(6, "rider ", " 1 1 1 1;") + "@rider !");
        stands(6, lettered(6, "joke ", " 1 1;"));
        fault(2, lettered(6, "joke ", " 1 1;") + "@joke a 1 1;");
        String tellings = "joke j 1 1;tell j 0;tell j 1;tell j 2;tell j 3;tell j 4;tell j 5;tell j 6;tell j 7;";
        stands(9, tellings);
        fault(2, tellings + "@tell j 0;");
        fault(2, tellings + "@tell k 0;");
        stands(5, times(5, "sight 1 1;"));
        fault(2, times(5, "sight 1 1;") + "@sight 1 1;");
        stands(3, times(3, "tunnel 1 1;"));
        fault(2, times(3, "tunnel 1 1;") + "@tunnel 1 1;");
        fault(2, "law calm ((((((((@(1)))))))));");
        fault(2, "law calm 1+((((((((@(");
        stands(1, "law calm ((((((((1))))))))+((((((((1))))))));");
    }

    private static void knots() {
        // 1 and 31 times two are 63 knots
        String most = "law calm 1" + times(31, "+1") + ";";
        LaughLine x = read(most + "law laugh 1;", 2);
        if (x.count(5) != 64) {
            wrong++;
            System.out.println("count(5) answered " + x.count(5) + ", due is 64");
        }
        fault(2, most + "law laugh 1@+1;");
        fault(2, most + "law laugh not @1;");
        fault(2, most + "law laugh (1)@<1;");
        fault(2, most + "law laugh 1 @and 1;");
        fault(2, most + "law laugh 1;law mirth @fun;");
        fault(2, most + "law laugh 1;law mirth @not fun;");
        fault(1, most + "law laugh 1@not 1;");
        fault(1, most + "law laugh 1;law mirth @+;");
        fault(2, "law calm " + times(64, "not ") + "@1;");
        fault(2, "law calm " + times(64, "not ") + "@not 1;");
        stands(1, "law calm " + times(63, "not ") + "1;");
        // brackets are no knots
        stands(3, most + "law laugh (((1)));near 1;");
        x = read("law calm ((1)+(2));law mirth not fun<>3 or 2;", 2);
        if (x.count(5) != 9) {
            wrong++;
            System.out.println("count(5) answered " + x.count(5) + ", due is 9");
        }
    }

    private static void toldAlready() {
        fault(3, "line 5;@line 5;");
        fault(3, "near 5;@near !");
        fault(3, "seed 5;near 5;@seed 5;");
        fault(3, "rider a 1 1 1 1;rider @a 1 1 1 1;");
        fault(3, "rider abcdef 1 1 1 1;rider @abcdef 1 1 1 1;");
        fault(3, "joke a 1 1;joke @a 99 1;");
        stands(2, "rider a 1 1 1 1;joke a 1 1;");
        stands(2, "rider a 1 1 1 1;rider aa 1 1 1 1;");
        fault(3, "joke a 1 1;tell a 5;tell a @5;");
        fault(3, "joke a 1 1;tell a 5;tell a @05;");
        stands(5, "joke a 1 1;joke b 1 1;tell a 5;tell b 5;tell a 6;");
        fault(3, "law calm 1;law @calm 1;");
        fault(3, "law mirth 1;law calm 1;law @mirth !");
        fault(3, "law laugh 1;law @laugh");
    }

    private static void unknownJokes() {
        fault(4, "tell @a 5;");
        fault(4, "rider a 1 1 1 1;tell @a 5;");
        fault(4, "tell @a 5;joke a 1 1;");
        fault(4, "joke ab 1 1;tell @a 99;");
    }

    private static void order() {
        // the first along the text
        fault(2, "rider a @99 !");
        fault(1, "rider a 9 @! 99 99;");
        fault(2, "line @99;line 99;");
        fault(1, "line 5@ line 5;".replace("@ line", " @line"));
        fault(4, "tell @a 99;");
    }
}
