import java.util.NoSuchElementException;

/** Each promise of the document by hand: ordinary inputs, edges, wrong inputs. */
public final class PromiseTest {
    private static final long ERROR = Long.MIN_VALUE;
    private static final String TRAIN =
        "line 10;rider ann 3 20 0 1;rider bo 4 10 1 0;rider cy 9 50 5 2;joke pun 15 1;joke pie 12 0;"
        + "tell pun 3;sight 6 30;sight 9 60;sight 6 1;tunnel 9 10;";
    private static int wrong = 0;

    private static void due(String call, long got, long want) {
        if (got != want) {
            wrong++;
            System.out.println(call + " answered " + got + ", due is " + want);
        }
    }

    private static void due(String call, boolean got, boolean want) {
        due(call, got ? 1 : 0, want ? 1 : 0);
    }

    private static void feed(LaughLine x, String text) {
        for (int i = 0; i < text.length(); i += 20) {
            int[] v = new int[5];
            for (int k = 0; k < 20; k++) {
                v[k / 4] = v[k / 4] << 8 | (i + k < text.length() ? text.charAt(i + k) : ' ');
            }
            x.feed(v[0], v[1], v[2], v[3], v[4]);
        }
    }

    private static LaughLine with(String text) {
        LaughLine x = new LaughLine();
        feed(x, text);
        int lines = x.text(text.length());
        if (lines < 0) {
            wrong++;
            System.out.println("a text has fault " + x.fault(0) + " at " + x.fault(1) + ": " + text);
        }
        return x;
    }

    private static int letters(String name) {
        int v = 0;
        for (int i = 0; i < 6; i++) {
            v = v << 5 | (i < name.length() ? name.charAt(i) - 'a' + 1 : 0);
        }
        return v;
    }

    private static String rider(LaughLine x, int rider, int what) {
        try {
            return "" + x.rider(rider, what);
        } catch (IndexOutOfBoundsException e) {
            return e.getClass() == IndexOutOfBoundsException.class ? "no rider" : e.getClass().getName();
        } catch (NoSuchElementException e) {
            return e.getClass() == NoSuchElementException.class ? "no what" : e.getClass().getName();
        }
    }

    private static void riderDue(LaughLine x, int rider, int what, String want) {
        String got = rider(x, rider, what);
        if (!got.equals(want)) {
            wrong++;
            System.out.println("rider(" + rider + ", " + what + ") answered " + got + ", due is " + want);
        }
    }

    private static void counts(LaughLine x, String name, int from, int... want) {
        for (int i = 0; i < want.length; i++) {
            due(name + ": count(" + (from + i) + ")", x.count(from + i), want[i]);
        }
    }

    public static void main(String[] args) {
        newObject();
        tape();
        text();
        names();
        ofRiders();
        ofJokes();
        laws();
        lawErrors();
        mirth();
        moodBounds();
        laughing();
        calm();
        halts();
        days();
        byCall();
        undoes();
        images();
        ahead();
        when();
        both();
        seating();
        stopped();
        clowns();
        likely();
        solemnAndLate();
        notes();
        dulls();
        chance();
        tried();
        System.out.println("PromiseTest: " + wrong + " wrong");
        if (wrong != 0) {
            System.exit(1);
        }
    }

    private static void newObject() {
        LaughLine x = new LaughLine();
        counts(x, "new", 0, 0, 0, 0, 0, 0, 0, 0, 0, 0, 0, 0, 0, 0, 0, 0, 0, 0, -1);
        due("count(-1)", x.count(-1), -1);
        due("text(1)", x.text(1), -2);
        due("fault(0)", x.fault(0), 0);
        due("fault(1)", x.fault(1), -1);
        due("go(30)", x.go(30), 30);
        due("go(1)", x.go(1), 0);
        counts(x, "day 1", 6, 1, 0, 31);
        due("NONE", LaughLine.NONE, -1);
        due("dulls(0)", x.dulls(0), -1);
        due("when(0, 0)", x.when(0, 0), -1);
        due("known(0)", x.known(0), true);
        due("known(1)", x.known(1), false);
        due("keep()", x.keep(), 1);
    }

    private static void tape() {
        LaughLine x = new LaughLine();
        for (int i = 1; i <= 35; i++) {
            due("feed " + i, x.feed(0x20202020, 0x0a0a0a0a, 0x20202020, 0x20202020, 0x20202020), 20 * i);
        }
        due("feed 36", x.feed(0x21212121, 0, 0, 0, 0), -1);
        due("text(701)", x.text(701), -2);
        due("text(-1)", x.text(-1), -2);
        due("text(700)", x.text(700), 0);
        due("text(1)", x.text(1), -2);
        due("feed", x.feed(0x6c696e65, 0x20353b20, 0x216c696e, 0x653bffff, 0x80000000), 20);
        due("text(8)", x.text(8), 1);
        due("feed", x.feed(0x6c696e65, 0x20353b20, 0x216c696e, 0x653bffff, 0x80000000), 20);
        due("text(9)", x.text(9), -1);
        due("fault(1)", x.fault(1), 8);
        due("feed", x.feed(0x20202020, 0x20202020, 0x20202020, 0x20202020, 0x202020ff), 20);
        due("text(20)", x.text(20), -1);
        due("fault(1)", x.fault(1), 19);
    }

    private static void text() {
        LaughLine x = with(TRAIN);
        due("fault(0)", x.fault(0), 0);
        due("fault(1)", x.fault(1), -1);
        x.go(4);
        x.keep();
        x.note(0, 3, true);
        x.known(0);
        x.ears(0, true);
        feed(x, "line 5;line 5;");
        due("text with a fault", x.text(14), -1);
        due("fault(0)", x.fault(0), 3);
        due("fault(1)", x.fault(1), 7);
        due("fault(2)", x.fault(2), -1);
        due("fault(-1)", x.fault(-1), -1);
        due("text(1), nothing is left", x.text(1), -2);
        due("fault(0) still", x.fault(0), 3);
        counts(x, "all stays", 0, 3, 2, 1, 3, 1, 0, 0, 4, 6, 1, 2, 2, 0, 1, 1, 0, 1);
        due("back()", x.back(), 0);
        x.ears(0, true);
        String again = "rider ann 3 20 0 1;joke pun 15 1;";
        feed(x, again);
        due("text", x.text(again.length()), 2);
        due("fault(0)", x.fault(0), 0);
        counts(x, "a new text", 0, 1, 1, 0, 0, 0, 0, 0, 0, 0, 0, 0, 0, 0, 1, 0, 0, 0);
        due("no image", x.back(), -1);
        due("nothing to undo", x.undo(), -1);
        due("no ears", x.has(0, 1), 0);
        due("nothing heard", x.heard(0, 0), 0);
        riderDue(x, 0, 5, "1");
        riderDue(x, 0, 6, "-1");
        riderDue(x, 0, 7, "0");
        due("note", x.note(0, 3, true), 0);
        due("all known", x.count(15), 1);
        due("line is 30 without", x.go(31), 0);
    }

    private static void names() {
        LaughLine x = with("rider ann 3 20 0 1;rider zzzzzz 1 1 1 1;joke ann 1 1;joke b 1 1;");
        due("named ann", x.named(0, letters("ann")), 0);
        due("named zzzzzz", x.named(0, letters("zzzzzz")), 1);
        due("joke ann", x.named(1, letters("ann")), 0);
        due("joke b", x.named(1, letters("b")), 1);
        due("b is 2 << 25", x.named(1, 2 << 25), 1);
        due("b at the right", x.named(1, 2), -1);
        due("rider b", x.named(0, letters("b")), -1);
        due("0", x.named(0, 0), -1);
        due("-1", x.named(0, -1), -1);
        due("a bit above", x.named(0, letters("ann") | 1 << 30), -1);
        due("what 2", x.named(2, letters("ann")), -1);
        due("what -1", x.named(-1, letters("ann")), -1);
    }

    private static void ofRiders() {
        LaughLine x = with(TRAIN);
        String[] ann = {"3", "20", "0", "1", "0", "1", "-1", "0", "no what"};
        for (int what = 0; what < 9; what++) {
            riderDue(x, 0, what, ann[what]);
        }
        riderDue(x, 0, -1, "no what");
        riderDue(x, 3, 0, "no rider");
        riderDue(x, -1, 0, "no rider");
        riderDue(x, 3, 9, "no rider");
        // mile 3: ann 25, laughs; bo 15 and 10, laughs, ann catches it; cy 15 less 2
        x.go(4);
        String[] after = {"3", "20", "0", "1", "10", "0", "3", "1"};
        for (int what = 0; what < 8; what++) {
            riderDue(x, 0, what, after[what]);
        }
        riderDue(x, 1, 4, "0");
        riderDue(x, 2, 4, "13");
        riderDue(x, 2, 5, "1");
        due("has(0, 0)", x.has(0, 0), 1);
        due("has(2, 0)", x.has(2, 0), 0);
        due("has(0, 1)", x.has(0, 1), 0);
        due("has(0, 3)", x.has(0, 3), -1);
        due("has(0, -1)", x.has(0, -1), -1);
        due("has(3, 0)", x.has(3, 0), -1);
        due("has(-1, 0)", x.has(-1, 0), -1);
        counts(x, "mile 4", 6, 0, 4, 6, 1, 2, 2, 0, 1);
        x.go(7);
        due("has(2, 2)", x.has(2, 2), 1);
        due("has(0, 2)", x.has(0, 2), 0);
        counts(x, "day 1", 6, 1, 0, 13, 1, 2, 2, 1, 3);
        riderDue(x, 0, 4, "0");
        riderDue(x, 0, 5, "1");
        riderDue(x, 0, 6, "3");
    }

    private static void ofJokes() {
        LaughLine x = with(TRAIN);
        due("joke(0, 0)", x.joke(0, 0), 15);
        due("joke(0, 1)", x.joke(0, 1), 1);
        due("joke(0, 2)", x.joke(0, 2), 1);
        due("joke(1, 2)", x.joke(1, 2), 0);
        due("joke(0, 3)", x.joke(0, 3), -1);
        due("joke(0, -1)", x.joke(0, -1), -1);
        due("joke(2, 0)", x.joke(2, 0), -1);
        due("joke(-1, 0)", x.joke(-1, 0), -1);
        due("heard(0, 0)", x.heard(0, 0), 0);
        due("told(0, 3)", x.told(0, 3), 1);
        due("told(0, 60)", x.told(0, 60), 0);
        due("told(0, 61)", x.told(0, 61), -1);
        due("told(0, -1)", x.told(0, -1), -1);
        due("told(2, 3)", x.told(2, 3), -1);
        due("seen(6)", x.seen(6), 31);
        due("seen(9)", x.seen(9), 0);
        due("seen(60)", x.seen(60), 0);
        due("seen(61)", x.seen(61), -1);
        due("seen(-1)", x.seen(-1), -1);
        x.go(4);
        due("heard(0, 0)", x.heard(0, 0), 1);
        due("heard(0, 1)", x.heard(0, 1), 0);
        due("heard(3, 0)", x.heard(3, 0), -1);
        due("heard(0, 2)", x.heard(0, 2), -1);
        due("heard(-1, 0)", x.heard(-1, 0), -1);
        due("heard(0, -1)", x.heard(0, -1), -1);
    }

    private static long worth(String e) {
        return with("rider r 3 7 0 1;joke j 5 1;law mirth " + e + ";").law(0, 0, 0);
    }

    private static void laws() {
        due("2+3*4", worth("2+3*4"), 14);
        due("(2+3)*4", worth("(2+3)*4"), 20);
        due("10-3-2", worth("10-3-2"), 5);
        due("100/7/2", worth("100/7/2"), 7);
        due("cut towards 0", worth("(0-7)/2"), -3);
        due("7/(0-2)", worth("7/(0-2)"), -3);
        due("2*7/4", worth("2*7/4"), 3);
        due("1<2", worth("1<2"), 1);
        due("2<=1", worth("2<=1"), 0);
        due("2=2", worth("2=2"), 1);
        due("2<>2", worth("2<>2"), 0);
        due("3>=3", worth("3>=3"), 1);
        due("3>3", worth("3>3"), 0);
        due("not 2", worth("not 2"), 0);
        due("not not 2", worth("not not 2"), 1);
        due("not 1=2", worth("not 1=2"), 1);
        due("not 1+2", worth("not 1+2"), 0);
        due("5 and 7", worth("5 and 7"), 1);
        due("5 and 0", worth("5 and 0"), 0);
        due("0 or 9", worth("0 or 9"), 1);
        due("1 or 1 and 0", worth("1 or 1 and 0"), 1);
        due("not 0 and 0", worth("not 0 and 0"), 0);
        due("1+1<1+2", worth("1+1<1+2"), 1);
        due("(1<2)<3", worth("(1<2)<3"), 1);
        due("fun*1000+likes*100+heard*10+mood", worth("fun*1000+likes*100+heard*10+mood"), 5100);
        due("dull*100+halts*10+mile", worth("dull*100+halts*10+mile"), 700);
        due("9999", worth("9999"), 9999);
        due("a big one", worth("9999*9999*9999"), 999700029999L);
        LaughLine x = with("rider r 9 0 0 1;rider s 3 0 2 0;joke j 5 1;sight 0 20;sight 1 20;tell j 1;law mirth heard*100+likes;"
            + "law laugh fun+likes+heard+mile*10+halts*100>0-1 and mile<2 and mood>0;law calm halts*100+mile+fun;");
        due("law(0, 0, 0)", x.law(0, 0, 0), 1);
        due("law(0, 1, 0)", x.law(0, 1, 0), 0);
        due("law(1, 0, 0)", x.law(1, 0, 0), 0);
        due("law(1, 0, -5)", x.law(1, 0, -5), 0);
        due("law(2, 0, 99)", x.law(2, 0, 99), 0);
        due("no such law", x.law(3, 0, 0), ERROR);
        due("no such law", x.law(-1, 0, 0), ERROR);
        due("no such rider", x.law(1, 2, 0), ERROR);
        due("no such rider", x.law(2, -1, 0), ERROR);
        due("no such joke", x.law(0, 0, 1), ERROR);
        due("no such joke", x.law(0, 0, -1), ERROR);
        // mile 0: mirth is 0 of a sight, nobody laughs; mile 1: r has 1 of the joke, laughs
        x.go(2);
        due("law(0, 0, 0)", x.law(0, 0, 0), 101);
        due("law(2, 0, 0)", x.law(2, 0, 0), 102);
        due("count(9)", x.count(9), 1);
        due("has(1, 0)", x.has(1, 0), 0);
        due("without a law", with("rider r 1 1 1 1;joke j 1 1;").law(0, 0, 0), ERROR);
    }

    private static void lawErrors() {
        due("1/0", worth("1/0"), ERROR);
        due("both sides", worth("1 or 1/0"), ERROR);
        due("both sides", worth("0 and 1/0"), ERROR);
        due("not an error", worth("not (1/0)"), ERROR);
        due("10 to the 12", worth("1000*1000*1000*1000"), 1000000000000L);
        due("1 above", worth("1000*1000*1000*1000+1"), ERROR);
        due("below", worth("0-1000*1000*1000*1000"), -1000000000000L);
        due("1 below", worth("0-1000*1000*1000*1000-1"), ERROR);
        due("far above", worth("9999*9999*9999*(9999*9999*9999)"), ERROR);
        due("above between", worth("(1000*1000*1000*1000+1)*0"), ERROR);
        due("far below", worth("(0-9999*9999*9999)*(9999*9999*9999)"), ERROR);
        due("a long would wrap to 0", worth("8192*8192*8192*(4096*8192)"), ERROR);
        due("a long would wrap to 0", worth("(0-8192*8192*8192)*(4096*8192)"), ERROR);
        due("a long would wrap to 0", worth("8192*8192*8192*(0-4096*8192)"), ERROR);
        due("0 times", worth("0*(1000*1000*1000*1000)"), 0);
        // with an error, as without a law
        LaughLine x = with("rider r 9 50 0 1;joke j 20 1;tell j 0;law mirth 1/0;law laugh 1/0;law calm 1/0;");
        x.go(1);
        riderDue(x, 0, 4, "28");
        due("nobody laughs", x.count(10), 0);
        x = with("rider r 9 30 0 1;joke j 20 1;tell j 0;law mirth 1/0;law laugh 1/0;law calm 1/0;");
        x.go(1);
        due("laughs", x.count(10), 1);
    }

    private static LaughLine afterOne(String text) {
        LaughLine x = with(text);
        x.go(1);
        return x;
    }

    private static void mirth() {
        String calm = "law calm 0;law laugh 0;";
        riderDue(afterOne("rider r 9 0 0 1;joke j 95 1;tell j 0;" + calm), 0, 4, "99");
        riderDue(afterOne("rider r 9 0 0 2;joke j 95 1;tell j 0;" + calm), 0, 4, "95");
        riderDue(afterOne("rider r 9 0 0 2;joke j 9 2;joke k 4 1;tell j 0;tell k 0;sight 0 7;" + calm), 0, 4, "30");
        riderDue(afterOne("rider r 9 0 0 2;joke j 9 2;tell j 0;law mirth 100;" + calm), 0, 4, "99");
        riderDue(afterOne("rider r 9 0 0 2;joke j 9 2;tell j 0;law mirth 0-1;" + calm), 0, 4, "0");
        riderDue(afterOne("rider r 9 0 0 2;sight 0 7;law mirth fun+1+likes*50+heard*9;" + calm), 0, 4, "8");
        riderDue(afterOne("rider r 9 0 0 2;sight 0 7;tunnel 0 0;" + calm), 0, 4, "0");
        riderDue(afterOne("rider r 9 0 0 2;sight 1 7;joke j 9 2;tell j 1;" + calm), 0, 4, "0");
        // by numbers: the second joke's law sees the mood of the first one
        riderDue(afterOne("rider r 9 0 0 2;joke j 1 2;joke k 2 2;tell k 0;tell j 0;law mirth fun+mood*10;" + calm), 0, 4, "13");
        // heard: 5 less each, none at least
        LaughLine x = with("line 1;rider r 9 0 0 0;rider s 9 0 0 0;joke j 12 1;tell j 0;" + calm);
        x.ears(1, true);
        int[] moods = {12, 7, 2, 0, 0};
        for (int day = 0; day < 5; day++) {
            x.go(1);
            riderDue(x, 0, 4, "" + moods[day]);
            riderDue(x, 1, 4, "0");
            due("heard", x.heard(0, 0), day + 1);
            due("not heard", x.heard(1, 0), 0);
            x.go(1);
        }
        // ears stopped: sights are seen
        x = with("rider r 9 0 0 0;sight 0 7;joke j 12 1;tell j 0;" + calm);
        x.ears(0, true);
        x.go(1);
        riderDue(x, 0, 4, "7");
    }

    private static void moodBounds() {
        StringBuilder t = new StringBuilder("line 3;rider r 60 0 0 0;law calm 0;law laugh 0;");
        for (int j = 0; j < 6; j++) {
            t.append("joke j").append((char) ('a' + j)).append(" 99 0;");
        }
        LaughLine x = with(t.toString());
        for (int j = 0; j < 6; j++) {
            x.tell(j, 0, true);
            x.tell(j, 1, true);
        }
        x.go(1);
        riderDue(x, 0, 4, "594");
        x.go(1);
        riderDue(x, 0, 4, "999");
    }

    private static void laughing() {
        // one after another: a (20) laughs, b is 12 and 10, laughs, a is 10 then and has laughed already
        LaughLine x = afterOne("rider a 9 5 3 0;rider b 9 20 4 0;rider c 9 20 6 0;rider d 9 99 2 0;joke j 12 1;tell j 0;law calm 0;");
        riderDue(x, 0, 4, "10");
        riderDue(x, 1, 4, "0");
        riderDue(x, 2, 4, "12");
        riderDue(x, 3, 4, "22");
        due("laughs", x.count(10), 2);
        due("has(0, 0)", x.has(0, 0), 1);
        due("has(1, 0)", x.has(1, 0), 1);
        // b is ahead of a here: it has not caught it yet when it is its turn
        x = afterOne("rider b 9 20 4 0;rider a 9 5 3 0;joke j 12 1;tell j 0;law calm 0;");
        riderDue(x, 0, 4, "22");
        due("laughs", x.count(10), 1);
        // the same seat is not beside
        x = afterOne("rider a 9 5 3 0;rider b 9 90 3 0;joke j 12 1;tell j 0;law calm 0;");
        riderDue(x, 1, 4, "12");
        // dull 0: not without a mood
        due("mood 0", afterOne("rider a 9 0 3 0;").count(10), 0);
        due("mood 1", afterOne("rider a 9 0 3 0;sight 0 1;").count(10), 1);
        due("mood as dull", afterOne("rider a 9 7 3 0;sight 0 7;").count(10), 1);
        due("mood below dull", afterOne("rider a 9 8 3 0;sight 0 7;").count(10), 0);
        due("a law, below 0", afterOne("rider a 9 8 3 0;law laugh 0-1;").count(10), 1);
        // who is out neither laughs nor catches it
        x = with("rider a 0 0 0 0;rider b 9 0 1 0;sight 0 5;sight 1 5;law calm 0;near 0;");
        x.go(2);
        riderDue(x, 0, 5, "0");
        due("has(0, 0)", x.has(0, 0), 1);
        due("has(1, 0)", x.has(1, 0), 2);
        riderDue(x, 0, 4, "10");
    }

    private static void calm() {
        riderDue(afterOne("rider a 9 90 3 0;sight 0 7;"), 0, 4, "5");
        riderDue(afterOne("rider a 9 90 3 0;sight 0 1;"), 0, 4, "0");
        riderDue(afterOne("rider a 9 90 3 0;sight 0 7;law calm 5;"), 0, 4, "2");
        riderDue(afterOne("rider a 9 90 3 0;sight 0 7;law calm 0-5;"), 0, 4, "7");
        riderDue(afterOne("rider a 9 90 3 0;sight 0 50;sight 0 60;law calm 200;law laugh 0;"), 0, 4, "11");
        // this halt counts for calm, not for laugh
        riderDue(afterOne("rider a 9 0 3 0;rider b 9 99 9 0;sight 0 50;law calm halts*7;"), 1, 4, "43");
        LaughLine x = afterOne("rider a 9 0 3 0;rider b 9 0 9 0;sight 0 50;law laugh halts or mood>60;");
        due("nobody laughs", x.count(10), 0);
    }

    private static void halts() {
        // homes 2 and 6 are as far as near at most, 1 and 7 are not
        LaughLine x = with("line 9;rider a 2 0 0 0;rider b 6 90 2 0;rider c 1 90 4 0;rider d 7 90 6 0;sight 4 5;near 2;");
        x.go(5);
        String[] aboard = {"0", "0", "1", "1"};
        for (int r = 0; r < 4; r++) {
            riderDue(x, r, 5, aboard[r]);
            riderDue(x, r, 6, aboard[r].equals("0") ? "4" : "-1");
        }
        counts(x, "halt", 6, 0, 5, 7, 1, 1, 2, 0, 2);
        // near 0, and near 1 without
        due("near 0", afterOne("rider a 1 0 0 0;sight 0 5;near 0;").count(11), 0);
        due("near 1", afterOne("rider a 1 0 0 0;sight 0 5;").count(11), 1);
        due("near 1", afterOne("rider a 2 0 0 0;sight 0 5;").count(11), 0);
        // nobody laughs: no halt at home
        due("no halt", afterOne("rider a 0 90 0 0;sight 0 5;").count(11), 0);
        // the last mile is one of the day
        x = with("line 2;rider a 2 0 0 0;sight 2 5;");
        due("go(3)", x.go(3), 0);
        counts(x, "last mile", 6, 1, 0, 5, 1, 1, 1, 0, 1);
    }

    private static void days() {
        LaughLine x = with("line 1;rider a 1 0 0 0;sight 0 5;joke j 9 0;tell j 1;near 0;");
        due("go(-1)", x.go(-1), -1);
        due("go(100)", x.go(100), -1);
        due("go(0)", x.go(0), 0);
        counts(x, "nothing went by", 6, 0, 0, 0);
        // each day: a laughs at 0, halts in vain, at 1 of j, as long as it is no bore
        due("go(1)", x.go(1), 1);
        counts(x, "mile 1", 6, 0, 1, 3, 1, 1, 0, 0, 1);
        due("go(1)", x.go(1), 0);
        counts(x, "day 1", 6, 1, 0, 6, 2, 2, 1, 0, 1);
        riderDue(x, 0, 6, "1");
        due("go(99)", x.go(99), 1);
        due("count(6)", x.count(6), 50);
        for (int i = 0; i < 17; i++) {
            x.go(99);
        }
        due("count(6)", x.count(6), 892);
        due("go(18)", x.go(18), 0);
        counts(x, "day 901", 6, 901, 0);
        due("go(1) on day 901", x.go(1), -1);
        due("go(0) on day 901", x.go(0), -1);
        counts(x, "none does", 6, 901, 0);
        due("ahead on day 901", x.ahead(2, 0), 1);
        x = with("line 1;rider a 1 0 0 0;");
        for (int i = 0; i < 18; i++) {
            x.go(99);
        }
        due("go(19)", x.go(19), 1);
        due("count(6)", x.count(6), 900);
        due("go(1) on day 900", x.go(1), 0);
        due("count(6)", x.count(6), 901);
        due("passed", x.has(0, 2), 901);
        due("passed in all", x.count(12), 901);
        // out last: it stays when it passes on a later day
        x = with("line 1;rider a 0 12 0 0;joke j 12 1;tell j 0;");
        x.go(4);
        riderDue(x, 0, 6, "0");
        riderDue(x, 0, 7, "1");
        due("has(0, 2)", x.has(0, 2), 1);
    }

    private static void byCall() {
        LaughLine x = with(TRAIN);
        due("ears(0, false)", x.ears(0, false), false);
        due("ears(0, true)", x.ears(0, true), true);
        due("ears(0, true)", x.ears(0, true), false);
        due("has(0, 1)", x.has(0, 1), 1);
        due("ears(3, true)", x.ears(3, true), false);
        due("ears(-1, true)", x.ears(-1, true), false);
        due("seat(0, 0)", x.seat(0, 0), false);
        due("seat(0, 9)", x.seat(0, 9), true);
        riderDue(x, 0, 2, "9");
        due("seat(0, 10)", x.seat(0, 10), false);
        due("seat(0, -1)", x.seat(0, -1), false);
        due("seat(3, 1)", x.seat(3, 1), false);
        due("seat(1, 9), taken", x.seat(1, 9), true);
        due("tell(0, 3, true)", x.tell(0, 3, true), false);
        due("tell(0, 3, false)", x.tell(0, 3, false), true);
        due("tell(0, 3, false)", x.tell(0, 3, false), false);
        due("tell(1, 60, true)", x.tell(1, 60, true), true);
        due("tell(1, 61, true)", x.tell(1, 61, true), false);
        due("tell(1, -1, true)", x.tell(1, -1, true), false);
        due("tell(2, 1, true)", x.tell(2, 1, true), false);
        due("tell(-1, 1, true)", x.tell(-1, 1, true), false);
        due("count(2)", x.count(2), 1);
        due("told(0, 3)", x.told(0, 3), 0);
        due("told(1, 60)", x.told(1, 60), 1);
        // by call there may be more than eight
        for (int m = 0; m < 20; m++) {
            due("tell", x.tell(0, m, true), true);
        }
        due("count(2)", x.count(2), 21);
        due("joke(0, 2)", x.joke(0, 2), 20);
    }

    private static void undoes() {
        LaughLine x = with(TRAIN);
        x.ears(0, true);
        x.seat(1, 7);
        x.tell(0, 3, false);
        x.tell(1, 5, true);
        due("count(16)", x.count(16), 4);
        x.go(0);
        due("undo()", x.undo(), 3);
        due("told(1, 5)", x.told(1, 5), 0);
        due("undo()", x.undo(), 2);
        due("told(0, 3)", x.told(0, 3), 1);
        due("undo()", x.undo(), 1);
        riderDue(x, 1, 2, "1");
        due("undo()", x.undo(), 0);
        due("has(0, 1)", x.has(0, 1), 0);
        due("undo()", x.undo(), -1);
        x.ears(0, true);
        x.go(1);
        due("count(16)", x.count(16), 0);
        due("undo() behind a mile", x.undo(), -1);
        due("has(0, 1)", x.has(0, 1), 1);
        for (int m = 11; m <= 31; m++) {
            x.tell(0, m, true);
        }
        due("count(16)", x.count(16), 20);
        for (int i = 19; i >= 0; i--) {
            due("undo()", x.undo(), i);
        }
        due("undo()", x.undo(), -1);
        due("the oldest stays", x.told(0, 11), 1);
        due("the next one doesn't", x.told(0, 12), 0);
    }

    private static void images() {
        LaughLine x = with(TRAIN);
        due("back()", x.back(), -1);
        x.go(4);
        x.ears(2, true);
        x.seat(2, 8);
        x.tell(1, 7, true);
        due("keep()", x.keep(), 0);
        due("count(16)", x.count(16), 3);
        x.ears(2, false);
        x.seat(2, 4);
        x.tell(1, 7, false);
        x.note(0, 3, true);
        x.go(9);
        due("count(6)", x.count(6), 1);
        x.ears(0, true);
        due("back()", x.back(), 0);
        due("count(16)", x.count(16), 0);
        counts(x, "as in the image", 6, 0, 4, 6, 1, 2, 2, 0, 1);
        due("has(2, 1)", x.has(2, 1), 1);
        due("has(0, 1)", x.has(0, 1), 0);
        riderDue(x, 2, 2, "8");
        riderDue(x, 2, 4, "13");
        due("told(1, 7)", x.told(1, 7), 1);
        due("heard(0, 0)", x.heard(0, 0), 1);
        due("notes stay", x.count(14), 1);
        x.go(11);
        due("keep()", x.keep(), 1);
        x.go(20);
        due("back()", x.back(), 1);
        due("back() again", x.back(), 1);
        due("count(7)", x.count(7), 4);
    }

    private static void ahead() {
        LaughLine x = with(TRAIN);
        int[] four = {1, 2, 2, 0, 6};
        int[] day = {1, 2, 2, 1, 13};
        for (int what = 0; what < 5; what++) {
            due("ahead(4, " + what + ")", x.ahead(4, what), four[what]);
            due("ahead(11, " + what + ")", x.ahead(11, what), day[what]);
            due("ahead(0, " + what + ")", x.ahead(0, what), 0);
        }
        due("ahead(99, 4) goes on for days", x.ahead(99, 3) > 3, true);
        due("ahead(100, 0)", x.ahead(100, 0), -1);
        due("ahead(-1, 0)", x.ahead(-1, 0), -1);
        due("ahead(1, 5)", x.ahead(1, 5), -1);
        due("ahead(1, -1)", x.ahead(1, -1), -1);
        counts(x, "nothing went by", 6, 0, 0, 0, 0, 0, 0, 0, 3);
        due("getsOut(0)", x.getsOut(0), 3);
        due("getsOut(2)", x.getsOut(2), -2);
        due("getsOut(3)", x.getsOut(3), -1);
        due("getsOut(-1)", x.getsOut(-1), -1);
        due("nextHalt()", x.nextHalt(), 4);
        x.go(3);
        due("nextHalt(), this one", x.nextHalt(), 1);
        x.go(1);
        due("getsOut(0), not aboard", x.getsOut(0), -2);
        due("nextHalt(), of the next day", x.nextHalt(), 11);
        due("nextHalt(), never", with("rider a 1 1 1 1;").nextHalt(), -2);
        // on day 1 alone: 60 and 39 are the 99th, 60 and 40 not any more
        String once = "line 60;rider a 0 0 0 0;joke j 0 1;tell j 0;law mirth (heard=1)*9;";
        x = with(once);
        x.go(1);
        due("nextHalt()", x.nextHalt(), 61);
        x = with("line 60;rider a 0 0 0 0;joke j 0 1;tell j 38;law mirth (heard=1)*9;");
        x.go(1);
        due("nextHalt()", x.nextHalt(), 99);
        x = with("line 60;rider a 0 0 0 0;joke j 0 1;tell j 38;law mirth (heard=1)*9;");
        due("nextHalt()", x.nextHalt(), -2);
    }

    private static void when() {
        // told at 5 (mile of the homes 5, 6) two get home; at 4 one; on day 1 it is heard once: 15 is enough
        LaughLine x = with("line 8;rider a 5 10 0 0;rider b 6 10 5 0;rider c 2 99 9 0;joke j 20 1;joke k 20 1;");
        due("when(0, 0)", x.when(0, 0), 5);
        due("when(0, 1)", x.when(0, 1), 2);
        due("when(0, 2)", x.when(0, 2), -1);
        due("when(0, -1)", x.when(0, -1), -1);
        due("when(2, 0)", x.when(2, 0), -1);
        due("when(-1, 0)", x.when(-1, 0), -1);
        // nothing helps: the first mile, none alight
        x = with("line 8;rider c 2 99 9 0;joke j 20 1;");
        due("when(0, 0)", x.when(0, 0), 0);
        due("when(0, 1)", x.when(0, 1), 0);
        // the last mile is one of them
        x = with("line 8;rider c 9 9 9 0;joke j 20 1;");
        due("when(0, 0)", x.when(0, 0), 8);
        due("when(0, 1)", x.when(0, 1), 1);
        // once where it is told already: on day 1 it is 5 less, and not twice of it
        x = with("line 8;rider c 4 20 9 0;joke j 20 1;tell j 4;");
        due("when(0, 1)", x.when(0, 1), 1);
        // 15 at 2, less 4, and 10 at 4
        due("when(0, 0)", x.when(0, 0), 2);
        x = with("line 8;rider c 4 20 9 0;joke j 20 1;tell j 4;near 0;law calm 99;");
        due("when(0, 1)", x.when(0, 1), 0);
        due("as it was", x.joke(0, 2), 1);
    }

    private static void both() {
        LaughLine x = with("line 12;rider a 2 10 0 0;rider b 9 10 5 0;joke j 10 1;joke k 10 2;near 0;law calm 99;");
        // the miles are 0 2 4 7 9 12
        due("both(0, 1, 0)", x.both(0, 1, 0), 2);
        due("both(0, 1, 1)", x.both(0, 1, 1), 9);
        due("both(0, 1, 2)", x.both(0, 1, 2), 2);
        due("both(1, 0, 0)", x.both(1, 0, 0), 2);
        due("both(0, 0, 0)", x.both(0, 0, 0), -1);
        due("both(0, 2, 0)", x.both(0, 2, 0), -1);
        due("both(-1, 0, 0)", x.both(-1, 0, 0), -1);
        due("both(0, 1, 3)", x.both(0, 1, 3), -1);
        due("both(0, 1, -1)", x.both(0, 1, -1), -1);
        // one mile for both of them
        x = with("line 12;rider a 7 20 0 0;joke j 10 1;joke k 10 2;near 0;law calm 99;");
        due("both(0, 1, 0)", x.both(0, 1, 0), 7);
        due("both(0, 1, 1)", x.both(0, 1, 1), 7);
        due("both(0, 1, 2)", x.both(0, 1, 2), 1);
        // the last one
        x = with("line 12;rider a 12 10 0 0;joke j 10 1;joke k 10 2;near 0;law calm 99;");
        due("both(0, 1, 0)", x.both(0, 1, 0), 0);
        due("both(0, 1, 1)", x.both(0, 1, 1), 12);
    }

    private static void seating() {
        // b laughs if a sits beside; c is far away
        LaughLine x = with("line 4;rider a 60 5 3 0;rider b 60 20 4 0;rider c 60 99 8 0;joke j 15 1;tell j 2;law mirth 12;");
        // as they are: a, b. The first order without b beside a: a in 3, b in 8, c in 4
        due("seating(0)", x.seating(0), 3);
        due("seating(1)", x.seating(1), 8);
        due("seating(2)", x.seating(2), 4);
        due("seating(3)", x.seating(3), -2);
        due("seating(4)", x.seating(4), 1);
        due("seating(5)", x.seating(5), -1);
        due("seating(-1)", x.seating(-1), -1);
        riderDue(x, 1, 2, "4");
        // by the riders' numbers, not by the seats: 0 2 1 comes ahead of 1 0 2
        x = with("line 4;rider a 60 5 9 0;rider b 60 20 8 0;rider c 60 99 1 0;joke j 15 1;tell j 2;law mirth 12;");
        due("seating(0)", x.seating(0), 9);
        due("seating(1)", x.seating(1), 1);
        due("seating(2)", x.seating(2), 8);
        // the fifth keeps the seat and counts: a laughs, then e beside 4; a must not sit in 3 or 5
        x = with("line 4;rider a 60 5 3 0;rider b 60 99 5 0;rider c 60 99 0 0;rider d 60 99 7 0;rider e 60 20 4 0;"
            + "joke j 15 1;tell j 2;law mirth 12;");
        due("seating(0)", x.seating(0), 0);
        due("seating(1)", x.seating(1), 3);
        due("seating(2)", x.seating(2), 5);
        due("seating(3)", x.seating(3), 7);
        due("seating(4)", x.seating(4), 1);
        // all alike: as they are
        x = with("rider a 60 5 3 0;rider b 60 5 1 0;");
        due("seating(0)", x.seating(0), 3);
        due("seating(1)", x.seating(1), 1);
        due("seating(2)", x.seating(2), -2);
        due("seating(4)", x.seating(4), 0);
        x = new LaughLine();
        due("seating(0)", x.seating(0), -2);
        due("seating(4)", x.seating(4), 0);
    }

    private static void stopped() {
        // b goes off at 0 by j, and b's mood is gone when home is near at 1: if a is deaf, b has no 10 more
        String t = "line 5;rider a 60 10 0 0;rider b 3 20 1 0;rider c 60 10 2 0;joke j 12 1;sight 3 12;tell j 0;"
            + "law mirth 12;law calm 0;near 0;";
        LaughLine x = with(t);
        // as it is: at 0 a laughs (b 22, laughs, a 10, c 22), c laughs (b 10); at 3 a 22, b 22 + 10: b laughs at 3
        due("stopped(1)", x.stopped(1), 0);
        due("getsOut(1)", x.getsOut(1), 3);
        due("stopped(0)", x.stopped(0), -2);
        due("stopped(3)", x.stopped(3), -1);
        due("stopped(-1)", x.stopped(-1), -1);
        // b laughs once a day only, by a law: a or c must not make it laugh at 0; both a and c are needed
        t = "line 5;rider a 60 10 0 0;rider b 3 20 1 0;rider c 60 10 2 0;joke j 12 1;sight 3 12;tell j 0;"
            + "law mirth 12;law calm 0;near 0;law laugh mood>=dull and halts=0;";
        x = with(t);
        due("stopped(1)", x.stopped(1), 5);
        due("nothing is done", x.has(0, 1), 0);
        x.ears(0, true);
        due("stopped(1), a is deaf", x.stopped(1), 4);
        x.ears(2, true);
        due("stopped(1), both are", x.stopped(1), 0);
        // one of a, c is enough: b is 22 at 0 then, 34 at home; the least of both
        t = "line 5;rider a 60 10 0 0;rider c 60 10 2 0;rider b 3 30 1 0;joke j 12 1;sight 3 12;tell j 0;"
            + "law mirth 12;law calm 0;near 0;law laugh mood>=dull and (dull=30 or mile=0);";
        x = with(t);
        due("stopped(2)", x.stopped(2), 1);
        due("getsOut(2)", x.getsOut(2), -2);
        // p and q, or r alone, who laughs if one of them does: the fewest, though 4 is more than 3
        t = "line 5;rider p 60 10 3 0;rider q 60 10 3 0;rider r 60 22 2 0;rider b 3 21 1 0;joke j 12 1;sight 3 12;tell j 0;"
            + "law mirth 12;law calm 0;near 0;law laugh mood>=dull and (dull=21 or mile=0);";
        due("stopped(3)", with(t).stopped(3), 4);
        // its own ears would help: they are none of the others'
        x = with("line 5;rider b 3 20 0 0;joke j 25 1;sight 1 12;sight 3 12;tell j 0;law mirth fun;law calm 0;near 0;"
            + "law laugh mood>=dull and halts=0;");
        due("stopped(0)", x.stopped(0), -2);
        x.ears(0, true);
        due("stopped(0), it is deaf", x.stopped(0), 0);
    }

    private static void clowns() {
        // the miles are 0 2 4 6 8; whoever tells has the laugh of a; the same mile: half of one, none
        LaughLine x = with("line 8;rider a 60 5 0 0;joke j 10 1;joke k 10 1;law mirth 10;law calm 99;");
        // each has 1 at a mile of its own, 0 if both are at one: all pairs of two miles are rests
        due("rests(0, 1)", x.rests(0, 1), 20);
        due("rest(0, 1, 0)", x.rest(0, 1, 0), 1);
        due("rest(0, 1, 4)", x.rest(0, 1, 4), 10);
        due("rest(0, 1, 19)", x.rest(0, 1, 19), 43);
        due("rest(0, 1, 20)", x.rest(0, 1, 20), -2);
        due("rest(0, 1, -1)", x.rest(0, 1, -1), -1);
        due("rest(0, 0, 0)", x.rest(0, 0, 0), -1);
        due("rest(0, 2, 0)", x.rest(0, 2, 0), -1);
        due("rests(0, 0)", x.rests(0, 0), -1);
        due("rests(0, 2)", x.rests(0, 2), -1);
        due("rests(-1, 1)", x.rests(-1, 1), -1);
        // two riders, who laugh at mile 4 alone: half of two is as good as none elsewhere is worse
        x = with("line 8;rider a 60 5 0 0;rider b 60 5 5 0;joke j 10 1;joke k 10 1;law mirth 10;law calm 99;"
            + "law laugh mile=4 and mood>0;");
        due("rests(0, 1)", x.rests(0, 1), 1);
        due("rest(0, 1, 0)", x.rest(0, 1, 0), 22);
        // a line of one mile: 0 0 0 0 1, and a mile is the same by whichever choice
        x = with("line 1;rider a 60 5 0 0;joke j 10 1;joke k 10 1;law mirth 10;law calm 99;");
        due("rests(0, 1)", x.rests(0, 1), 8);
        due("rest(0, 1, 0)", x.rest(0, 1, 0), 4);
        due("rest(0, 1, 4)", x.rest(0, 1, 4), 40);
    }

    private static void likely() {
        // the next day j is 15: with a mood of 6 or more at 0, 4 at 1 and so on; at 2 it is 2 and 15
        LaughLine x = with("line 5;rider a 2 18 0 0;rider b 2 90 1 0;joke j 20 1;tell j 2;law calm 1;");
        // mood 0 .. 9 less 2 and 15 is 18 from 5 on: 5 of 10
        due("likely(0, 0)", x.likely(0, 0), 1);
        due("likely(0, 1)", x.likely(0, 1), 2);
        // b alights, if a laughs: its own mood is nothing
        due("likely(1, 0)", x.likely(1, 0), 0);
        due("likely(1, 1)", x.likely(1, 1), 1);
        due("likely(0, 2)", x.likely(0, 2), -1);
        due("likely(0, -1)", x.likely(0, -1), -1);
        due("likely(2, 0)", x.likely(2, 0), -1);
        due("likely(-1, 0)", x.likely(-1, 0), -1);
        x = with("line 5;rider a 2 16 0 0;joke j 20 1;tell j 2;law calm 1;");
        due("likely 7 of 10", x.likely(0, 0), 7);
        due("likely 7 of 10", x.likely(0, 1), 10);
        x = with("line 5;rider a 2 15 0 0;joke j 20 1;tell j 2;law calm 1;");
        due("likely 1", x.likely(0, 0), 1);
        due("likely 1", x.likely(0, 1), 1);
    }

    private static void solemnAndLate() {
        LaughLine x = with("line 9;rider a 7 5 0 0;rider b 7 90 5 0;rider c 60 5 9 0;sight 2 9;sight 7 9;");
        due("solemn()", x.solemn(), 2);
        // mile 2 halts: 2 and 3, then 3 .. 6
        due("late(0)", x.late(0), 9);
        due("late(1)", x.late(1), 9);
        due("late(2)", x.late(2), -2);
        due("late(3)", x.late(3), -1);
        due("late(-1)", x.late(-1), -1);
        due("none goes by", x.count(8), 0);
        x.go(5);
        due("late(0), of the next day", x.late(0), 9);
        // heard by the next day: 12, then 7
        x = with("rider a 0 10 0 0;joke j 12 1;tell j 0;");
        due("solemn()", x.solemn(), 1);
        due("late(0)", x.late(0), -2);
        due("getsOut(0)", x.getsOut(0), 0);
        x = with("rider a 0 10 0 0;sight 0 12;");
        due("late(0) at once", x.late(0), 0);
        due("solemn()", x.solemn(), 0);
        // the longest line: mile 60 is one of this day, and of the next one
        x = with("line 60;rider a 60 10 0 0;joke j 12 1;tell j 60;near 0;law mirth 12-heard;");
        due("late(0)", x.late(0), 60);
        due("getsOut(0)", x.getsOut(0), 60);
        due("when(0, 1)", x.when(0, 1), 1);
        due("likely(0, 0)", x.likely(0, 0), 1);
        x = with("line 60;rider a 60 12 0 0;joke j 12 1;tell j 60;near 0;law mirth 12-heard;");
        due("late(0), heard at 60", x.late(0), -2);
        due("solemn(), heard at 60", x.solemn(), 1);
    }

    private static void notes() {
        LaughLine x = with(TRAIN);
        due("note(3, 0, true)", x.note(3, 0, true), -1);
        due("note(-1, 0, true)", x.note(-1, 0, true), -1);
        due("note(0, 61, true)", x.note(0, 61, true), -1);
        due("note(0, -1, true)", x.note(0, -1, true), -1);
        due("out(0)", x.out(0), -1);
        due("out(-1)", x.out(-1), -1);
        due("count(14)", x.count(14), 0);
        for (int i = 0; i < 23; i++) {
            due("note", x.note(0, 60, false), i);
        }
        due("out(23)", x.out(23), -1);
        due("out(0)", x.out(0), 23);
        due("out(0) of 24", x.out(0), -1);
        due("note of 24", x.note(0, 0, true), -1);
        due("count(14)", x.count(14), 24);
        due("count(15)", x.count(15), 24);
        due("known(25)", x.known(25), false);
        due("known(-2)", x.known(-2), false);
        due("known(24)", x.known(24), true);
        due("known(0)", x.known(0), true);
        due("count(15)", x.count(15), 0);
        due("known(-1)", x.known(-1), true);
        due("count(15)", x.count(15), 24);
        x = with(TRAIN);
        x.note(0, 3, true);
        x.known(1);
        x.note(0, 3, true);
        due("count(15) stays", x.count(15), 1);
        x.known(-1);
        x.note(0, 3, true);
        due("count(15), those to come", x.count(15), 3);
    }

    private static void dulls() {
        // 30 at mile 2: out, if dull is 30 at most
        String t = "line 5;rider a 2 30 0 0;rider b 2 90 5 0;joke j 20 0;tell j 2;";
        LaughLine x = with(t);
        due("nothing is known", x.dulls(0), 1023);
        due("dulls(2)", x.dulls(2), -1);
        due("dulls(-1)", x.dulls(-1), -1);
        due("note", x.note(0, 2, true), 0);
        due("dulls(0)", x.dulls(0), 15);
        // b as it is: a laughs whatever b is
        due("dulls(1)", x.dulls(1), 1023);
        due("note", x.note(0, 2, false), 1);
        due("both can't be", x.dulls(0), 0);
        due("out(0)", x.out(0), 2);
        due("dulls(0)", x.dulls(0), 1008);
        due("out(2): what strikes is struck", x.out(2), 3);
        due("dulls(0)", x.dulls(0), 0);
        due("out(3)", x.out(3), 4);
        due("dulls(0)", x.dulls(0), 1008);
        due("known(1)", x.known(1), true);
        due("dulls(0)", x.dulls(0), 15);
        due("known(0)", x.known(0), true);
        due("dulls(0)", x.dulls(0), 1023);
        due("known(4)", x.known(4), true);
        due("dulls(0)", x.dulls(0), 0);
        // day 0 from the text on, nothing done by call
        x = with(t);
        x.note(0, 2, true);
        x.tell(0, 2, false);
        x.ears(0, true);
        x.go(8);
        due("dulls(0)", x.dulls(0), 15);
        counts(x, "nothing went by", 6, 1, 2);
    }

    private static void chance() {
        String t = "line 5;rider a 2 30 0 0;rider b 9 90 9 0;joke j 20 0;tell j 2;law calm 0;";
        LaughLine x = with(t);
        due("30 is enough", x.chance(5, 3, 0, 1), 10);
        due("mile 2 is the third", x.chance(5, 2, 0, 1), 0);
        due("0 more", x.chance(5, 1, 0, 0), 10);
        due("no such seed", x.chance(-1, 3, 0, 1), -1);
        due("the greatest seed", x.chance(Integer.MAX_VALUE, 3, 0, 1), 10);
        due("n 0", x.chance(5, 0, 0, 1), -1);
        due("n 100", x.chance(5, 100, 0, 1), -1);
        due("rider 2", x.chance(5, 3, 2, 1), -1);
        due("often 10", x.chance(5, 3, 0, 10), -1);
        due("often -1", x.chance(5, 3, 0, -1), -1);
        // ten numbers from the seed on, by hand: which are 5 at least
        x = with("line 5;rider a 2 35 0 0;joke j 20 0;tell j 2;law calm 0;");
        due("35", x.chance(1, 3, 0, 1), often(1, 1, 0, 5));
        due("35", x.chance(77, 3, 0, 1), often(77, 1, 0, 5));
        // a sight's number is drawn first, that of one in a tunnel isn't
        x = with("line 5;rider a 2 35 0 0;joke j 20 0;tell j 2;sight 1 0;sight 2 0;sight 3 9;tunnel 1 1;tunnel 3 3;"
            + "law calm 0;law mirth (fun>=20)*(fun+10);");
        due("with a sight", x.chance(7, 3, 0, 1), often(7, 2, 1, 5));
        due("with a sight", x.chance(7, 6, 0, 1), often(7, 2, 1, 5));
        // one for all riders, and though nobody hears it
        x = with("line 5;rider a 2 35 0 0;rider b 2 99 9 0;joke k 20 1;joke j 20 0;tell j 2;tell k 2;law calm 0;"
            + "law mirth likes*(fun+10);");
        x.ears(1, true);
        due("two jokes", x.chance(123456, 3, 0, 1), often(123456, 2, 1, 5));
        counts(x, "nothing went by", 6, 0, 0, 0);
    }

    /** Of ten times so many draws, how often the one at a place is so much at least. */
    private static int often(long seed, int draws, int place, int least) {
        int times = 0;
        for (int i = 0; i < 10 * draws; i++) {
            seed = (seed * 1103515245L + 12345L) % (1L << 31);
            if (i % draws == place && seed / 65536 % 10 >= least) {
                times++;
            }
        }
        return times;
    }

    private static void tried() {
        LaughLine x = with(TRAIN);
        due("as it goes", x.tried(0, 0, 11), 2);
        due("no tunnels: cy laughs of 31, 60", x.tried(1, 0, 11), 3);
        due("ann isn't there: bo gets home", x.tried(2, 0, 11), 1);
        due("cy isn't there", x.tried(2, 2, 11), 2);
        due("n 0", x.tried(0, 0, 0), 0);
        due("n -1", x.tried(0, 0, -1), -1);
        due("n 100", x.tried(0, 0, 100), -1);
        due("n 99", x.tried(0, 0, 99) >= 2, true);
        due("what 6", x.tried(6, 0, 1), -1);
        due("what -1", x.tried(-1, 0, 1), -1);
        for (int what = 0; what < 6; what++) {
            due("i 1 of " + what, x.tried(what, 1, 0), what == 2 ? 0 : -1);
        }
        due("no such rider", x.tried(2, 3, 1), -1);
        due("no such rider", x.tried(2, -1, 1), -1);
        // on the next day, too, it isn't there
        x = with("line 1;rider a 0 5 0 0;rider b 0 5 5 0;sight 0 9;");
        due("as it goes", x.tried(0, 0, 6), 6);
        due("a isn't there", x.tried(2, 0, 6), 3);
        // b catches it, laughs once more at home
        x = with("line 3;rider a 60 5 0 0;rider b 0 15 1 0;joke j 9 1;tell j 0;law calm 0;law laugh mood>=dull and dull=15 or mood=9 and dull=5;"
            + "law mirth 9;near 0;");
        due("b catches it", x.tried(0, 0, 4), 1);
        x = with("line 3;rider a 60 5 0 0;rider b 1 15 1 0;sight 0 6;law calm 0;near 1;law laugh mood>=dull and (mile=1 or dull=5);");
        due("b catches it", x.tried(0, 0, 4), 1);
        x = with("line 3;rider a 60 5 0 0;rider b 1 15 1 0;sight 0 6;law calm 0;near 0;law laugh mood>=dull and (mile=1 or dull=5);");
        due("b catches it", x.tried(0, 0, 4), 1);
        due("nobody catches it", x.tried(3, 0, 4), 0);
        // no ears are stopped
        x = with("line 3;rider a 0 5 0 0;joke j 9 1;tell j 0;");
        x.ears(0, true);
        due("as it goes", x.tried(0, 0, 4), 0);
        due("no ears", x.tried(4, 0, 4), 1);
        due("they are", x.has(0, 1), 1);
        // 9, 4: once; heard is 0: on each day
        x = with("line 1;rider a 0 5 0 0;joke j 9 1;tell j 0;");
        due("as it goes", x.tried(0, 0, 8), 1);
        due("nothing twice", x.tried(5, 0, 8), 4);
        x = with("line 1;rider a 0 5 0 0;joke j 9 1;tell j 0;law mirth 9-heard*9;");
        due("as it goes", x.tried(0, 0, 8), 1);
        due("heard is 0", x.tried(5, 0, 8), 4);
        counts(x, "nothing went by", 6, 0, 0, 0);
    }
}
