import java.math.BigInteger;

/** Bounds of the ride and of what is asked: just inside, just outside, and the state afterwards. */
public final class BoundTest {
    private static final long ERROR = Long.MIN_VALUE;
    private static final String STILL = "law calm 0;law laugh 0;";
    private static int wrong = 0;

    private static void due(String call, long got, long want) {
        if (got != want) {
            wrong++;
            System.out.println(call + " answered " + got + ", due is " + want);
        }
    }

    private static void due(String call, boolean got, boolean want) {
        due(call, got ? 1 : 0, want ? 1 : 0);
    }

    private static LaughLine with(String text) {
        LaughLine x = new LaughLine();
        for (int i = 0; i < text.length(); i += 20) {
            int[] v = new int[5];
            for (int k = 0; k < 20; k++) {
                v[k / 4] = v[k / 4] << 8 | (i + k < text.length() ? text.charAt(i + k) : ' ');
            }
            x.feed(v[0], v[1], v[2], v[3], v[4]);
        }
        if (x.text(text.length()) < 0) {
            wrong++;
            System.out.println("a text has fault " + x.fault(0) + " at " + x.fault(1) + ": " + text);
        }
        return x;
    }

    private static LaughLine after(int miles, String text) {
        LaughLine x = with(text);
        x.go(miles);
        return x;
    }

    public static void main(String[] args) {
        lastMile();
        tunnelEnds();
        mirthOfLaw();
        mirthWithoutLaw();
        moodAtMost();
        stoppedEars();
        laughs();
        seatsBeside();
        nearHome();
        calm();
        minutes();
        valueBounds();
        division();
        namesOfNone();
        daysAtMost();
        goAtMost();
        aheadBounds();
        nextHaltAtMost();
        whenBounds();
        fifths();
        quarters();
        seatingOfFour();
        fewestEars();
        leastEars();
        likelyParts();
        solemnBits();
        lateBounds();
        notesAtMost();
        strikes();
        knownBounds();
        dullsBits();
        chanceBounds();
        drawnNumbers();
        triedBounds();
        triedOtherwise();
        seatsByCall();
        tellingsByCall();
        undoAtMost();
        undoOfOthers();
        undoBehindMiles();
        images();
        System.out.println("BoundTest: " + wrong + " wrong");
        if (wrong != 0) {
            System.exit(1);
        }
    }

    // ---- a mile

    /** "behind the LAST one those ABOARD have PASSED (OUT at none), it is MILE 0 of the next DAY" */
    private static void lastMile() {
        for (int last : new int[] {1, 2, 30, 59, 60}) {
            String line = last == 30 ? "" : "line " + last + ";";
            LaughLine x = with(line + "rider a 0 99 0 0;rider b 60 1 5 0;sight " + last + " 7;near 0;law calm 0*halts;");
            due("go to " + last, x.go(last), last);
            due("day", x.count(6), 0);
            due("mile", x.count(7), last);
            due("passed", x.count(12), 0);
            due("go behind it", x.go(1), 0);
            due("day", x.count(6), 1);
            due("mile", x.count(7), 0);
            int out = last == 60 ? 1 : 0;
            due("passed in all", x.count(12), 2 - out);
            due("passed a", x.has(0, 2), 1);
            due("passed b", x.has(1, 2), 1 - out);
            due("alighted b", x.rider(1, 7), out);
            due("out b", x.rider(1, 6), last == 60 ? 60 : -1);
            due("out a at none", x.rider(0, 6), -1);
            due("mood a", x.rider(0, 4), 0);
            due("aboard", x.count(13), 2);
            due("halts of this day", x.law(2, 0, 0), 0);
        }
        // the halts of a day are gone with it, those so far aren't
        LaughLine x = after(1, "line 1;rider a 60 0 0 0;sight 0 5;law calm halts;");
        due("halts of the day", x.law(2, 0, 0), 1);
        x.go(1);
        due("halts of the next day", x.law(2, 0, 0), 0);
        due("halts so far", x.count(9), 1);
        // what is told or seen behind the last mile isn't
        x = after(99, "line 4;rider a 60 1 0 0;sight 5 9;joke j 9 0;tell j 5;tell j 60;");
        due("nobody laughs", x.count(10), 0);
        due("nothing is heard", x.heard(0, 0), 0);
        due("told(0, 5)", x.told(0, 5), 1);
        due("seen(5)", x.seen(5), 9);
    }

    /** "if it is in no TUNNEL (both ends are in it)" */
    private static void tunnelEnds() {
        int[][] cases = {{4, 5, 8, 7}, {5, 5, 8, 0}, {8, 5, 8, 0}, {9, 5, 8, 7}, {4, 5, 5, 7}, {5, 5, 5, 0}, {6, 5, 5, 7},
            {0, 0, 60, 0}, {60, 0, 60, 0}, {0, 0, 0, 0}, {1, 0, 0, 7}, {60, 60, 60, 0}, {59, 60, 60, 7}};
        for (int[] c : cases) {
            LaughLine x = with("line 60;rider a 0 99 0 0;sight " + c[0] + " 7;tunnel " + c[1] + " " + c[2] + ";" + STILL);
            String name = "a sight at " + c[0] + ", a tunnel " + c[1] + " to " + c[2];
            due(name + ": seen", x.seen(c[0]), c[3]);
            x.go(c[0]);
            due(name + ": mood ahead of it", x.rider(0, 4), 0);
            x.law(1, 0, 0);
            if (c[0] < 60) {
                x.go(1);
                due(name + ": mood", x.rider(0, 4), c[3]);
            }
        }
        // jokes are told in a tunnel, too
        due("a joke in a tunnel", after(1, "rider a 0 99 0 1;joke j 7 0;tell j 0;tunnel 0 0;" + STILL).rider(0, 4), 7);
        // two tunnels that overlap
        LaughLine x = with("sight 3 1;sight 4 2;sight 5 3;sight 6 4;sight 7 5;tunnel 4 5;tunnel 5 6;");
        int[] seen = {0, 1, 0, 0, 0, 5, 0};
        for (int i = 0; i < seen.length; i++) {
            due("seen(" + (i + 2) + ")", x.seen(i + 2), seen[i]);
        }
    }

    /** "MOOD is more by E of mirth (0 .. 99; ...)" */
    private static void mirthOfLaw() {
        String[] laws = {"0-9999", "0-1", "0", "1", "98", "99", "100", "9999", "1000*1000*1000*1000", "0-1000*1000*1000*1000"};
        int[] moods = {0, 0, 0, 1, 98, 99, 99, 99, 99, 0};
        for (int i = 0; i < laws.length; i++) {
            String law = STILL + "law mirth " + laws[i] + ";";
            due("a joke by " + laws[i], after(1, "rider r 60 99 0 0;joke j 7 0;tell j 0;" + law).rider(0, 4), moods[i]);
            due("a sight by " + laws[i], after(1, "rider r 60 99 0 0;sight 0 7;" + law).rider(0, 4), moods[i]);
            due("both by " + laws[i], after(1, "rider r 60 99 0 0;sight 0 7;joke j 7 0;tell j 0;" + law).rider(0, 4), 2 * moods[i]);
        }
        // the call tells E itself, which isn't cut
        due("law(0, 0, 0)", with("rider r 60 99 0 0;joke j 7 0;law mirth 100;").law(0, 0, 0), 100);
        due("law(0, 0, 0)", with("rider r 60 99 0 0;joke j 7 0;law mirth 0-1;").law(0, 0, 0), -1);
        due("law(2, 0, 0)", with("rider r 60 99 0 0;law calm 100;").law(2, 0, 0), 100);
        due("law(1, 0, 0)", with("rider r 60 99 0 0;law laugh 0-5;").law(1, 0, 0), -5);
    }

    /** "FUN, and 10 if the JOKE's KIND is liked, less 5 for each time ..., 0 at least, 99 at most, without, with an ERROR" */
    private static void mirthWithoutLaw() {
        int[][] cases = {{0, 0, 0, 0}, {99, 0, 0, 99}, {89, 1, 0, 99}, {90, 1, 0, 99}, {88, 1, 0, 98}, {99, 1, 0, 99},
            {99, 1, 2, 99}, {99, 1, 3, 94}, {5, 0, 1, 0}, {4, 0, 1, 0}, {6, 0, 1, 1}, {0, 1, 1, 5}, {0, 1, 2, 0}, {0, 1, 3, 0},
            {1, 1, 2, 1}, {99, 0, 19, 4}, {99, 0, 20, 0}, {99, 1, 21, 4}, {99, 1, 22, 0}};
        for (int[] c : cases) {
            for (String law : new String[] {"", "law mirth 1/0;", "law mirth fun*0+1000*1000*1000*1000+1;"}) {
                LaughLine x = with("line 1;rider r 60 99 0 " + c[1] + ";joke j " + c[0] + " 1;tell j 0;" + STILL + law);
                x.go(2 * c[2]);
                due("heard", x.heard(0, 0), c[2]);
                x.go(1);
                due("fun " + c[0] + " liked " + c[1] + " heard " + c[2] + " " + law, x.rider(0, 4), c[3]);
            }
        }
        for (int fun : new int[] {0, 1, 99}) {
            for (String law : new String[] {"", "law mirth 1/0;"}) {
                LaughLine x = with("line 1;rider r 60 99 0 0;sight 0 " + fun + ";" + STILL + law);
                x.go(2);
                x.go(1);
                due("a sight of " + fun + ", seen again", x.rider(0, 4), fun);
            }
        }
        due("law() without a law", with("rider r 60 99 0 0;joke j 7 0;").law(0, 0, 0), ERROR);
        due("law() with an error", with("rider r 60 99 0 0;joke j 7 0;law mirth 1/0;").law(0, 0, 0), ERROR);
    }

    /** "999 at most" */
    private static void moodAtMost() {
        int[] funs = {8, 9, 10, 99};
        int[] moods = {998, 999, 999, 999};
        for (int i = 0; i < funs.length; i++) {
            String most = "rider r 60 99 0 0;sight 0 99;sight 0 99;sight 0 99;sight 0 99;sight 0 99;"
                + "joke a 99 1;joke b 99 1;joke c 99 1;joke d 99 1;joke e 99 1;joke f " + funs[i] + " 1;"
                + "tell a 0;tell b 0;tell c 0;tell d 0;tell e 0;tell f 0;tell f 1;law mirth fun;";
            due("990 and " + funs[i], after(1, most + STILL).rider(0, 4), moods[i]);
            due("990 and twice " + funs[i], after(2, most + STILL).rider(0, 4), 999);
            due("calm of it", after(1, most + "law laugh 0;law calm 99;").rider(0, 4), moods[i] - 99);
            due("laughs of 999", after(1, most + "law laugh mood=999;").count(10), moods[i] == 999 ? 1 : 0);
        }
    }

    /** "One whose EARS are STOPPED hears no JOKE (HEARD, MOOD as they were), but sees SIGHTS." */
    private static void stoppedEars() {
        LaughLine x = with("rider a 60 99 0 0;rider b 60 99 5 0;joke j 20 1;tell j 0;sight 0 3;" + STILL);
        due("ears(0, true)", x.ears(0, true), true);
        x.go(1);
        due("heard(0, 0)", x.heard(0, 0), 0);
        due("heard(1, 0)", x.heard(1, 0), 1);
        due("mood a", x.rider(0, 4), 3);
        due("mood b", x.rider(1, 4), 23);
        // not for one day alone, and no more when they are open
        x = with("line 1;rider a 60 99 0 0;joke j 20 1;tell j 0;" + STILL);
        x.ears(0, true);
        x.go(5);
        due("heard on three days", x.heard(0, 0), 0);
        due("has(0, 1)", x.has(0, 1), 1);
        x.go(1);
        due("ears(0, false)", x.ears(0, false), true);
        x.go(1);
        due("heard then", x.heard(0, 0), 1);
        due("mood then", x.rider(0, 4), 20);
        // one that is out hears nothing
        x = with("line 3;rider a 0 5 0 0;joke j 9 1;tell j 1;sight 0 9;near 0;");
        x.go(3);
        due("out", x.rider(0, 5), 0);
        due("heard by one that is out", x.heard(0, 0), 0);
    }

    /** "LAUGHS, if E of laugh isn't 0 (MOOD is DULL at least, and not 0, without, with an ERROR)" */
    private static void laughs() {
        int[][] cases = {{0, 0, 0}, {1, 0, 1}, {98, 99, 0}, {99, 99, 1}, {49, 50, 0}, {50, 50, 1}, {51, 50, 1}, {1, 1, 1}, {0, 1, 0}};
        for (int[] c : cases) {
            for (String law : new String[] {"", "law laugh 1/0;", "law laugh mood/(mood-mood);"}) {
                LaughLine x = after(1, "rider a 60 " + c[1] + " 0 0;sight 0 " + c[0] + ";law calm 0;" + law);
                String name = "mood " + c[0] + " dull " + c[1] + " " + law;
                due(name + ": laughs", x.count(10), c[2]);
                due(name + ": laughed", x.has(0, 0), c[2]);
                due(name + ": halts", x.count(9), c[2]);
                due(name + ": mood", x.rider(0, 4), c[2] == 1 ? 0 : c[0]);
                due(name + ": minutes", x.count(8), c[2] == 1 ? 3 : 1);
            }
        }
        String[] laws = {"0", "1", "0-1", "2", "1000*1000*1000*1000", "0-1000*1000*1000*1000", "1=2", "not 5", "not 0"};
        int[] laughs = {0, 1, 1, 1, 1, 1, 0, 0, 1};
        for (int i = 0; i < laws.length; i++) {
            due("by " + laws[i], after(1, "rider a 60 0 0 0;law laugh " + laws[i] + ";").count(10), laughs[i]);
        }
    }

    /** "those ABOARD in the SEATS beside (1 more or less) is more by 10" */
    private static void seatsBeside() {
        int[][] cases = {{0, 1, 1}, {1, 0, 1}, {0, 0, 0}, {0, 2, 0}, {2, 0, 0}, {0, 9, 0}, {9, 0, 0}, {9, 8, 1}, {8, 9, 1}, {9, 9, 0},
            {9, 7, 0}, {4, 5, 1}, {5, 4, 1}};
        for (int[] c : cases) {
            LaughLine x = after(1, "rider a 60 5 " + c[0] + " 0;rider b 60 99 " + c[1] + " 0;sight 0 5;law calm 0;");
            due("beside " + c[0] + " is " + c[1], x.rider(1, 4), 5 + 10 * c[2]);
            due("laughs", x.count(10), 1);
            due("the one that laughs", x.rider(0, 4), 0);
        }
        // caught ten make one laugh at the same mile: 10 of 10, not of 11; the one ahead catches it, but laughs no more
        for (int dull = 14; dull <= 17; dull++) {
            LaughLine x = after(1, "rider a 60 5 3 0;rider b 60 " + dull + " 4 0;sight 0 6;law calm 0;");
            due("dull " + dull, x.count(10), dull <= 16 ? 2 : 1);
            due("mood a", x.rider(0, 4), dull <= 16 ? 10 : 0);
            due("mood b", x.rider(1, 4), dull <= 16 ? 0 : 16);
        }
    }

    /** "each ABOARD whose HOME is as far as near at most ALIGHTS" */
    private static void nearHome() {
        for (int near : new int[] {0, 1, 2, 9}) {
            for (int off = -10; off <= 10; off++) {
                String text = "line 30;rider a " + (20 + off) + " 99 0 0;rider b 60 0 5 0;sight 20 5;";
                boolean out = Math.abs(off) <= near;
                LaughLine x = after(21, text + "near " + near + ";");
                due("near " + near + " home " + (20 + off) + ": alights", x.count(11), out ? 1 : 0);
                due("aboard", x.rider(0, 5), out ? 0 : 1);
                due("out at", x.rider(0, 6), out ? 20 : -1);
                due("alighted", x.rider(0, 7), out ? 1 : 0);
                due("how many are aboard", x.count(13), out ? 1 : 2);
                due("b goes on", x.rider(1, 5), 1);
                if (near == 1) {
                    due("1 without", after(21, text).count(11), out ? 1 : 0);
                }
            }
        }
        // without a laugh there is no halt, at home too
        LaughLine x = after(1, "rider a 0 6 0 0;sight 0 5;near 9;");
        due("no halt", x.count(9), 0);
        due("nobody alights", x.count(11), 0);
    }

    /** "MOOD of each ABOARD is less by E of calm (0 .. 99; 2 without, with an ERROR), 0 at least" */
    private static void calm() {
        String[] laws = {"law calm 0-9999;", "law calm 0-1;", "law calm 0;", "law calm 1;", "law calm 98;", "law calm 99;",
            "law calm 100;", "law calm 9999;", "", "law calm 1/0;", "law calm 1000*1000*1000*1000*2;"};
        int[] less = {0, 0, 0, 1, 98, 99, 99, 99, 2, 2, 2};
        for (int i = 0; i < laws.length; i++) {
            LaughLine x = after(1, "rider a 60 99 0 0;sight 0 98;sight 0 98;law laugh 0;" + laws[i]);
            due("196, " + laws[i], x.rider(0, 4), 196 - less[i]);
            for (int mood = 0; mood < 4; mood++) {
                x = after(1, "rider a 60 99 0 0;sight 0 " + mood + ";law laugh 0;" + laws[i]);
                due(mood + ", " + laws[i], x.rider(0, 4), Math.max(0, mood - less[i]));
            }
        }
        // one that is out stays as it was
        LaughLine x = with("line 5;rider b 60 0 1 0;rider a 0 99 0 0;sight 0 5;near 0;");
        x.go(3);
        due("out", x.rider(1, 5), 0);
        due("mood of one that is out", x.rider(1, 4), 15);
    }

    /** "MINUTES are 1 more, with a HALT 3 more (not 1 and 3)" */
    private static void minutes() {
        LaughLine x = with("line 4;rider a 60 0 0 0;sight 1 5;sight 3 5;");
        int[] minutes = {1, 4, 5, 8, 9, 10, 13};
        int[] halts = {0, 1, 1, 2, 2, 2, 3};
        for (int i = 0; i < minutes.length; i++) {
            x.go(1);
            due("minutes so far, " + i, x.count(8), minutes[i]);
            due("halts so far, " + i, x.count(9), halts[i]);
        }
        // two that laugh make one halt
        x = after(1, "rider a 60 0 0 0;rider b 60 0 5 0;sight 0 5;");
        due("laughs", x.count(10), 2);
        due("halts", x.count(9), 1);
        due("minutes", x.count(8), 3);
    }

    // ---- the worth of an E

    private static void worth(String e, long want) {
        due(e, with("rider r 3 7 0 1;joke j 5 1;law mirth " + e + ";").law(0, 0, 0), want);
    }

    /** "ERROR: / by 0, a value above 10 to the 12 or below 0 by more than that" */
    private static void valueBounds() {
        long most = 1000000000000L;
        String m = "1000*1000*1000*1000";
        worth(m, most);
        worth(m + "-1", most - 1);
        worth(m + "+0", most);
        worth(m + "+1", ERROR);
        worth("1+" + m, ERROR);
        worth("0-" + m, -most);
        worth("1-" + m, 1 - most);
        worth("0-" + m + "-1", ERROR);
        worth("0-1-" + m, ERROR);
        worth("0-" + m + "-0", -most);
        worth("1000*1000*1000*1001", ERROR);
        worth("(0-1000*1000*1000)*1000", -most);
        worth("(0-1000*1000*1000)*1001", ERROR);
        worth("1000*(0-1000*1000*1000)", -most);
        worth("1001*(0-1000*1000*1000)", ERROR);
        worth("(0-1000)*(0-1000*1000*1000)", most);
        worth("(0-1001)*(0-1000*1000*1000)", ERROR);
        worth(m + "*1", most);
        worth(m + "*0", 0);
        worth(m + "*2", ERROR);
        worth(m + "*(0-1)", -most);
        worth(m + "/1", most);
        worth(m + "/(0-1)", -most);
        worth(m + "+" + m, ERROR);
        worth("0-" + m + "-" + m, ERROR);
        // a value within, that is above on the way
        worth(m + "+1-1", ERROR);
        worth("(" + m + "+1)*0", ERROR);
        worth("(" + m + "+1)>0", ERROR);
        worth("not (" + m + "+1)", ERROR);
        worth("0 and " + m + "+1", ERROR);
        worth("1 or " + m + "+1", ERROR);
        worth(m + "+1 or 1", ERROR);
        worth("1 or 0 and 1/0", ERROR);
        worth("(1/0)=(1/0)", ERROR);
        worth(m + "=" + m, 1);
        worth("2 and " + m, 1);
        // both sides are worked out, but an error of another law is none of this one
        LaughLine x = with("rider r 3 7 0 1;joke j 5 1;law mirth 1/0;law laugh 4;law calm 6;");
        due("mirth", x.law(0, 0, 0), ERROR);
        due("laugh", x.law(1, 0, 0), 4);
        due("mirth again", x.law(0, 0, 0), ERROR);
        due("calm", x.law(2, 0, 0), 6);
    }

    /** "/ is cut towards 0", "what isn't 0 is as 1" */
    private static void division() {
        worth("7/2", 3);
        worth("(0-7)/2", -3);
        worth("7/(0-2)", -3);
        worth("(0-7)/(0-2)", 3);
        worth("1/2", 0);
        worth("(0-1)/2", 0);
        worth("6/2", 3);
        worth("0/5", 0);
        worth("5/0", ERROR);
        worth("0/0", ERROR);
        worth("5/(fun-5)", ERROR);
        worth("5/(fun-4)", 5);
        worth("(0-5)/(fun-5)", ERROR);
        worth("not 0", 1);
        worth("not 1", 0);
        worth("not (0-1)", 0);
        worth("not 9999", 0);
        worth("(0-1) and (0-2)", 1);
        worth("(0-1) and 0", 0);
        worth("0 or (0-1)", 1);
        worth("0 or 0", 0);
        worth("1<1", 0);
        worth("1<=1", 1);
        worth("2<=1", 0);
        worth("1>=1", 1);
        worth("0>=1", 0);
        worth("1>1", 0);
        worth("1>0", 1);
        worth("1=1", 1);
        worth("1=0", 0);
        worth("1<>1", 0);
        worth("1<>0", 1);
    }

    /** "fun: ... (of laugh, calm 0)", "likes: ... (of a SIGHT, laugh, calm 0)", "heard: ... (of a SIGHT, laugh, calm 0)" */
    private static void namesOfNone() {
        String[] names = {"fun", "likes", "heard"};
        for (String name : names) {
            LaughLine x = with("line 1;rider a 60 99 0 1;joke j 20 1;tell j 0;law mirth 5;law laugh " + name + ";law calm " + name + ";");
            x.go(5);
            due("heard", x.heard(0, 0), 3);
            due(name + " of laugh", x.law(1, 0, 0), 0);
            due(name + " of calm", x.law(2, 0, 0), 0);
            due(name + ": nobody laughs", x.count(10), 0);
            due(name + ": nobody is calmer", x.rider(0, 4), 5);
            x = with("line 1;rider a 60 99 0 1;joke j 20 1;tell j 1;sight 0 7;law mirth " + name + "+1;" + STILL);
            x.go(5);
            due(name + " of a sight", x.rider(0, 4), name.equals("fun") ? 8 : 1);
        }
        // liked or not, heard or not: of a joke
        LaughLine x = with("line 1;rider a 60 99 0 3;rider b 60 99 0 0;joke j 20 3;joke k 30 0;tell j 0;law mirth fun*100+likes*10+heard;");
        long[] at = {2010, 3000, 2000, 3010};
        for (int day = 0; day < 3; day++) {
            due("a of j", x.law(0, 0, 0), at[0] + day);
            due("a of k", x.law(0, 0, 1), at[1]);
            due("b of j", x.law(0, 1, 0), at[2] + day);
            due("b of k", x.law(0, 1, 1), at[3]);
            x.go(2);
        }
        // mood, dull, halts, mile as they are now
        x = with("line 9;rider a 60 10 0 0;rider b 60 80 5 0;sight 2 30;law calm 0;law laugh (mood>=dull)*(1+0*mile);law mirth fun;");
        x.go(3);
        LaughLine y = with("line 9;rider a 60 10 0 0;rider b 60 80 5 0;sight 2 30;law calm mood*0+dull*0+halts*0+mile*0;law laugh mood>=dull;");
        y.go(3);
        for (int rider = 0; rider < 2; rider++) {
            due("the same by another law", x.rider(rider, 4), y.rider(rider, 4));
        }
        due("mood of a, who laughed", x.rider(0, 4), 0);
        due("mood of b", x.rider(1, 4), 30);
    }

    // ---- days and miles

    /** "NONE, and none does: no such number, the DAY is above 900" */
    private static void daysAtMost() {
        LaughLine x = with("line 1;rider a 1 0 0 0;");
        for (int i = 0; i < 18; i++) {
            x.go(99);
        }
        due("go(18)", x.go(18), 0);
        due("day", x.count(6), 900);
        due("go(0) on day 900", x.go(0), 0);
        due("go(1) on day 900", x.go(1), 1);
        due("go(1) on its last mile", x.go(1), 0);
        due("day", x.count(6), 901);
        due("minutes", x.count(8), 1802);
        x.ears(0, true);
        for (int n : new int[] {0, 1, 99}) {
            due("go(" + n + ") on day 901", x.go(n), -1);
        }
        due("day", x.count(6), 901);
        due("mile", x.count(7), 0);
        due("minutes", x.count(8), 1802);
        due("it can be undone", x.undo(), 0);
        due("keep()", x.keep(), 901);
        due("a text begins at day 0", x.text(0), 0);
        due("go(1)", x.go(1), 1);
        // from day 900 on, all of the miles go by
        x = with("line 1;rider a 1 0 0 0;");
        for (int i = 0; i < 18; i++) {
            x.go(99);
        }
        x.go(19);
        due("day", x.count(6), 900);
        due("go(99) from day 900 on", x.go(99), 0);
        due("day", x.count(6), 950);
        due("go(1)", x.go(1), -1);
        due("passed", x.count(12), 950);
        // back to a day on which it goes
        x = with("line 1;rider a 1 0 0 0;");
        due("keep()", x.keep(), 0);
        for (int i = 0; i < 19; i++) {
            x.go(99);
        }
        due("go(1)", x.go(1), -1);
        due("back()", x.back(), 0);
        due("go(1)", x.go(1), 1);
    }

    /** "So many MILES (0 .. 99) go by" */
    private static void goAtMost() {
        LaughLine x = with("line 60;rider a 1 0 0 0;");
        due("go(-1)", x.go(-1), -1);
        due("go(0)", x.go(0), 0);
        due("go(1)", x.go(1), 1);
        due("go(99)", x.go(99), 39);
        due("go(100)", x.go(100), -1);
        due("minutes", x.count(8), 100);
        due("day", x.count(6), 1);
    }

    /** "AHEAD (n 0 .. 99)" */
    private static void aheadBounds() {
        LaughLine x = with("line 10;rider a 10 0 0 0;rider b 60 0 5 0;rider c 60 99 9 0;sight 10 5;sight 0 5;near 0;");
        // a day: halts at 0 and 10, a laughs at both, b too; at 10 a alights; b and c pass
        int[] first = {1, 2, 0, 0, 3};
        int[] ten = {1, 2, 0, 0, 12};
        int[] day = {2, 4, 1, 2, 15};
        int[] nine = {18, 36, 9, 18, 135};
        int[] less = {17, 34, 8, 16, 132};
        for (int what = 0; what < 5; what++) {
            due("ahead(0, " + what + ")", x.ahead(0, what), 0);
            due("ahead(1, " + what + ")", x.ahead(1, what), first[what]);
            due("ahead(10, " + what + ")", x.ahead(10, what), ten[what]);
            due("ahead(11, " + what + ")", x.ahead(11, what), day[what]);
            due("ahead(98, " + what + ")", x.ahead(98, what), less[what]);
            due("ahead(99, " + what + ")", x.ahead(99, what), nine[what]);
            due("ahead(100, " + what + ")", x.ahead(100, what), -1);
            due("ahead(-1, " + what + ")", x.ahead(-1, what), -1);
        }
        due("ahead(5, 5)", x.ahead(5, 5), -1);
        due("ahead(5, -1)", x.ahead(5, -1), -1);
        // "more": what was so far is none of it
        x.go(99);
        for (int what = 0; what < 5; what++) {
            due("ahead(11, " + what + ") on day 9", x.ahead(11, what), day[what]);
        }
        // gets out yet: at the last mile, this one too; not the next day
        due("getsOut(0)", x.getsOut(0), 10);
        x.go(10);
        due("getsOut(0) at 10", x.getsOut(0), 10);
        due("getsOut(1)", x.getsOut(1), -2);
        x = with("line 3;rider a 1 0 0 0;sight 1 5;near 0;");
        due("getsOut(0) at 0", x.getsOut(0), 1);
        x.go(1);
        due("getsOut(0) at 1", x.getsOut(0), 1);
        x.go(1);
        due("getsOut(0) at 2, it isn't aboard", x.getsOut(0), -2);
        x = with("line 3;rider a 0 0 0 0;joke j 5 1;tell j 0;near 0;law mirth heard*9;");
        x.go(1);
        due("getsOut(0), on the next day", x.getsOut(0), -2);
        x.go(3);
        due("getsOut(0), on that day", x.getsOut(0), 0);
        x = after(3, "line 3;rider a 3 0 0 0;joke j 5 1;tell j 3;near 0;");
        due("getsOut(0) at 0 of LAST", with("line 1;rider a 0 0 0 0;sight 0 1;near 0;").getsOut(0), 0);
        due("getsOut(0) at LAST", x.getsOut(0), 3);
    }

    /** "NEXT HALT: in how many MILES, 99 at most (1: this one)", "-2: not by then" */
    private static void nextHaltAtMost() {
        String second = "line 60;rider a 0 0 0 0;joke j 0 1;tell j 38;law mirth (heard=1)*9;";
        // the first halt is at mile 38 of day 1, the 100th mile
        LaughLine x = with(second);
        due("in 100", x.nextHalt(), -2);
        x.go(1);
        due("in 99", x.nextHalt(), 99);
        x.go(97);
        due("in 2", x.nextHalt(), 2);
        x.go(1);
        due("in 1", x.nextHalt(), 1);
        x.go(1);
        due("none more", x.nextHalt(), -2);
        due("halts", x.count(9), 1);
        due("over the end of a day", after(60, "line 60;rider a 60 0 0 0;sight 0 5;near 0;").nextHalt(), 2);
    }

    // ---- the next day

    /** "the MILE 0 up to the LAST one", "the first of several", "once, if it is told there already" */
    private static void whenBounds() {
        for (int last : new int[] {1, 8, 59, 60}) {
            for (int home : new int[] {0, 1, last - 1, last, Math.min(60, last + 1)}) {
                LaughLine x = with("line " + last + ";rider a " + home + " 10 0 0;joke j 10 1;near 0;law calm 99;");
                boolean gets = home <= last;
                due("line " + last + " home " + home + ": mile", x.when(0, 0), gets ? home : 0);
                due("line " + last + " home " + home + ": alight", x.when(0, 1), gets ? 1 : 0);
                due("it isn't told", x.joke(0, 2), 0);
            }
        }
        // the first of several: homes 4 and 6, near 1: at 5 both; near 2: at 4, 5, 6 both
        String two = "line 9;rider a 4 10 0 0;rider b 6 10 5 0;joke j 10 1;law calm 99;";
        due("only at 5", with(two).when(0, 0), 5);
        due("two alight", with(two).when(0, 1), 2);
        due("at 4, 5, 6", with(two + "near 2;").when(0, 0), 4);
        due("at 2, near 4", with(two + "near 4;").when(0, 0), 2);
        // once: 10 at 4, not 20; elsewhere it is told, too
        LaughLine x = with("line 9;rider a 4 20 0 0;joke j 10 1;tell j 4;law calm 0;law mirth 10;near 0;");
        due("10 and 10, not at 4", x.when(0, 0), 0);
        due("one alights", x.when(0, 1), 1);
        x = with("line 9;rider a 4 20 0 0;joke j 10 1;tell j 4;law calm 99;law mirth 10;near 0;");
        due("not twice at 4", x.when(0, 1), 0);
        due("the first mile", x.when(0, 0), 0);
        // heard as it will be by then: today's telling is still to come, or has been
        x = with("line 9;rider a 4 10 0 0;joke j 12 1;tell j 7;near 0;law calm 99;");
        due("12 less 5 on the next day", x.when(0, 1), 0);
        x.tell(0, 7, false);
        due("12", x.when(0, 1), 1);
        due("at 4", x.when(0, 0), 4);
        // the mood at the end of this day is none of the next one
        x = with("line 3;rider a 0 10 0 0;joke j 5 1;sight 3 9;near 0;law calm 0;");
        due("mood 0 again", x.when(0, 1), 0);
    }

    /** "the MILES, each a fifth of the LAST one (0, 1 .. 5 times LAST by 5, cut)" */
    private static void fifths() {
        int[][] miles = {{1, 0, 0, 0, 0, 0, 1}, {3, 0, 0, 1, 1, 2, 3}, {4, 0, 0, 1, 2, 3, 4}, {5, 0, 1, 2, 3, 4, 5}, {7, 0, 1, 2, 4, 5, 7},
            {9, 0, 1, 3, 5, 7, 9}, {60, 0, 12, 24, 36, 48, 60}};
        for (int[] m : miles) {
            for (int home = 0; home <= Math.min(60, m[0] + 1); home++) {
                boolean in = false;
                for (int i = 1; i < m.length; i++) {
                    in |= m[i] == home;
                }
                LaughLine x = with("line " + m[0] + ";rider a " + home + " 10 0 0;joke j 10 1;joke k 10 2;near 0;law calm 99;");
                String name = "line " + m[0] + " home " + home;
                due(name + ": alight", x.both(0, 1, 2), in ? 1 : 0);
                due(name + ": first", x.both(0, 1, 0), 0);
                due(name + ": second", x.both(0, 1, 1), in ? home : 0);
                due(name + ": second, the other way", x.both(1, 0, 1), in ? home : 0);
            }
        }
        due("of several the first by the first joke's", with("line 10;rider a 4 10 0 0;rider b 6 10 5 0;joke j 10 1;joke k 10 2;near 0;"
            + "law calm 99;").both(0, 1, 0), 4);
        // of the first joke alone it laughs: at each of the miles, the last one too
        for (int home = 0; home <= 10; home += 2) {
            LaughLine x = with("line 10;rider a " + home + " 10 0 0;joke j 10 1;joke k 0 2;near 0;law calm 99;");
            due("the first joke at " + home, x.both(0, 1, 0), home);
            due("the second at 0", x.both(0, 1, 1), 0);
            due("the other way", x.both(1, 0, 1), home);
            due("the other way", x.both(1, 0, 0), 0);
        }
        due("then the second one's", with("line 10;rider a 4 10 0 0;rider b 6 10 5 0;joke j 10 1;joke k 10 2;near 0;"
            + "law calm 99;").both(0, 1, 1), 6);
    }

    /** "0 .. 4 times LAST by 4, cut", "half of it, cut, if both chose that MILE" */
    private static void quarters() {
        int[][] miles = {{4, 0, 1, 2, 3, 4}, {7, 0, 1, 3, 5, 7}, {9, 0, 2, 4, 6, 9}, {60, 0, 15, 30, 45, 60}};
        String[] names = {"a", "b", "c", "d", "e", "f"};
        for (int[] m : miles) {
            for (int mile = 0; mile <= m[0]; mile++) {
                int choice = -1;
                for (int i = 1; i < m.length; i++) {
                    choice = m[i] == mile ? i - 1 : choice;
                }
                for (int riders = 1; riders <= 3; riders++) {
                    StringBuilder t = new StringBuilder("line " + m[0] + ";joke j 10 1;joke k 10 1;law laugh mile=" + mile + " and mood;");
                    for (int r = 0; r < riders; r++) {
                        t.append("rider ").append(names[r]).append(" 60 5 ").append(3 * r).append(" 0;");
                    }
                    LaughLine x = with(t + "law mirth 10;law calm 99;near 0;");
                    String name = "line " + m[0] + " laughs at " + mile + " of " + riders;
                    // one rider: half of 1 is 0, and as good as elsewhere; two or three: half is 1
                    int rests = choice < 0 ? 25 : riders == 1 ? 9 : 1;
                    due(name + ": rests", x.rests(0, 1), rests);
                    due(name + ": behind the last", x.rest(0, 1, rests), -2);
                    int first = choice < 0 ? 0 : riders == 1 ? (choice == 0 ? 0 : choice) : 11 * choice;
                    due(name + ": first", x.rest(0, 1, 0), first);
                    int end = choice < 0 ? 44 : riders == 1 ? (choice == 4 ? 44 : 40 + choice) : 11 * choice;
                    due(name + ": last", x.rest(0, 1, rests - 1), end);
                }
            }
        }
    }

    /** "the first four RIDERS", "(-2: not so many)" */
    private static void seatingOfFour() {
        StringBuilder t = new StringBuilder("line 2;");
        for (int riders = 0; riders <= 6; riders++) {
            LaughLine x = with(t.toString());
            for (int what = 0; what < 4; what++) {
                due(riders + " riders, seating(" + what + ")", x.seating(what), what < riders ? 9 - what : -2);
            }
            due(riders + " riders, laughs", x.seating(4), 0);
            due("seating(5)", x.seating(5), -1);
            due("seating(-1)", x.seating(-1), -1);
            t.append("rider ").append((char) ('a' + riders)).append(" 60 9 ").append(9 - riders).append(" 0;");
        }
        // the fourth may change, the fifth doesn't: it stays beside the one that laughs at first
        String four = "line 2;rider a 60 5 0 0;rider b 60 99 4 0;rider c 60 99 6 0;rider d 60 20 1 0;rider e 60 99 8 0;sight 0 12;law mirth 12;";
        LaughLine x = with(four);
        // as they are d catches it and laughs; the first without it: 0 1 3 2: d in 6, c in 1
        due("seating(0)", x.seating(0), 0);
        due("seating(1)", x.seating(1), 4);
        due("seating(2)", x.seating(2), 1);
        due("seating(3)", x.seating(3), 6);
        due("laughs", x.seating(4), 1);
        due("as it was", x.rider(3, 2), 1);
        // seats as they are now, by call too
        x.seat(2, 2);
        due("seating(3), the seat 2 is beside 1 only", x.seating(3), 2);
    }

    /** "the fewest others (bits, of several the least)", "0: it does", "-2: by none" */
    private static void fewestEars() {
        for (int who = 0; who < 6; who++) {
            StringBuilder t = new StringBuilder("line 5;");
            for (int r = 0; r < 6; r++) {
                t.append("rider ").append((char) ('a' + r)).append(r == who ? " 3 20 " : " 60 10 ").append(r == 5 ? 0 : 2 * r).append(" 0;");
            }
            t.append("joke j 12 1;sight 3 12;tell j 0;law mirth 12;law calm 0;near 0;law laugh mood>=dull and halts=0;");
            // whoever hears j makes the one halt of the day at 0: the five others all must be deaf
            LaughLine x = with(t.toString());
            int all = 63 ^ 1 << who;
            due("rider " + who + ": all of the others", x.stopped(who), all);
            int other = (who + 1) % 6;
            x.ears(other, true);
            due("rider " + who + ": all but one that is deaf", x.stopped(who), all ^ 1 << other);
            for (int r = 0; r < 6; r++) {
                x.ears(r, r != who);
            }
            due("rider " + who + ": it does", x.stopped(who), 0);
            due("another one: by none", x.stopped(other), -2);
            due("of its own ears nothing is said", x.has(who, 1), 0);
        }
    }

    /** One of two is enough: the least; who is deaf already is none of them. */
    private static final String ONE_OF_TWO = "line 5;rider a 60 10 0 0;rider c 60 10 2 0;rider b 3 30 1 0;joke j 12 1;sight 3 12;tell j 0;"
        + "law mirth 12;law calm 0;near 0;law laugh mood>=dull and (dull=30 or mile=0);";

    private static void leastEars() {
        LaughLine x = with(ONE_OF_TWO);
        due("a or c: a", x.stopped(2), 1);
        x.ears(0, true);
        due("a is deaf", x.stopped(2), 0);
        x.ears(0, false);
        x.ears(1, true);
        due("c is deaf", x.stopped(2), 0);
        // two of the others, or one with more bits: the one
        x = with("line 5;rider p 60 10 3 0;rider q 60 10 3 0;rider r 60 22 2 0;rider b 3 21 1 0;joke j 12 1;sight 3 12;tell j 0;"
            + "law mirth 12;law calm 0;near 0;law laugh mood>=dull and (dull=21 or mile=0);");
        due("the fewest, not the least bits", x.stopped(3), 4);
    }

    /** "in least terms" */
    private static void likelyParts() {
        int[][] parts = {{1, 1}, {9, 10}, {4, 5}, {7, 10}, {3, 5}, {1, 2}, {2, 5}, {3, 10}, {1, 5}, {1, 10}, {0, 1}};
        for (int i = 0; i <= 10; i++) {
            // a mood of i at least and 15 of j, heard once, is enough
            LaughLine x = with("line 5;rider a 2 " + (15 + i) + " 0 0;rider b 60 99 5 0;joke j 20 1;tell j 2;law calm 0;");
            due("from mood " + i + " on, above", x.likely(0, 0), parts[i][0]);
            due("from mood " + i + " on, below", x.likely(0, 1), parts[i][1]);
            due("b, above", x.likely(1, 0), 0);
            due("b, below", x.likely(1, 1), 1);
            due("mood now", x.rider(0, 4), 0);
        }
        // a mood of 1 .. 9 is enough for one who is not dull at all: at mile 0
        LaughLine x = with("line 5;rider a 0 0 0 0;near 0;");
        due("above", x.likely(0, 0), 9);
        due("below", x.likely(0, 1), 10);
    }

    private static void solemnBits() {
        StringBuilder t = new StringBuilder("line 2;sight 1 50;");
        int[] dulls = {50, 51, 99, 0, 52, 49};
        int[] bits = {0, 2, 6, 6, 22, 22};
        for (int r = 0; r < 6; r++) {
            t.append("rider ").append((char) ('a' + r)).append(" 60 ").append(dulls[r]).append(" 5 0;");
            due(r + 1 + " riders", with(t.toString()).solemn(), bits[r]);
        }
        LaughLine x = with(t.toString().replace("sight 1 50;", "sight 1 0;"));
        due("all", x.solemn(), 63);
        // the next day, not this one
        x = with("line 1;rider a 60 9 0 0;joke j 10 1;tell j 0;");
        due("today it laughs", x.ahead(2, 1), 1);
        due("not on the next day", x.solemn(), 1);
    }

    /** "how many MINUTES from the begin of the next DAY it ALIGHTS (those of MILES ahead, with HALTS)" */
    private static void lateBounds() {
        LaughLine x = with("line 60;rider a 60 0 0 0;rider b 0 0 5 0;rider c 59 0 9 0;law laugh 1;near 0;");
        due("at 60, all halts", x.late(0), 180);
        due("at once", x.late(1), 0);
        due("at 59", x.late(2), 177);
        x = with("line 60;rider a 60 1 0 0;sight 60 1;near 0;");
        due("at 60, no halt ahead", x.late(0), 60);
        x = with("line 59;rider a 60 1 0 0;sight 59 1;near 0;");
        due("it passes", x.late(0), -2);
        x = with("line 59;rider a 60 1 0 0;sight 59 1;");
        due("at 59, near", x.late(0), 59);
        x.go(60);
        due("day", x.count(6), 1);
        due("of the next day still", x.late(0), 59);
    }

    // ---- notes

    private static final String TWO = "line 5;rider a 2 30 0 0;rider b 2 90 5 0;joke j 20 0;tell j 2;";

    /** "NOTES, at most 24, numbered from 0 on", "NONE: no such ones, or there are 24" */
    private static void notesAtMost() {
        for (int strikes = 0; strikes < 2; strikes++) {
            LaughLine x = with(TWO);
            for (int i = 0; i < 23; i++) {
                due("a note", strikes == 1 && i > 0 ? x.out(i - 1) : x.note(i % 2, i, false), i);
                due("notes", x.count(14), i + 1);
            }
            due("the 24th", strikes == 1 ? x.out(22) : x.note(1, 60, false), 23);
            due("a 25th", x.note(0, 0, false), -1);
            due("a 25th that strikes", x.out(0), -1);
            due("notes", x.count(14), 24);
            due("known", x.count(15), 24);
            due("they are none behind a text", x.text(0), 0);
            due("notes", x.count(14), 0);
        }
        LaughLine x = with(TWO);
        due("mile 0", x.note(0, 0, false), 0);
        due("mile 60", x.note(0, 60, false), 1);
        due("mile 61", x.note(0, 61, false), -1);
        due("mile -1", x.note(0, -1, false), -1);
        due("rider 1", x.note(1, 0, false), 2);
        due("rider 2", x.note(2, 0, false), -1);
        due("rider -1", x.note(-1, 0, false), -1);
        due("notes", x.count(14), 3);
        due("all of them are so", x.dulls(0), 1023);
    }

    /** "A note may strike one ahead of it" */
    private static void strikes() {
        LaughLine x = with(TWO);
        due("none is there", x.out(0), -1);
        due("note 0: it got out at 2", x.note(0, 2, true), 0);
        due("15", x.dulls(0), 15);
        due("itself", x.out(1), -1);
        due("one behind it", x.out(2), -1);
        due("one ahead", x.out(0), 1);
        due("nothing is known", x.dulls(0), 1023);
        due("once more", x.out(0), 2);
        due("what strikes", x.out(1), 3);
        // 3 strikes 1, but 2 strikes 0 still
        due("struck by the other", x.dulls(0), 1023);
        due("what strikes", x.out(2), 4);
        due("by none", x.dulls(0), 15);
        due("what strikes what strikes", x.out(4), 5);
        due("struck again", x.dulls(0), 1023);
        // known by fewer: those behind don't count
        int[] dulls = {1023, 15, 1023, 1023, 1023, 15, 1023};
        for (int n = 0; n < dulls.length; n++) {
            due("known(" + n + ")", x.known(n), true);
            due("by " + n, x.dulls(0), dulls[n]);
            due("count(15)", x.count(15), n);
        }
    }

    /** "-1: by all, also those to come" */
    private static void knownBounds() {
        LaughLine x = with(TWO);
        due("known(-2)", x.known(-2), false);
        due("known(1) of none", x.known(1), false);
        due("known(0) of none", x.known(0), true);
        x.note(0, 2, true);
        due("by none still", x.count(15), 0);
        due("dulls", x.dulls(0), 1023);
        due("known(2) of one", x.known(2), false);
        due("by none still", x.count(15), 0);
        due("known(1)", x.known(1), true);
        due("dulls", x.dulls(0), 15);
        x.note(0, 2, false);
        due("by one still", x.count(15), 1);
        due("dulls", x.dulls(0), 15);
        due("known(-1)", x.known(-1), true);
        due("by two", x.count(15), 2);
        due("dulls", x.dulls(0), 0);
        x.out(0);
        due("by three", x.count(15), 3);
        due("dulls", x.dulls(0), 1008);
        due("known(3)", x.known(3), true);
        x.note(0, 2, true);
        due("by three", x.count(15), 3);
        due("dulls", x.dulls(0), 1008);
        due("known(5) of four", x.known(5), false);
        due("by three", x.count(15), 3);
    }

    /** "0, 10, .. 90 (bits 0 .. 9)" */
    private static void dullsBits() {
        int[] funs = {0, 1, 9, 10, 19, 20, 80, 89, 90, 99};
        int[] bits = {0, 1, 1, 3, 3, 7, 511, 511, 1023, 1023};
        for (int i = 0; i < funs.length; i++) {
            String text = "line 5;rider a 2 45 0 0;sight 2 " + funs[i] + ";near 0;";
            LaughLine x = with(text);
            due("note", x.note(0, 2, true), 0);
            due("out by " + funs[i], x.dulls(0), bits[i]);
            x = with(text);
            due("note", x.note(0, 2, false), 0);
            due("not out by " + funs[i], x.dulls(0), 1023 ^ bits[i]);
            due("note at another mile", x.note(0, 3, true), 1);
            due("never at 3", x.dulls(0), 0);
            due("its own stays", x.rider(0, 1), 45);
        }
        // a note of another rider tells of this one, who makes the train halt
        LaughLine x = with("line 5;rider a 60 45 0 0;rider b 2 99 5 0;sight 2 50;near 0;");
        x.note(1, 2, true);
        due("b gets out, if a laughs", x.dulls(0), 63);
        due("b laughs by 50 itself, or a by 45", x.dulls(1), 1023);
    }

    // ---- chance and trials

    /** "n 1 .. 99 MILES", "so often 0 .. 9 more at least", "a seed 0 .. 2147483647" */
    private static void chanceBounds() {
        // it gets home at the last mile of each day, whatever is drawn; nine days are 99 miles
        LaughLine x = with("line 10;rider a 10 5 0 0;rider b 60 99 5 0;sight 10 9;near 0;");
        due("99 miles, 9 times", x.chance(1, 99, 0, 9), 10);
        due("98 miles, 9 times", x.chance(1, 98, 0, 9), 0);
        due("98 miles, 8 times", x.chance(1, 98, 0, 8), 10);
        due("11 miles, once", x.chance(1, 11, 0, 1), 10);
        due("10 miles, once", x.chance(1, 10, 0, 1), 0);
        due("11 miles, twice", x.chance(1, 11, 0, 2), 0);
        due("1 mile, not at all", x.chance(1, 1, 0, 0), 10);
        due("1 mile, once", x.chance(1, 1, 0, 1), 0);
        due("b, not at all", x.chance(1, 99, 1, 0), 10);
        due("b, once", x.chance(1, 99, 1, 1), 0);
        due("seed 0", x.chance(0, 11, 0, 1), 10);
        due("the greatest seed", x.chance(2147483647, 11, 0, 1), 10);
        due("seed -1", x.chance(-1, 11, 0, 1), -1);
        due("0 miles", x.chance(1, 0, 0, 0), -1);
        due("100 miles", x.chance(1, 100, 0, 0), -1);
        due("-1 times", x.chance(1, 11, 0, -1), -1);
        due("10 times", x.chance(1, 11, 0, 10), -1);
        // more: those so far don't count
        x.go(22);
        due("alighted", x.rider(0, 7), 2);
        due("11 miles, once", x.chance(1, 11, 0, 1), 10);
        due("11 miles, twice", x.chance(1, 11, 0, 2), 0);
        due("nothing went by", x.count(6), 2);
    }

    /** "times 1103515245 and 12345, without what is above 31 bits, by 65536", "a number modulo 10" */
    private static void drawnNumbers() {
        for (int seed : new int[] {0, 1, 42, 65535, 65536, 1000000007, 2147483646, 2147483647}) {
            int[] drawn = drawn(seed, 40);
            for (int least = 0; least <= 10; least++) {
                // one number each of ten times: 30 and what is drawn
                LaughLine x = with("line 5;rider a 0 " + (30 + least) + " 0 0;joke j 30 1;tell j 0;near 0;");
                due("seed " + seed + ": one at least " + least, x.chance(seed, 1, 0, 1), atLeast(drawn, 1, 0, least));
                x = with("line 5;rider a 0 " + (30 + least) + " 0 0;sight 0 30;near 0;");
                due("seed " + seed + ": a sight", x.chance(seed, 1, 0, 1), atLeast(drawn, 1, 0, least));
                // four each of ten times, in the order of sights and jokes; the third is that of joke j
                x = with("line 5;rider a 0 " + (30 + least) + " 0 0;joke j 30 1;joke k 1 2;tell k 0;tell j 0;sight 0 1;sight 0 2;near 0;"
                    + "law mirth (fun>=30)*fun;");
                due("seed " + seed + ": of four", x.chance(seed, 1, 0, 1), atLeast(drawn, 4, 2, least));
            }
        }
        // FUN of 99 and more is cut as all mirth is
        LaughLine x = with("line 5;rider a 0 99 0 0;joke j 99 1;tell j 0;near 0;law laugh mood>99;");
        due("99 at most", x.chance(1, 1, 0, 1), 0);
        x = with("line 5;rider a 0 99 0 0;joke j 99 1;tell j 0;near 0;law mirth fun>=99;law laugh mood>0;");
        due("fun of the law isn't cut", x.chance(1, 1, 0, 1), 10);
    }

    private static int[] drawn(int seed, int many) {
        int[] numbers = new int[many];
        BigInteger last = BigInteger.valueOf(seed);
        for (int i = 0; i < many; i++) {
            last = last.multiply(BigInteger.valueOf(1103515245)).add(BigInteger.valueOf(12345)).mod(BigInteger.ONE.shiftLeft(31));
            numbers[i] = last.divide(BigInteger.valueOf(65536)).mod(BigInteger.TEN).intValue();
        }
        return numbers;
    }

    private static int atLeast(int[] drawn, int each, int place, int least) {
        int times = 0;
        for (int i = 0; i < 10; i++) {
            times += drawn[each * i + place] >= least ? 1 : 0;
        }
        return times;
    }

    /** "TRIED (n 0 .. 99); NONE: no such ones (i 0 of all but 2)" */
    private static void triedBounds() {
        LaughLine x = with("line 10;rider a 10 5 0 0;rider b 60 99 5 0;sight 10 9;near 0;");
        for (int what = 0; what < 6; what++) {
            int days = what == 2 ? 0 : 1;
            due(what + ": 0 miles", x.tried(what, 0, 0), 0);
            due(what + ": 10 miles", x.tried(what, 0, 10), 0);
            due(what + ": 11 miles", x.tried(what, 0, 11), days);
            due(what + ": 98 miles", x.tried(what, 0, 98), 8 * days);
            due(what + ": 99 miles", x.tried(what, 0, 99), 9 * days);
            due(what + ": 100 miles", x.tried(what, 0, 100), -1);
            due(what + ": -1 miles", x.tried(what, 0, -1), -1);
            due(what + ": i 1", x.tried(what, 1, 99), what == 2 ? 9 : -1);
            due(what + ": i 2", x.tried(what, 2, 99), -1);
            due(what + ": i -1", x.tried(what, -1, 99), -1);
        }
        due("what -1", x.tried(-1, 0, 0), -1);
        due("what 6", x.tried(6, 0, 0), -1);
        due("nothing went by", x.count(8), 0);
        // one that isn't aboard now isn't there either way, until the next day
        x = with("line 3;rider a 0 5 0 0;rider b 3 5 5 0;sight 0 9;sight 3 9;near 0;");
        x.go(1);
        due("a is out", x.rider(0, 5), 0);
        due("a day's rest", x.tried(0, 0, 3), 1);
        due("without a", x.tried(2, 0, 3), 1);
        due("without b", x.tried(2, 1, 3), 0);
        due("and the next mile", x.tried(0, 0, 4), 2);
        due("without a", x.tried(2, 0, 4), 1);
        due("they are there", x.count(0), 2);
    }

    /** "1 no TUNNELS, 2 RIDER i isn't there, 3 nobody catches it, 4 no EARS are STOPPED, 5 nothing is HEARD twice (heard is 0)" */
    private static void triedOtherwise() {
        String tunnel = "line 1;rider a 0 5 0 0;rider b 60 99 5 0;sight 0 9;tunnel 0 1;";
        String ears = "line 1;rider a 0 5 0 0;rider b 60 99 5 0;joke j 90 1;tell j 0;";
        String heard = "line 1;rider a 0 5 0 0;rider b 60 99 5 0;joke j 9 1;tell j 0;";
        String lawful = "line 1;rider a 0 5 0 0;rider b 60 99 5 0;joke j 9 1;tell j 0;law mirth 9-9*heard;";
        String[] texts = {tunnel, ears, heard, lawful};
        int[][] alight = {{0, 3, 0, 0, 0, 0}, {0, 0, 0, 0, 3, 0}, {1, 1, 0, 1, 1, 3}, {1, 1, 0, 1, 1, 3}};
        for (int t = 0; t < texts.length; t++) {
            LaughLine x = with(texts[t]);
            x.ears(0, t == 1);
            for (int what = 0; what < 6; what++) {
                due("tried " + what + " of " + texts[t], x.tried(what, 0, 6), alight[t][what]);
            }
            due("without b, of " + texts[t], x.tried(2, 1, 6), alight[t][0]);
        }
        // b laughs of 6 at 0 and a catches it, which is 16 at home; nobody catches it, or b isn't there: 6
        String caught = "line 1;rider b 60 5 5 0;rider a 1 15 4 0;sight 0 6;near 0;law calm 0;law laugh mood>=dull and (mile=1 or dull=5);";
        LaughLine x = with(caught);
        int[] more = {3, 3, 0, 0, 3, 3};
        for (int what = 0; what < 6; what++) {
            due("tried " + what + " of " + caught, x.tried(what, 0, 6), more[what]);
        }
        due("without a", x.tried(2, 1, 6), 0);
    }

    // ---- undone, images

    /** "A RIDER is in a SEAT 0 .. 9 from now on" */
    private static void seatsByCall() {
        for (int rider = 0; rider < 3; rider++) {
            LaughLine x = with("rider a 60 5 4 0;rider b 60 5 4 0;rider c 60 5 4 0;");
            for (int seat = -2; seat <= 11; seat++) {
                boolean such = seat >= 0 && seat <= 9 && seat != 4;
                due("seat(" + rider + ", " + seat + ")", x.seat(rider, seat), such);
                due("its seat", x.rider(rider, 2), such ? seat : 4);
                due("of another one", x.rider((rider + 1) % 3, 2), 4);
                due("can be undone", x.count(16), such ? 1 : 0);
                due("undo()", x.undo(), such ? 0 : -1);
                due("its seat again", x.rider(rider, 2), 4);
            }
        }
        // from now on: on the next day, too; for whom it is beside
        LaughLine x = with("line 1;rider a 60 5 0 0;rider b 60 99 5 0;sight 0 5;law calm 0;");
        due("seat(1, 1)", x.seat(1, 1), true);
        for (int day = 0; day < 3; day++) {
            x.go(1);
            due("b catches it", x.rider(1, 4), 15);
            x.go(1);
            due("its seat", x.rider(1, 2), 1);
        }
    }

    /** "A JOKE is told at a MILE 0 .. 60 on each DAY from now on, or no more" */
    private static void tellingsByCall() {
        LaughLine x = with("line 1;rider a 60 99 0 0;joke i 1 1;joke j 2 1;tell j 30;");
        int[] miles = {-1, 0, 1, 29, 30, 31, 32, 59, 60, 61, 62, 63, 64};
        for (int mile : miles) {
            boolean such = mile >= 0 && mile <= 60;
            boolean is = mile == 30;
            due("tell(1, " + mile + ", as it is)", x.tell(1, mile, is), false);
            due("tell(1, " + mile + ", otherwise)", x.tell(1, mile, !is), such);
            due("told(1, " + mile + ")", x.told(1, mile), such ? (is ? 0 : 1) : -1);
            due("told(0, " + mile + ")", x.told(0, mile), such ? 0 : -1);
            due("miles", x.joke(1, 2), such ? (is ? 0 : 2) : 1);
            due("tellings", x.count(2), such ? (is ? 0 : 2) : 1);
            due("of the other", x.joke(0, 2), 0);
            due("undo()", x.undo(), such ? 0 : -1);
            due("miles again", x.joke(1, 2), 1);
        }
        // on each day from now on, and no more
        x = with("line 1;rider a 60 99 0 0;joke i 1 1;");
        x.tell(0, 0, true);
        x.go(6);
        due("heard on three days", x.heard(0, 0), 3);
        x.tell(0, 0, false);
        x.go(6);
        due("no more", x.heard(0, 0), 3);
        // at a mile that is behind on this day: from the next day on
        x.go(1);
        x.tell(0, 0, true);
        x.go(1);
        due("not on this day", x.heard(0, 0), 3);
        x.go(1);
        due("on the next day", x.heard(0, 0), 4);
    }

    /** Those of all riders and jokes, more than twenty: each is as it was. */
    private static void undoOfOthers() {
        LaughLine x = with("rider a 60 5 0 0;rider b 60 5 0 0;rider c 60 5 0 0;joke i 1 1;joke j 2 1;joke k 3 1;");
        for (int i = 0; i < 24; i++) {
            due("change " + i, i % 2 == 0 ? x.seat(i / 2 % 3, 1 + i / 6) : x.tell(i / 2 % 3, 10 + i, true), true);
        }
        int left = 20;
        for (int i = 23; i >= 4; i--) {
            left--;
            due("left", x.undo(), left);
            if (i % 2 == 0) {
                due("seat of " + i / 2 % 3, x.rider(i / 2 % 3, 2), i / 6);
                due("seat of the next", x.rider((i / 2 + 1) % 3, 2), (i - 4) / 6 + (i >= 4 ? 1 : 0));
            } else {
                due("told", x.told(i / 2 % 3, 10 + i), 0);
            }
        }
        due("none", x.undo(), -1);
        due("seat of a", x.rider(0, 2), 1);
        due("seat of b", x.rider(1, 2), 1);
        due("seat of c", x.rider(2, 2), 0);
        due("told(0, 11)", x.told(0, 11), 1);
        due("told(1, 13)", x.told(1, 13), 1);
        due("tellings", x.count(2), 2);
    }

    /** "can be undone, the latest first (20 at most)" */
    private static void undoAtMost() {
        for (int changes = 1; changes <= 25; changes++) {
            LaughLine x = with("rider a 0 5 0 0;joke j 9 1;");
            for (int i = 0; i < changes; i++) {
                due("tell", x.tell(0, i, true), true);
            }
            int most = Math.min(20, changes);
            due(changes + ": can be undone", x.count(16), most);
            for (int i = 0; i < most; i++) {
                due(changes + ": left", x.undo(), most - 1 - i);
                due(changes + ": the latest first", x.told(0, changes - 1 - i), 0);
                due(changes + ": told still", x.joke(0, 2), changes - 1 - i);
            }
            due(changes + ": none", x.undo(), -1);
            due(changes + ": none can be undone", x.count(16), 0);
            due(changes + ": the oldest stay", x.joke(0, 2), changes - most);
            for (int i = 0; i < changes - most; i++) {
                due(changes + ": told at " + i, x.told(0, i), 1);
            }
        }
        // of each kind, one behind another, more than twenty
        LaughLine x = with("rider a 0 5 0 0;joke j 9 1;");
        for (int i = 0; i < 8; i++) {
            due("ears", x.ears(0, i % 2 == 0), true);
            due("seat", x.seat(0, i + 1), true);
            due("tell", x.tell(0, 7, i % 2 == 0), true);
        }
        due("can be undone", x.count(16), 20);
        for (int i = 7; i >= 2; i--) {
            due("left", x.undo(), 3 * i - 2);
            due("told", x.told(0, 7), i % 2 == 0 ? 0 : 1);
            due("left", x.undo(), 3 * i - 3);
            due("seat", x.rider(0, 2), i);
            due("left", x.undo(), 3 * i - 4 >= 0 ? 3 * i - 4 : -1);
            due("ears", x.has(0, 1), i % 2 == 0 ? 0 : 1);
        }
        due("left", x.undo(), 1);
        due("left", x.undo(), 0);
        due("none", x.undo(), -1);
        due("told", x.told(0, 7), 1);
        due("seat", x.rider(0, 2), 1);
        due("ears", x.has(0, 1), 0);
    }

    /** "if no MILE went by since" */
    private static void undoBehindMiles() {
        LaughLine x = with("line 5;rider a 0 5 0 0;joke j 9 1;");
        x.ears(0, true);
        due("go(0)", x.go(0), 0);
        due("no mile went by", x.count(16), 1);
        due("go(100)", x.go(100), -1);
        due("no mile went by", x.count(16), 1);
        x.ahead(99, 0);
        x.nextHalt();
        due("miles ahead did not go by", x.count(16), 1);
        due("go(1)", x.go(1), 1);
        due("a mile went by", x.count(16), 0);
        due("undo()", x.undo(), -1);
        due("has(0, 1)", x.has(0, 1), 1);
        x.ears(0, false);
        due("since", x.count(16), 1);
        due("undo()", x.undo(), 0);
        due("has(0, 1)", x.has(0, 1), 1);
        // a change that is refused is none that can be undone
        due("ears", x.ears(0, true), false);
        due("seat", x.seat(0, 0), false);
        due("tell", x.tell(0, 3, false), false);
        due("none", x.count(16), 0);
    }

    /** "An IMAGE is kept (in place of one ahead)", "nothing to undo then", "NONE: there is none" */
    private static void images() {
        LaughLine x = with("line 5;rider a 60 5 0 0;joke j 9 1;sight 0 9;");
        due("none", x.back(), -1);
        due("keep()", x.keep(), 0);
        x.go(6);
        due("keep() in place of it", x.keep(), 1);
        x.go(12);
        due("day", x.count(6), 3);
        x.ears(0, true);
        x.note(0, 3, false);
        due("back()", x.back(), 1);
        due("day", x.count(6), 1);
        due("minutes", x.count(8), 8);
        due("laughs", x.count(10), 1);
        due("nothing to undo", x.count(16), 0);
        due("undo()", x.undo(), -1);
        due("ears", x.has(0, 1), 0);
        due("notes stay", x.count(14), 1);
        due("back() once more", x.back(), 1);
        x.seat(0, 4);
        due("keep() leaves what can be undone", x.keep(), 1);
        due("one", x.count(16), 1);
        due("undo()", x.undo(), 0);
        due("seat", x.rider(0, 2), 0);
        due("back()", x.back(), 1);
        due("the seat of the image", x.rider(0, 2), 4);
        due("text(1) leaves it", x.text(1), -2);
        due("back()", x.back(), 1);
        due("text(0) takes it", x.text(0), 0);
        due("back()", x.back(), -1);
        due("day", x.count(6), 0);
    }
}
