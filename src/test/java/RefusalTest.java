import java.util.NoSuchElementException;
import java.util.function.Supplier;

/**
 * Calls that are refused, and questions: twins are made alike, one of them is asked, and afterwards all that can
 * be seen of both is the same, to the tape, what can be undone and the image.
 */
public final class RefusalTest {
    private static final long ERROR = Long.MIN_VALUE;
    private static final long NO_RIDER = -901;
    private static final long NO_WHAT = -902;
    private static final String TRAIN =
        "line 10;rider ann 3 20 0 1;rider bo 4 10 1 0;rider cy 9 50 5 2;joke pun 15 1;joke pie 12 0;"
        + "tell pun 3;sight 6 30;sight 9 60;tunnel 9 10;law calm 1+halts;law laugh mood>=dull and mood>0;law mirth fun+likes*10-heard;";
    private static int wrong = 0;
    private static int asked = 0;

    private interface Call {
        long of(LaughLine x);
    }

    public static void main(String[] args) {
        texts();
        ofTheText();
        ofRidersAndJokes();
        laws();
        changes();
        miles();
        nextDay();
        clowns();
        notes();
        chanceAndTrials();
        whatIsEmpty();
        whatIsFull();
        lastDay();
        questions();
        System.out.println("RefusalTest: " + asked + " calls, " + wrong + " wrong");
        if (wrong != 0) {
            System.exit(1);
        }
    }

    // ---- twins

    /** Day 1, mile 4, with ears, seats, tellings, an image, notes, a fault, bytes on the tape. */
    private static LaughLine rich() {
        LaughLine x = new LaughLine();
        feed(x, TRAIN);
        if (x.text(TRAIN.length()) != 13) {
            wrong++;
            System.out.println("the text has fault " + x.fault(0) + " at " + x.fault(1));
        }
        x.note(0, 3, true);
        x.note(1, 4, false);
        x.out(1);
        x.known(2);
        x.go(5);
        x.ears(1, true);
        x.keep();
        x.go(10);
        feed(x, "line 5;line 5;");
        x.text(14);
        feed(x, "near 0;");
        x.ears(0, true);
        x.seat(2, 2);
        x.tell(1, 8, true);
        return x;
    }

    private static void feed(LaughLine x, String text) {
        for (int i = 0; i < text.length(); i += 20) {
            int[] v = new int[5];
            for (int k = 0; k < 20; k++) {
                v[k / 4] = v[k / 4] << 8 | (i + k < text.length() ? text.charAt(i + k) : ' ');
            }
            x.feed(v[0], v[1], v[2], v[3], v[4]);
        }
    }

    private static void refused(String name, long want, Call call) {
        refused(name, want, call, RefusalTest::rich);
    }

    private static void refused(String name, long want, Call call, Supplier<LaughLine> maker) {
        asked++;
        LaughLine x = maker.get();
        long got = call.of(x);
        if (got != want) {
            wrong++;
            System.out.println(name + " answered " + got + ", due is " + want);
        }
        stays(name, x, maker);
    }

    private static void stays(String name, LaughLine x, Supplier<LaughLine> maker) {
        String after = all(x);
        String due = all(maker.get());
        if (!after.equals(due)) {
            wrong++;
            System.out.println(name + " left\n  " + after + "\ndue is\n  " + due);
        }
    }

    /** All that can be seen, at last by calls that change it. */
    private static String all(LaughLine x) {
        StringBuilder b = new StringBuilder();
        now(b, x);
        for (int i = 0; i < 4; i++) {
            b.append(" undo ").append(x.undo()).append(' ').append(x.has(0, 1)).append(rider(x, 2, 2)).append(x.told(1, 8));
        }
        b.append(" go ").append(x.go(3)).append(" minutes ").append(x.count(8));
        b.append(" back ").append(x.back());
        now(b, x);
        b.append(" tape ").append(x.feed(0, 0, 0, 0, 0)).append(" text ").append(x.text(7)).append(" near ").append(x.count(0));
        return b.toString();
    }

    private static void now(StringBuilder b, LaughLine x) {
        b.append(" fault ").append(x.fault(0)).append(' ').append(x.fault(1)).append(" count");
        for (int what = 0; what < 17; what++) {
            b.append(' ').append(x.count(what));
        }
        for (int r = 0; r < x.count(0); r++) {
            b.append("; rider");
            for (int what = 0; what < 8; what++) {
                b.append(' ').append(rider(x, r, what));
            }
            for (int what = 0; what < 3; what++) {
                b.append(' ').append(x.has(r, what));
            }
            b.append(" law ").append(x.law(0, r, 0)).append(' ').append(x.law(1, r, 0)).append(' ').append(x.law(2, r, 0));
            b.append(" out ").append(x.getsOut(r)).append(' ').append(x.late(r)).append(' ').append(x.stopped(r));
            b.append(" dulls ").append(x.dulls(r)).append(" heard ").append(x.heard(r, 0)).append(x.heard(r, 1));
        }
        for (int j = 0; j < x.count(1); j++) {
            b.append("; joke ").append(x.joke(j, 0)).append(' ').append(x.joke(j, 1)).append(' ').append(x.joke(j, 2));
            for (int mile = 0; mile <= 10; mile++) {
                b.append(x.told(j, mile));
            }
        }
        b.append(" seen ").append(x.seen(6)).append(' ').append(x.seen(9));
        b.append(" ahead ").append(x.ahead(30, 1)).append(' ').append(x.ahead(30, 4)).append(" halt ").append(x.nextHalt());
        b.append(" solemn ").append(x.solemn()).append(" seating ").append(x.seating(4));
        b.append(" tried ").append(x.tried(0, 0, 50)).append(' ').append(x.tried(1, 0, 50)).append(" names ");
        b.append(x.named(0, 1 << 25 | 14 << 20 | 14 << 15)).append(x.named(1, 16 << 25 | 9 << 20 | 5 << 15));
    }

    private static long rider(LaughLine x, int rider, int what) {
        try {
            return x.rider(rider, what);
        } catch (IndexOutOfBoundsException e) {
            return e.getClass() == IndexOutOfBoundsException.class ? NO_RIDER : -903;
        } catch (NoSuchElementException e) {
            return e.getClass() == NoSuchElementException.class ? NO_WHAT : -904;
        }
    }

    private static long bit(boolean is) {
        return is ? 1 : 0;
    }

    // ---- promises 1 to 5

    private static void texts() {
        refused("text(-1)", -2, x -> x.text(-1));
        refused("text(least)", -2, x -> x.text(Integer.MIN_VALUE));
        refused("text(21) of 20", -2, x -> x.text(21));
        refused("text(greatest)", -2, x -> x.text(Integer.MAX_VALUE));
        refused("text(1) of none", -2, x -> x.text(1), () -> {
            LaughLine x = rich();
            x.text(20);
            return x;
        });
        // with a fault all stays but the tape, which is empty, and the latest fault
        Supplier<LaughLine> faulty = () -> {
            LaughLine x = rich();
            x.text(0);
            return x;
        };
        String none = all(faulty.get());
        LaughLine x = rich();
        long got = x.text(6);
        LaughLine twin = rich();
        StringBuilder after = new StringBuilder();
        StringBuilder due = new StringBuilder();
        now(after, x);
        now(due, twin);
        String want = due.toString().replaceFirst(" fault 3 7 ", " fault 1 6 ");
        if (got != -1 || !after.toString().equals(want) || want.contentEquals(due)) {
            wrong++;
            System.out.println("a fault left\n  " + after + "\ndue is\n  " + want);
        }
        for (int i = 0; i < 3; i++) {
            if (x.undo() != twin.undo()) {
                wrong++;
                System.out.println("a fault took what can be undone");
            }
        }
        if (x.undo() != -1 || x.back() != 0 || x.feed(0, 0, 0, 0, 0) != 20) {
            wrong++;
            System.out.println("a fault took the image, or left the tape");
        }
        if (none.contains("; rider")) {
            wrong++;
            System.out.println("a text of no bytes left riders");
        }
    }

    private static void ofTheText() {
        refused("fault(-1)", -1, x -> x.fault(-1));
        refused("fault(2)", -1, x -> x.fault(2));
        int ann = 1 << 25 | 14 << 20 | 14 << 15;
        refused("named(0, ann)", 0, x -> x.named(0, ann));
        refused("named(-1, ann)", -1, x -> x.named(-1, ann));
        refused("named(2, ann)", -1, x -> x.named(2, ann));
        refused("named(1, ann)", -1, x -> x.named(1, ann));
        refused("named(0, 0)", -1, x -> x.named(0, 0));
        refused("named(0, least)", -1, x -> x.named(0, Integer.MIN_VALUE));
        refused("named(0, ann and the sign)", -1, x -> x.named(0, ann | Integer.MIN_VALUE));
        refused("named(0, ann and a bit)", -1, x -> x.named(0, ann | 1));
        refused("count(-1)", -1, x -> x.count(-1));
        refused("count(17)", -1, x -> x.count(17));
        refused("count(least)", -1, x -> x.count(Integer.MIN_VALUE));
        refused("count(greatest)", -1, x -> x.count(Integer.MAX_VALUE));
    }

    // ---- promises 6 to 12

    private static void ofRidersAndJokes() {
        for (int who : new int[] {-1, 3, 6, Integer.MIN_VALUE, Integer.MAX_VALUE}) {
            refused("rider(" + who + ", 0)", NO_RIDER, x -> rider(x, who, 0));
            refused("rider(" + who + ", 8)", NO_RIDER, x -> rider(x, who, 8));
            refused("has(" + who + ", 0)", -1, x -> x.has(who, 0));
            refused("heard(" + who + ", 0)", -1, x -> x.heard(who, 0));
        }
        for (int what : new int[] {-1, 8, Integer.MIN_VALUE, Integer.MAX_VALUE}) {
            refused("rider(2, " + what + ")", NO_WHAT, x -> rider(x, 2, what));
            refused("has(2, " + what + ")", -1, x -> x.has(2, what));
            refused("joke(1, " + what + ")", -1, x -> x.joke(1, what));
        }
        refused("has(0, 3)", -1, x -> x.has(0, 3));
        refused("joke(0, 3)", -1, x -> x.joke(0, 3));
        for (int which : new int[] {-1, 2, 6, Integer.MIN_VALUE, Integer.MAX_VALUE}) {
            refused("joke(" + which + ", 0)", -1, x -> x.joke(which, 0));
            refused("heard(0, " + which + ")", -1, x -> x.heard(0, which));
            refused("told(" + which + ", 3)", -1, x -> x.told(which, 3));
        }
        for (int mile : new int[] {-1, 61, 64, Integer.MIN_VALUE, Integer.MAX_VALUE}) {
            refused("told(0, " + mile + ")", -1, x -> x.told(0, mile));
            refused("seen(" + mile + ")", -1, x -> x.seen(mile));
        }
        refused("told(0, 67), 64 more than 3", -1, x -> x.told(0, 67));
    }

    private static void laws() {
        for (int what : new int[] {-1, 3, Integer.MIN_VALUE, Integer.MAX_VALUE}) {
            refused("law(" + what + ", 0, 0)", ERROR, x -> x.law(what, 0, 0));
        }
        for (int what = 0; what < 3; what++) {
            int which = what;
            refused("law(" + what + ", -1, 0)", ERROR, x -> x.law(which, -1, 0));
            refused("law(" + what + ", 3, 0)", ERROR, x -> x.law(which, 3, 0));
        }
        refused("law(0, 0, -1)", ERROR, x -> x.law(0, 0, -1));
        refused("law(0, 0, 2)", ERROR, x -> x.law(0, 0, 2));
        // cy: mood 0 on mile 4 but for 15 of pun at 3, heard once, and calm; no joke is looked at
        refused("law(1, 2, -1)", 0, x -> x.law(1, 2, -1));
        refused("law(1, 2, 2)", 0, x -> x.law(1, 2, 2));
        refused("law(2, 2, greatest)", 1, x -> x.law(2, 2, Integer.MAX_VALUE), () -> {
            LaughLine x = rich();
            x.go(7);
            return x;
        });
    }

    // ---- promises 13 to 16

    private static void changes() {
        for (int who : new int[] {-1, 3, Integer.MIN_VALUE, Integer.MAX_VALUE}) {
            refused("ears(" + who + ", true)", 0, x -> bit(x.ears(who, true)));
            refused("ears(" + who + ", false)", 0, x -> bit(x.ears(who, false)));
            refused("seat(" + who + ", 4)", 0, x -> bit(x.seat(who, 4)));
        }
        refused("ears(0, true), so", 0, x -> bit(x.ears(0, true)));
        refused("ears(2, false), so", 0, x -> bit(x.ears(2, false)));
        for (int seat : new int[] {-1, 10, Integer.MIN_VALUE, Integer.MAX_VALUE}) {
            refused("seat(0, " + seat + ")", 0, x -> bit(x.seat(0, seat)));
        }
        refused("seat(2, 2), there", 0, x -> bit(x.seat(2, 2)));
        refused("seat(0, 0), there", 0, x -> bit(x.seat(0, 0)));
        for (int which : new int[] {-1, 2, Integer.MIN_VALUE, Integer.MAX_VALUE}) {
            refused("tell(" + which + ", 4, true)", 0, x -> bit(x.tell(which, 4, true)));
            refused("tell(" + which + ", 4, false)", 0, x -> bit(x.tell(which, 4, false)));
        }
        for (int mile : new int[] {-1, 61, 64, 67, Integer.MIN_VALUE, Integer.MAX_VALUE}) {
            refused("tell(0, " + mile + ", true)", 0, x -> bit(x.tell(0, mile, true)));
            refused("tell(0, " + mile + ", false)", 0, x -> bit(x.tell(0, mile, false)));
        }
        refused("tell(0, 3, true), so", 0, x -> bit(x.tell(0, 3, true)));
        refused("tell(1, 8, true), so", 0, x -> bit(x.tell(1, 8, true)));
        refused("tell(0, 8, false), so", 0, x -> bit(x.tell(0, 8, false)));
    }

    private static void miles() {
        for (int n : new int[] {-1, 100, Integer.MIN_VALUE, Integer.MAX_VALUE}) {
            refused("go(" + n + ")", -1, x -> x.go(n));
            refused("ahead(" + n + ", 0)", -1, x -> x.ahead(n, 0));
            refused("tried(0, 0, " + n + ")", -1, x -> x.tried(0, 0, n));
        }
        // no mile went by: it can all be undone still
        refused("go(0)", 4, x -> x.go(0));
        for (int what : new int[] {-1, 5, Integer.MIN_VALUE, Integer.MAX_VALUE}) {
            refused("ahead(5, " + what + ")", -1, x -> x.ahead(5, what));
        }
        for (int who : new int[] {-1, 3, Integer.MIN_VALUE, Integer.MAX_VALUE}) {
            refused("getsOut(" + who + ")", -1, x -> x.getsOut(who));
        }
    }

    // ---- promises 20 to 28

    private static void nextDay() {
        for (int none : new int[] {-1, 2, Integer.MIN_VALUE, Integer.MAX_VALUE}) {
            refused("when(" + none + ", 0)", -1, x -> x.when(none, 0));
            refused("when(0, " + none + ")", -1, x -> x.when(0, none));
            refused("both(" + none + ", 0, 0)", -1, x -> x.both(none, 0, 0));
            refused("both(0, " + none + ", 0)", -1, x -> x.both(0, none, 0));
            refused("likely(0, " + none + ")", -1, x -> x.likely(0, none));
        }
        refused("both(0, 1, -1)", -1, x -> x.both(0, 1, -1));
        refused("both(0, 1, 3)", -1, x -> x.both(0, 1, 3));
        refused("both(0, 0, 0), alike", -1, x -> x.both(0, 0, 0));
        refused("both(1, 1, 2), alike", -1, x -> x.both(1, 1, 2));
        refused("both(-1, -1, 2)", -1, x -> x.both(-1, -1, 2));
        refused("seating(-1)", -1, x -> x.seating(-1));
        refused("seating(5)", -1, x -> x.seating(5));
        refused("seating(3) of three", -2, x -> x.seating(3));
        refused("seating(greatest)", -1, x -> x.seating(Integer.MAX_VALUE));
        for (int none : new int[] {-1, 3, Integer.MIN_VALUE, Integer.MAX_VALUE}) {
            refused("stopped(" + none + ")", -1, x -> x.stopped(none));
            refused("likely(" + none + ", 0)", -1, x -> x.likely(none, 0));
            refused("late(" + none + ")", -1, x -> x.late(none));
        }
    }

    private static void clowns() {
        for (int none : new int[] {-1, 2, Integer.MIN_VALUE, Integer.MAX_VALUE}) {
            refused("rests(" + none + ", 0)", -1, x -> x.rests(none, 0));
            refused("rests(0, " + none + ")", -1, x -> x.rests(0, none));
            refused("rest(" + none + ", 0, 0)", -1, x -> x.rest(none, 0, 0));
            refused("rest(0, " + none + ", 0)", -1, x -> x.rest(0, none, 0));
        }
        refused("rests(1, 1), alike", -1, x -> x.rests(1, 1));
        refused("rest(1, 1, 0), alike", -1, x -> x.rest(1, 1, 0));
        refused("rest(1, 1, 99), alike", -1, x -> x.rest(1, 1, 99));
        refused("rest(0, 1, -1)", -1, x -> x.rest(0, 1, -1));
        refused("rest(0, 1, least)", -1, x -> x.rest(0, 1, Integer.MIN_VALUE));
        refused("rest(0, 1, 25)", -2, x -> x.rest(0, 1, 25));
        refused("rest(0, 1, greatest)", -2, x -> x.rest(0, 1, Integer.MAX_VALUE));
    }

    // ---- promises 29 to 34

    private static void notes() {
        for (int none : new int[] {-1, 3, Integer.MIN_VALUE, Integer.MAX_VALUE}) {
            refused("note(" + none + ", 3, true)", -1, x -> x.note(none, 3, true));
            refused("out(" + none + ")", -1, x -> x.out(none));
            refused("dulls(" + none + ")", -1, x -> x.dulls(none));
        }
        for (int mile : new int[] {-1, 61, Integer.MIN_VALUE, Integer.MAX_VALUE}) {
            refused("note(0, " + mile + ", true)", -1, x -> x.note(0, mile, true));
            refused("note(0, " + mile + ", false)", -1, x -> x.note(0, mile, false));
        }
        for (int n : new int[] {-2, 4, Integer.MIN_VALUE, Integer.MAX_VALUE}) {
            refused("known(" + n + ") of three", 0, x -> bit(x.known(n)));
        }
        refused("known(2), so", 1, x -> bit(x.known(2)));
    }

    private static void chanceAndTrials() {
        refused("chance(-1, 5, 0, 1)", -1, x -> x.chance(-1, 5, 0, 1));
        refused("chance(least, 5, 0, 1)", -1, x -> x.chance(Integer.MIN_VALUE, 5, 0, 1));
        for (int n : new int[] {0, -1, 100, Integer.MIN_VALUE, Integer.MAX_VALUE}) {
            refused("chance(1, " + n + ", 0, 0)", -1, x -> x.chance(1, n, 0, 0));
        }
        for (int who : new int[] {-1, 3, Integer.MIN_VALUE, Integer.MAX_VALUE}) {
            refused("chance(1, 5, " + who + ", 0)", -1, x -> x.chance(1, 5, who, 0));
            refused("tried(2, " + who + ", 5)", -1, x -> x.tried(2, who, 5));
        }
        for (int often : new int[] {-1, 10, Integer.MIN_VALUE, Integer.MAX_VALUE}) {
            refused("chance(1, 5, 0, " + often + ")", -1, x -> x.chance(1, 5, 0, often));
        }
        for (int what : new int[] {-1, 6, Integer.MIN_VALUE, Integer.MAX_VALUE}) {
            refused("tried(" + what + ", 0, 5)", -1, x -> x.tried(what, 0, 5));
        }
        for (int what : new int[] {0, 1, 3, 4, 5}) {
            refused("tried(" + what + ", 1, 5)", -1, x -> x.tried(what, 1, 5));
            refused("tried(" + what + ", -1, 5)", -1, x -> x.tried(what, -1, 5));
        }
        refused("tried(2, 1, 100)", -1, x -> x.tried(2, 1, 100));
        refused("tried(2, 1, -1)", -1, x -> x.tried(2, 1, -1));
    }

    // ---- nothing is there, all is there, the last day

    private static void whatIsEmpty() {
        Supplier<LaughLine> fresh = LaughLine::new;
        refused("undo() of nothing", -1, LaughLine::undo, fresh);
        refused("back() without an image", -1, LaughLine::back, fresh);
        refused("text(1) of an empty tape", -2, x -> x.text(1), fresh);
        refused("text(-1) of an empty tape", -2, x -> x.text(-1), fresh);
        refused("rider(0, 0) of none", NO_RIDER, x -> rider(x, 0, 0), fresh);
        refused("has(0, 0) of none", -1, x -> x.has(0, 0), fresh);
        refused("joke(0, 0) of none", -1, x -> x.joke(0, 0), fresh);
        refused("heard(0, 0) of none", -1, x -> x.heard(0, 0), fresh);
        refused("told(0, 0) of none", -1, x -> x.told(0, 0), fresh);
        refused("named(0, 0) of none", -1, x -> x.named(0, 0), fresh);
        refused("named(1, 0) of none", -1, x -> x.named(1, 0), fresh);
        for (int what = 0; what < 3; what++) {
            int which = what;
            refused("law(" + what + ", 0, 0) of none", ERROR, x -> x.law(which, 0, 0), fresh);
        }
        refused("ears(0, true) of none", 0, x -> bit(x.ears(0, true)), fresh);
        refused("seat(0, 1) of none", 0, x -> bit(x.seat(0, 1)), fresh);
        refused("tell(0, 1, true) of none", 0, x -> bit(x.tell(0, 1, true)), fresh);
        refused("getsOut(0) of none", -1, x -> x.getsOut(0), fresh);
        refused("when(0, 0) of none", -1, x -> x.when(0, 0), fresh);
        refused("both(0, 1, 0) of none", -1, x -> x.both(0, 1, 0), fresh);
        refused("seating(0) of none", -2, x -> x.seating(0), fresh);
        refused("seating(3) of none", -2, x -> x.seating(3), fresh);
        refused("seating(4) of none", 0, x -> x.seating(4), fresh);
        refused("stopped(0) of none", -1, x -> x.stopped(0), fresh);
        refused("rests(0, 1) of none", -1, x -> x.rests(0, 1), fresh);
        refused("rest(0, 1, 0) of none", -1, x -> x.rest(0, 1, 0), fresh);
        refused("likely(0, 0) of none", -1, x -> x.likely(0, 0), fresh);
        refused("solemn() of none", 0, LaughLine::solemn, fresh);
        refused("late(0) of none", -1, x -> x.late(0), fresh);
        refused("note(0, 0, true) of none", -1, x -> x.note(0, 0, true), fresh);
        refused("out(0) of none", -1, x -> x.out(0), fresh);
        refused("known(1) of none", 0, x -> bit(x.known(1)), fresh);
        refused("dulls(0) of none", -1, x -> x.dulls(0), fresh);
        refused("chance(0, 1, 0, 0) of none", -1, x -> x.chance(0, 1, 0, 0), fresh);
        refused("tried(2, 0, 1) of none", -1, x -> x.tried(2, 0, 1), fresh);
        refused("nextHalt() of none", -2, LaughLine::nextHalt, fresh);
    }

    private static void whatIsFull() {
        Supplier<LaughLine> tape = () -> {
            LaughLine x = rich();
            for (int i = 0; i < 34; i++) {
                x.feed(0x20202020, 0x20202020, 0x20202020, 0x20202020, 0x20202020);
            }
            return x;
        };
        refused("feed() of 700", -1, x -> x.feed(0, 0, 0, 0, 0), tape);
        refused("text(701) of 700", -2, x -> x.text(701), tape);
        Supplier<LaughLine> notes = () -> {
            LaughLine x = rich();
            for (int i = 3; i < 24; i++) {
                x.note(i % 3, i, false);
            }
            return x;
        };
        refused("note() of 24", -1, x -> x.note(0, 3, true), notes);
        refused("out(0) of 24", -1, x -> x.out(0), notes);
        refused("out(24) of 24", -1, x -> x.out(24), notes);
        refused("known(25) of 24", 0, x -> bit(x.known(25)), notes);
    }

    private static void lastDay() {
        Supplier<LaughLine> late = () -> {
            LaughLine x = new LaughLine();
            feed(x, "line 1;rider a 1 0 0 0;sight 1 9;");
            x.text(33);
            for (int i = 0; i < 18; i++) {
                x.go(99);
            }
            x.go(20);
            x.ears(0, true);
            return x;
        };
        if (late.get().count(6) != 901) {
            wrong++;
            System.out.println("the day is " + late.get().count(6) + ", not 901");
        }
        refused("go(1) on day 901", -1, x -> x.go(1), late);
        refused("go(0) on day 901", -1, x -> x.go(0), late);
        refused("go(99) on day 901", -1, x -> x.go(99), late);
        refused("go(-1) on day 901", -1, x -> x.go(-1), late);
        refused("ahead(2, 0) on day 901", 1, x -> x.ahead(2, 0), late);
        refused("getsOut(0) on day 901", 1, x -> x.getsOut(0), late);
        refused("late(0) on day 901", 1, x -> x.late(0), late);
    }

    // ---- what is asked changes nothing

    private static void questions() {
        LaughLine x = rich();
        x.named(0, 5);
        for (int i = 0; i < 5; i++) {
            x.ahead(99, i);
            x.seating(i);
        }
        for (int r = 0; r < 3; r++) {
            x.getsOut(r);
            x.stopped(r);
            x.likely(r, 0);
            x.late(r);
            x.dulls(r);
            x.chance(7, 99, r, 1);
            x.tried(2, r, 99);
        }
        for (int i = 0; i < 6; i++) {
            x.tried(i, 0, 99);
        }
        for (int i = 0; i < 3; i++) {
            x.when(0, i);
            x.both(1, 0, i);
            x.rest(0, 1, i);
        }
        x.nextHalt();
        x.rests(0, 1);
        x.solemn();
        stays("questions", x, RefusalTest::rich);
        // an image kept once more changes nothing but itself
        Supplier<LaughLine> keeps = () -> {
            LaughLine y = rich();
            y.keep();
            return y;
        };
        refused("keep() again", 1, LaughLine::keep, keeps);
    }
}
