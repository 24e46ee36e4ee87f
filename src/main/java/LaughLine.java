import java.util.NoSuchElementException;

/** A train that halts where its riders laugh: see README.md for how to use it. */
public final class LaughLine {
    public static final int NONE = -1;

    private static final int NEVER = -2;
    private static final int TAPE_MOST = 700;
    private static final int RIDERS = 6;
    private static final int JOKES = 6;
    private static final int MILE_MOST = 60;
    private static final int SEAT_MOST = 9;
    private static final int GO_MOST = 99;
    private static final int DAY_MOST = 900;
    private static final int SEATED = 4;
    private static final int BOTH_PARTS = 5;
    private static final int CLOWN_PARTS = 4;
    private static final int CLOWN_CHOICES = 5;

    private final int[] tape = new int[TAPE_MOST];
    private int tapeLength = 0;
    private int faultKind = 0;
    private int faultPlace = NONE;
    private final Reader reader = new Reader();
    private Plan plan = new Plan();
    private Plan spare = new Plan();
    private final Ride now = new Ride(plan);
    private final Ride image = new Ride(plan);
    private final Ride dawn = new Ride(plan);
    private final Ride trial = new Ride(plan);
    private boolean kept = false;
    private final Twist twist = new Twist();
    private final Undoes undoes = new Undoes();
    private final Notes notes = new Notes();
    private final int[] firstHas = new int[CLOWN_CHOICES * CLOWN_CHOICES];
    private final int[] otherHas = new int[CLOWN_CHOICES * CLOWN_CHOICES];

    public LaughLine() {
        now.begin(plan);
    }

    // ---- the text

    public int feed(int a, int b, int c, int d, int e) {
        if (tapeLength > TAPE_MOST - 20) {
            return NONE;
        }
        putBytes(a);
        putBytes(b);
        putBytes(c);
        putBytes(d);
        putBytes(e);
        return tapeLength;
    }

    private void putBytes(int four) {
        for (int shift = 24; shift >= 0; shift -= 8) {
            if (tapeLength < TAPE_MOST) {
                tape[tapeLength] = (four >>> shift) & 255;
                tapeLength++;
            }
        }
    }

    public int text(int n) {
        if (n < 0 || n > tapeLength) {
            return NEVER;
        }
        boolean good = reader.read(tape, n, spare);
        tapeLength = 0;
        faultKind = reader.fault;
        faultPlace = reader.place;
        if (!good) {
            return NONE;
        }
        Plan old = plan;
        plan = spare;
        spare = old;
        now.begin(plan);
        kept = false;
        undoes.clear();
        notes.clear();
        return plan.lines;
    }

    public int fault(int what) {
        if (what == 0) {
            return faultKind;
        }
        return what == 1 ? faultPlace : NONE;
    }

    public int named(int what, int letters) {
        if (what == 0) {
            return plan.riders.find(letters);
        }
        return what == 1 ? plan.jokes.find(letters) : NONE;
    }

    // ---- what is so now

    private boolean isRider(int rider) {
        return rider >= 0 && rider < now.size;
    }

    private boolean isJoke(int joke) {
        return joke >= 0 && joke < plan.jokes.rows;
    }

    private static boolean isMile(int mile) {
        return mile >= 0 && mile <= MILE_MOST;
    }

    public int rider(int rider, int what) throws IndexOutOfBoundsException, NoSuchElementException {
        if (!isRider(rider)) {
            throw new IndexOutOfBoundsException("no such rider");
        }
        Passenger it = now.passengers[rider];
        switch (what) {
            case 0: return plan.riders.at(rider, Plan.HOME);
            case 1: return it.dull;
            case 2: return it.seat;
            case 3: return plan.riders.at(rider, Plan.LIKES);
            case 4: return it.mood;
            case 5: return it.aboard ? 1 : 0;
            case 6: return it.outAt;
            case 7: return it.alighted;
            default: throw new NoSuchElementException("no such what");
        }
    }

    public int has(int rider, int what) {
        if (!isRider(rider)) {
            return NONE;
        }
        Passenger it = now.passengers[rider];
        switch (what) {
            case 0: return it.laughed;
            case 1: return it.deaf ? 1 : 0;
            case 2: return it.passed;
            default: return NONE;
        }
    }

    public int joke(int joke, int what) {
        if (!isJoke(joke)) {
            return NONE;
        }
        switch (what) {
            case 0: return plan.jokes.at(joke, Plan.FUN);
            case 1: return plan.jokes.at(joke, Plan.KIND);
            case 2: return Long.bitCount(now.tellings[joke]);
            default: return NONE;
        }
    }

    public int heard(int rider, int joke) {
        return isRider(rider) && isJoke(joke) ? now.passengers[rider].times[joke] : NONE;
    }

    public int told(int joke, int mile) {
        if (!isJoke(joke) || !isMile(mile)) {
            return NONE;
        }
        return now.isTold(joke, mile) ? 1 : 0;
    }

    public int seen(int mile) {
        return isMile(mile) ? plan.funInSight(mile) : NONE;
    }

    public long law(int what, int rider, int joke) {
        if (what < Laws.MIRTH || what > Laws.CALM || !isRider(rider)) {
            return Long.MIN_VALUE;
        }
        if (what == Laws.MIRTH && !isJoke(joke)) {
            return Long.MIN_VALUE;
        }
        if (what == Laws.MIRTH) {
            now.nameMirth(rider, joke, plan.jokes.at(joke, Plan.FUN), twist.plain());
        } else {
            now.nameMood(rider);
        }
        long value = plan.laws.work(what);
        return plan.laws.error ? Long.MIN_VALUE : value;
    }

    public int count(int what) {
        switch (what) {
            case 0: return now.size;
            case 1: return plan.jokes.rows;
            case 2: return now.tellingCount();
            case 3: return plan.sights.rows;
            case 4: return plan.tunnels.rows;
            case 5: return plan.laws.size;
            case 6: return now.day;
            case 7: return now.mile;
            case 8: return now.minutes;
            case 9: return now.halts;
            case 10: return now.laughs;
            case 11: return now.alights;
            case 12: return now.passes;
            case 13: return now.aboardCount();
            case 14: return notes.size;
            case 15: return notes.knownCount();
            case 16: return undoes.size;
            default: return NONE;
        }
    }

    // ---- what is done by call

    public boolean ears(int rider, boolean is) {
        if (!isRider(rider) || now.passengers[rider].deaf == is) {
            return false;
        }
        now.passengers[rider].deaf = is;
        undoes.push(Undoes.EARS, rider, is ? 0 : 1);
        return true;
    }

    public boolean seat(int rider, int seat) {
        if (!isRider(rider) || seat < 0 || seat > SEAT_MOST) {
            return false;
        }
        Passenger it = now.passengers[rider];
        if (it.seat == seat) {
            return false;
        }
        undoes.push(Undoes.SEAT, rider, it.seat);
        it.seat = seat;
        return true;
    }

    public boolean tell(int joke, int mile, boolean is) {
        if (!isJoke(joke) || !isMile(mile) || now.isTold(joke, mile) == is) {
            return false;
        }
        now.setTold(joke, mile, is);
        undoes.push(Undoes.TELLING, joke, mile);
        return true;
    }

    public int undo() {
        int kind = undoes.pop();
        int who = undoes.who;
        int what = undoes.what;
        if (kind == Undoes.NOTHING) {
            return NONE;
        }
        if (kind == Undoes.TELLING && isJoke(who)) {
            now.setTold(who, what, !now.isTold(who, what));
        } else if (kind == Undoes.EARS && isRider(who)) {
            now.passengers[who].deaf = what == 1;
        } else if (kind == Undoes.SEAT && isRider(who)) {
            now.passengers[who].seat = what;
        }
        return undoes.size;
    }

    public int keep() {
        image.copy(now);
        kept = true;
        return now.day;
    }

    public int back() {
        if (!kept) {
            return NONE;
        }
        now.copy(image);
        undoes.clear();
        return now.day;
    }

    public int go(int n) {
        if (n < 0 || n > GO_MOST || now.day > DAY_MOST) {
            return NONE;
        }
        if (n > 0) {
            undoes.clear();
        }
        now.advance(n, twist.plain());
        return now.mile;
    }

    // ---- miles ahead

    private void tryMiles(int n, Twist how) {
        trial.copy(now);
        trial.advance(n, how);
    }

    public int ahead(int n, int what) {
        if (n < 0 || n > GO_MOST || what < 0 || what > 4) {
            return NONE;
        }
        tryMiles(n, twist.plain());
        switch (what) {
            case 0: return trial.halts - now.halts;
            case 1: return trial.laughs - now.laughs;
            case 2: return trial.alights - now.alights;
            case 3: return trial.passes - now.passes;
            default: return trial.minutes - now.minutes;
        }
    }

    public int getsOut(int rider) {
        if (!isRider(rider)) {
            return NONE;
        }
        trial.copy(now);
        trial.rideOut(twist.plain());
        boolean alights = trial.passengers[rider].alighted > now.passengers[rider].alighted;
        return alights ? trial.passengers[rider].outAt : NEVER;
    }

    public int nextHalt() {
        trial.copy(now);
        twist.plain();
        for (int miles = 1; miles <= GO_MOST; miles++) {
            trial.oneMile(twist);
            if (trial.halts > now.halts) {
                return miles;
            }
        }
        return NEVER;
    }

    public int tried(int what, int i, int n) {
        boolean such = what == 2 ? isRider(i) : i == 0;
        if (what < 0 || what > 5 || !such || n < 0 || n > GO_MOST) {
            return NONE;
        }
        trial.copy(now);
        twist.plain();
        if (what == 2) {
            twist.absent = i;
            trial.passengers[i].aboard = false;
        } else if (what == 4) {
            trial.openEars();
        }
        twist.noTunnels = what == 1;
        twist.noCatching = what == 3;
        twist.unheard = what == 5;
        trial.advance(n, twist);
        return trial.alights - now.alights;
    }

    public int chance(int seed, int n, int rider, int often) {
        if (seed < 0 || n < 1 || n > GO_MOST || !isRider(rider) || often < 0 || often > 9) {
            return NONE;
        }
        twist.drawFrom(seed);
        int times = 0;
        for (int i = 0; i < 10; i++) {
            tryMiles(n, twist);
            if (trial.passengers[rider].alighted - now.passengers[rider].alighted >= often) {
                times++;
            }
        }
        return times;
    }

    // ---- the next day

    /** Puts dawn at the begin of the next day; what the rest of this day brings is in it. */
    private void findDawn() {
        dawn.copy(now);
        dawn.finishDay(twist.plain());
    }

    public int when(int joke, int what) {
        if (!isJoke(joke) || what < 0 || what > 1) {
            return NONE;
        }
        findDawn();
        int start = dawn.alights;
        int best = 0;
        int most = NONE;
        for (int mile = 0; mile <= plan.last; mile++) {
            trial.copy(dawn);
            trial.setTold(joke, mile, true);
            trial.rideOut(twist.plain());
            if (trial.alights - start > most) {
                most = trial.alights - start;
                best = mile;
            }
            // the miles ahead of a telling are the same for all that come later
            dawn.oneMile(twist.plain());
        }
        return what == 0 ? best : most;
    }

    public int both(int one, int other, int what) {
        if (!isJoke(one) || !isJoke(other) || one == other || what < 0 || what > 2) {
            return NONE;
        }
        findDawn();
        int best = 0;
        int second = 0;
        int most = NONE;
        for (int i = 0; i <= BOTH_PARTS; i++) {
            for (int k = 0; k <= BOTH_PARTS; k++) {
                trial.copy(dawn);
                trial.setTold(one, i * plan.last / BOTH_PARTS, true);
                trial.setTold(other, k * plan.last / BOTH_PARTS, true);
                trial.rideOut(twist.plain());
                int alight = trial.alights - dawn.alights;
                if (alight > most) {
                    most = alight;
                    best = i * plan.last / BOTH_PARTS;
                    second = k * plan.last / BOTH_PARTS;
                }
            }
        }
        if (what == 2) {
            return most;
        }
        return what == 0 ? best : second;
    }

    public int seating(int what) {
        if (what < 0 || what > SEATED) {
            return NONE;
        }
        int size = Math.min(SEATED, now.size);
        if (what < SEATED && what >= size) {
            return NEVER;
        }
        findDawn();
        int best = 0;
        int fewest = Integer.MAX_VALUE;
        for (int order = 0; order < 256; order++) {
            if (isOrder(order, size)) {
                int laughs = laughsSeated(order, size);
                if (laughs < fewest) {
                    fewest = laughs;
                    best = order;
                }
            }
        }
        return what == SEATED ? fewest : now.passengers[whoseSeat(best, what)].seat;
    }

    /** An order has two bits for each rider, the first one's highest: whose seat it has then. */
    private static int whoseSeat(int order, int rider) {
        return (order >> (6 - 2 * rider)) & 3;
    }

    private static boolean isOrder(int order, int size) {
        int taken = 0;
        for (int i = 0; i < SEATED; i++) {
            int whose = whoseSeat(order, i);
            // those that aren't there keep their own number, so that each order comes once
            if (i >= size && whose != i) {
                return false;
            }
            taken |= 1 << whose;
        }
        return taken == 15;
    }

    private int laughsSeated(int order, int size) {
        trial.copy(dawn);
        for (int i = 0; i < size; i++) {
            trial.passengers[i].seat = now.passengers[whoseSeat(order, i)].seat;
        }
        trial.rideOut(twist.plain());
        return trial.laughs - dawn.laughs;
    }

    public int stopped(int rider) {
        if (!isRider(rider)) {
            return NONE;
        }
        findDawn();
        // who is deaf already adds nothing, so such a set is never of the fewest
        int barred = 1 << rider | dawn.deafBits();
        for (int many = 0; many < RIDERS; many++) {
            for (int set = 0; set < 1 << now.size; set++) {
                boolean fits = Integer.bitCount(set) == many && (set & barred) == 0;
                if (fits && alightsBeside(rider, set)) {
                    return set;
                }
            }
        }
        return NEVER;
    }

    private boolean alightsBeside(int rider, int set) {
        trial.copy(dawn);
        trial.stopEars(set);
        trial.rideOut(twist.plain());
        return trial.passengers[rider].alighted > dawn.passengers[rider].alighted;
    }

    public int likely(int rider, int what) {
        if (!isRider(rider) || what < 0 || what > 1) {
            return NONE;
        }
        findDawn();
        int above = 0;
        for (int mood = 0; mood < 10; mood++) {
            trial.copy(dawn);
            trial.passengers[rider].mood = mood;
            trial.rideOut(twist.plain());
            above += trial.passengers[rider].alighted - dawn.passengers[rider].alighted;
        }
        for (int common = 10; common > 1; common--) {
            if (above % common == 0 && 10 % common == 0) {
                return what == 0 ? above / common : 10 / common;
            }
        }
        return what == 0 ? above : 10;
    }

    public int solemn() {
        findDawn();
        trial.copy(dawn);
        trial.rideOut(twist.plain());
        int bits = 0;
        for (int r = 0; r < now.size; r++) {
            if (trial.passengers[r].laughed == dawn.passengers[r].laughed) {
                bits |= 1 << r;
            }
        }
        return bits;
    }

    public int late(int rider) {
        if (!isRider(rider)) {
            return NONE;
        }
        findDawn();
        trial.copy(dawn);
        twist.plain();
        for (int mile = 0; mile <= plan.last; mile++) {
            int minutes = trial.minutes - dawn.minutes;
            trial.oneMile(twist);
            if (trial.passengers[rider].alighted > dawn.passengers[rider].alighted) {
                return minutes;
            }
        }
        return NEVER;
    }

    // ---- the clowns

    private boolean areClowns(int one, int other) {
        return isJoke(one) && isJoke(other) && one != other;
    }

    public int rests(int one, int other) {
        if (!areClowns(one, other)) {
            return NONE;
        }
        findDawn();
        playClowns(one, other);
        int many = 0;
        for (int pair = 0; pair < firstHas.length; pair++) {
            if (isRest(pair)) {
                many++;
            }
        }
        return many;
    }

    public int rest(int one, int other, int k) {
        if (!areClowns(one, other) || k < 0) {
            return NONE;
        }
        findDawn();
        playClowns(one, other);
        int before = 0;
        for (int pair = 0; pair < firstHas.length; pair++) {
            if (isRest(pair)) {
                if (before == k) {
                    return 10 * (pair / CLOWN_CHOICES) + pair % CLOWN_CHOICES;
                }
                before++;
            }
        }
        return NEVER;
    }

    /** What each has by both choices, on the day behind dawn. */
    private void playClowns(int one, int other) {
        for (int pair = 0; pair < firstHas.length && pair < otherHas.length; pair++) {
            int first = pair / CLOWN_CHOICES * plan.last / CLOWN_PARTS;
            int second = pair % CLOWN_CHOICES * plan.last / CLOWN_PARTS;
            trial.copy(dawn);
            trial.setTold(one, first, true);
            trial.setTold(other, second, true);
            int nearer = Math.min(first, second);
            int farther = Math.max(first, second);
            trial.advance(nearer, twist.plain());
            int atNearer = laughsOfMile();
            if (first == second) {
                firstHas[pair] = atNearer / 2;
                otherHas[pair] = atNearer / 2;
                continue;
            }
            trial.advance(farther - nearer - 1, twist.plain());
            int atFarther = laughsOfMile();
            firstHas[pair] = first < second ? atNearer : atFarther;
            otherHas[pair] = first < second ? atFarther : atNearer;
        }
    }

    private int laughsOfMile() {
        int before = trial.laughs;
        trial.oneMile(twist.plain());
        return trial.laughs - before;
    }

    private boolean isRest(int pair) {
        int i = pair / CLOWN_CHOICES;
        int k = pair % CLOWN_CHOICES;
        for (int c = 0; c < CLOWN_CHOICES; c++) {
            boolean firstMore = firstHas[c * CLOWN_CHOICES + k] > firstHas[pair];
            boolean otherMore = otherHas[i * CLOWN_CHOICES + c] > otherHas[pair];
            if (firstMore || otherMore) {
                return false;
            }
        }
        return true;
    }

    // ---- the notes

    public int note(int rider, int mile, boolean is) {
        return isRider(rider) && isMile(mile) ? notes.add(rider, mile, is) : NONE;
    }

    public int out(int note) {
        return notes.addStrike(note);
    }

    public boolean known(int n) {
        if (n < NONE || n > notes.size) {
            return false;
        }
        notes.limit = n;
        return true;
    }

    public int dulls(int rider) {
        if (!isRider(rider)) {
            return NONE;
        }
        notes.findStruck();
        int bits = 0;
        for (int i = 0; i < 10; i++) {
            trial.begin(plan);
            trial.passengers[rider].dull = 10 * i;
            trial.rideOut(twist.plain());
            if (notes.agree(trial)) {
                bits |= 1 << i;
            }
        }
        return bits;
    }

    // ---- the classes inside

    /** Rows of numbers, as many as the text may tell of a kind. */
    private static final class Table {
        final int columns;
        final int most;
        final int[] cells;
        int rows = 0;

        Table(int most, int columns) {
            this.most = Math.max(0, most);
            this.columns = Math.max(1, columns);
            this.cells = new int[this.most * this.columns];
        }

        int at(int row, int column) {
            if (row < 0 || row >= most || column < 0 || column >= columns) {
                return 0;
            }
            return cells[row * columns + column];
        }

        /** Into the row that is being told, behind those that stand. */
        void put(int column, int value) {
            if (rows < most && column >= 0 && column < columns) {
                cells[rows * columns + column] = value;
            }
        }

        void endRow() {
            if (rows < most) {
                rows++;
            }
        }

        boolean isFull() {
            return rows >= most;
        }

        /** The row whose first number this is. */
        int find(int first) {
            for (int row = 0; row < rows; row++) {
                if (at(row, 0) == first) {
                    return row;
                }
            }
            return NONE;
        }
    }

    /** What a text tells. */
    private static final class Plan {
        static final int HOME = 1;
        static final int DULL = 2;
        static final int SEAT = 3;
        static final int LIKES = 4;
        static final int FUN = 1;
        static final int KIND = 2;

        final Table line = new Table(1, 1);
        final Table riders = new Table(RIDERS, 5);
        final Table jokes = new Table(JOKES, 3);
        final Table tellings = new Table(8, 2);
        final Table sights = new Table(5, 2);
        final Table tunnels = new Table(3, 2);
        final Table near = new Table(1, 1);
        final Table seed = new Table(1, 1);
        final Laws laws = new Laws();
        int lines = 0;
        int last = 30;
        int nearness = 1;

        void clear() {
            for (int word = Scanner.LINE; word < Scanner.LAW; word++) {
                table(word).rows = 0;
            }
            laws.clear();
            lines = 0;
        }

        Table table(int word) {
            switch (word) {
                case Scanner.LINE: return line;
                case Scanner.RIDER: return riders;
                case Scanner.JOKE: return jokes;
                case Scanner.TELL: return tellings;
                case Scanner.SIGHT: return sights;
                case Scanner.TUNNEL: return tunnels;
                case Scanner.NEAR: return near;
                default: return seed;
            }
        }

        void settle() {
            last = line.rows > 0 ? line.at(0, 0) : 30;
            nearness = near.rows > 0 ? near.at(0, 0) : 1;
        }

        boolean isDark(int mile) {
            for (int t = 0; t < tunnels.rows; t++) {
                if (tunnels.at(t, 0) <= mile && mile <= tunnels.at(t, 1)) {
                    return true;
                }
            }
            return false;
        }

        int funInSight(int mile) {
            int sum = 0;
            for (int s = 0; s < sights.rows; s++) {
                if (sights.at(s, 0) == mile) {
                    sum += sights.at(s, 1);
                }
            }
            return isDark(mile) ? 0 : sum;
        }
    }

    /** The tokens of a text, one at a time. */
    private static final class Scanner {
        static final int END = 0;
        static final int BAD = 1;
        static final int NUMBER = 2;
        static final int FREE = 3;
        static final int SEMICOLON = 4;
        static final int OPEN = 5;
        static final int CLOSE = 6;
        static final int PLUS = 10;
        static final int MINUS = 11;
        static final int TIMES = 12;
        static final int OVER = 13;
        static final int LESS = 14;
        static final int LESS_EQUAL = 15;
        static final int EQUAL = 16;
        static final int UNEQUAL = 17;
        static final int GREATER_EQUAL = 18;
        static final int GREATER = 19;

        /** The language's words; their kinds are numbered from LINE on in this order. */
        static final String WORDS =
            "line rider joke tell sight tunnel near seed law mirth laugh calm or and not fun likes heard mood dull halts mile ";
        static final int WORD_COUNT = 22;
        static final int LINE = 32;
        static final int RIDER = 33;
        static final int JOKE = 34;
        static final int TELL = 35;
        static final int SIGHT = 36;
        static final int TUNNEL = 37;
        static final int NEAR = 38;
        static final int SEED = 39;
        static final int LAW = 40;
        static final int MIRTH = 41;
        static final int CALM = 43;
        static final int OR = 44;
        static final int AND = 45;
        static final int NOT = 46;
        static final int FUN = 47;
        static final int MILE = 53;

        static final int LETTERS_MOST = 6;
        /** Above every number that may stand in a text. */
        static final int HUGE = 1000000;

        final int[] words = new int[WORD_COUNT];
        int[] bytes = new int[0];
        int length = 0;
        int next = 0;
        int kind = END;
        int value = 0;
        int place = 0;

        Scanner() {
            int word = 0;
            int letters = 0;
            int packed = 0;
            for (int i = 0; i < WORDS.length() && word < words.length; i++) {
                char sign = WORDS.charAt(i);
                if (sign == ' ') {
                    words[word] = packed << 5 * (LETTERS_MOST - letters);
                    word++;
                    letters = 0;
                    packed = 0;
                } else {
                    packed = packed << 5 | (sign - 'a' + 1);
                    letters++;
                }
            }
        }

        void start(int[] tape, int n) {
            bytes = tape;
            length = Math.max(0, Math.min(n, tape.length));
            next = 0;
            advance();
        }

        private int peek() {
            return next >= 0 && next < length && next < bytes.length ? bytes[next] : NONE;
        }

        private static boolean isLetter(int sign) {
            return sign >= 'a' && sign <= 'z';
        }

        private static boolean isDigit(int sign) {
            return sign >= '0' && sign <= '9';
        }

        void advance() {
            while (next < length && (peek() == 10 || peek() == 32)) {
                next++;
            }
            place = next;
            value = 0;
            int sign = peek();
            if (sign == NONE) {
                kind = END;
            } else if (isLetter(sign)) {
                scanWord();
            } else if (isDigit(sign)) {
                scanNumber();
            } else {
                next++;
                kind = signKind(sign);
            }
        }

        private void scanWord() {
            int letters = 0;
            int packed = 0;
            while (next < length && isLetter(peek())) {
                if (letters < LETTERS_MOST) {
                    packed = packed << 5 | (peek() - 'a' + 1);
                }
                letters++;
                next++;
            }
            if (letters > LETTERS_MOST) {
                kind = BAD;
                return;
            }
            value = packed << 5 * (LETTERS_MOST - letters);
            kind = FREE;
            for (int w = 0; w < words.length; w++) {
                if (words[w] == value) {
                    kind = LINE + w;
                }
            }
        }

        private void scanNumber() {
            kind = NUMBER;
            while (next < length && isDigit(peek())) {
                if (value < HUGE) {
                    value = value * 10 + (peek() - '0');
                }
                next++;
            }
        }

        private int signKind(int sign) {
            switch (sign) {
                case ';': return SEMICOLON;
                case '(': return OPEN;
                case ')': return CLOSE;
                case '+': return PLUS;
                case '-': return MINUS;
                case '*': return TIMES;
                case '/': return OVER;
                case '=': return EQUAL;
                case '<':
                    if (takes('=')) {
                        return LESS_EQUAL;
                    }
                    return takes('>') ? UNEQUAL : LESS;
                case '>': return takes('=') ? GREATER_EQUAL : GREATER;
                default: return BAD;
            }
        }

        private boolean takes(int sign) {
            boolean there = next >= 0 && next < length && next < bytes.length && bytes[next] == sign;
            if (there) {
                next++;
            }
            return there;
        }
    }

    /** Reads a text into a plan, up to its first fault. */
    private static final class Reader {
        static final int CANT_STAND = 1;
        static final int TOO_MUCH = 2;
        static final int TOLD_ALREADY = 3;
        static final int UNKNOWN_JOKE = 4;

        /** How strongly a comparison binds. */
        static final int COMPARES = 4;
        static final int OPEN_MOST = 8;
        static final int NUMBER_MOST = 9999;
        static final int WIDEST = 5;
        /** The most of each column, a row for each kind of line; 0 where a name stands or nothing. */
        static final int[] MOST = {
            60, 0, 0, 0, 0,
            0, 60, 99, 9, 3,
            0, 99, 3, 0, 0,
            0, 60, 0, 0, 0,
            60, 99, 0, 0, 0,
            60, 60, 0, 0, 0,
            9, 0, 0, 0, 0,
            99999, 0, 0, 0, 0,
        };

        final Scanner scanner = new Scanner();
        /** Signs that wait for their right side, and open brackets. */
        final int[] waiting = new int[Laws.KNOTS_MOST + OPEN_MOST];
        int waits = 0;
        int open = 0;
        int knots = 0;
        int fault = 0;
        int place = NONE;

        boolean read(int[] tape, int n, Plan plan) {
            fault = 0;
            place = NONE;
            knots = 0;
            plan.clear();
            scanner.start(tape, n);
            for (int i = 0; i <= n && scanner.kind != Scanner.END; i++) {
                if (!readLine(plan)) {
                    return false;
                }
                plan.lines++;
            }
            plan.settle();
            return true;
        }

        private boolean refuse(int kind) {
            fault = kind;
            place = scanner.place;
            return false;
        }

        private boolean readLine(Plan plan) {
            int word = scanner.kind;
            if (word < Scanner.LINE || word > Scanner.LAW) {
                return refuse(CANT_STAND);
            }
            if (word == Scanner.LAW) {
                return readLaw(plan.laws);
            }
            Table table = plan.table(word);
            if (table.isFull()) {
                return refuse(table.most == 1 ? TOLD_ALREADY : TOO_MUCH);
            }
            scanner.advance();
            boolean hasName = word >= Scanner.RIDER && word <= Scanner.TELL;
            if (hasName && !readName(plan, word)) {
                return false;
            }
            for (int column = hasName ? 1 : 0; column < table.columns; column++) {
                if (!readNumber(table, word, column)) {
                    return false;
                }
            }
            table.endRow();
            return readEnd();
        }

        private boolean readEnd() {
            if (scanner.kind != Scanner.SEMICOLON) {
                return refuse(CANT_STAND);
            }
            scanner.advance();
            return true;
        }

        private boolean readName(Plan plan, int word) {
            if (scanner.kind != Scanner.FREE) {
                return refuse(CANT_STAND);
            }
            Table table = plan.table(word);
            int name = scanner.value;
            if (word == Scanner.TELL) {
                int joke = plan.jokes.find(name);
                if (joke == NONE) {
                    return refuse(UNKNOWN_JOKE);
                }
                table.put(0, joke);
            } else {
                if (table.find(name) != NONE) {
                    return refuse(TOLD_ALREADY);
                }
                table.put(0, name);
            }
            scanner.advance();
            return true;
        }

        private boolean readNumber(Table table, int word, int column) {
            if (scanner.kind != Scanner.NUMBER) {
                return refuse(CANT_STAND);
            }
            int number = scanner.value;
            if (number < least(table, word, column) || number > mostOf(word, column)) {
                return refuse(TOO_MUCH);
            }
            table.put(column, number);
            if (word == Scanner.TELL && isToldAlready(table)) {
                return refuse(TOLD_ALREADY);
            }
            scanner.advance();
            return true;
        }

        private static int least(Table table, int word, int column) {
            if (word == Scanner.LINE) {
                return 1;
            }
            boolean farEnd = word == Scanner.TUNNEL && column == 1;
            return farEnd ? table.at(table.rows, 0) : 0;
        }

        private static int mostOf(int word, int column) {
            int index = (word - Scanner.LINE) * WIDEST + column;
            return index >= 0 && index < MOST.length ? MOST[index] : 0;
        }

        private static boolean isToldAlready(Table tellings) {
            int joke = tellings.at(tellings.rows, 0);
            int mile = tellings.at(tellings.rows, 1);
            for (int t = 0; t < tellings.rows; t++) {
                if (tellings.at(t, 0) == joke && tellings.at(t, 1) == mile) {
                    return true;
                }
            }
            return false;
        }

        private boolean readLaw(Laws laws) {
            scanner.advance();
            int rule = scanner.kind - Scanner.MIRTH;
            if (rule < Laws.MIRTH || rule > Laws.CALM) {
                return refuse(CANT_STAND);
            }
            if (laws.stands(rule)) {
                return refuse(TOLD_ALREADY);
            }
            scanner.advance();
            laws.begin(rule);
            if (!readExpression(laws)) {
                return false;
            }
            laws.end(rule);
            return readEnd();
        }

        /** Up to the ';' behind it, into the laws' knots, the sides of a sign ahead of it. */
        private boolean readExpression(Laws laws) {
            waits = 0;
            open = 0;
            boolean wanted = true;
            for (int i = 0; i <= scanner.length; i++) {
                int token = scanner.kind;
                if (wanted) {
                    if (!readBegin(laws)) {
                        return false;
                    }
                    wanted = token != Scanner.NUMBER && !isQuantity(token);
                } else if (token == Scanner.SEMICOLON && open == 0) {
                    release(laws, 1);
                    return true;
                } else {
                    if (!readBehind(laws)) {
                        return false;
                    }
                    wanted = token != Scanner.CLOSE;
                }
                scanner.advance();
            }
            return refuse(CANT_STAND);
        }

        private static boolean isQuantity(int token) {
            return token >= Scanner.FUN && token <= Scanner.MILE;
        }

        /** A token where a value must begin. */
        private boolean readBegin(Laws laws) {
            int token = scanner.kind;
            if (token == Scanner.OPEN) {
                if (open >= OPEN_MOST) {
                    return refuse(TOO_MUCH);
                }
                open++;
                hold(token);
                return true;
            }
            if (token == Scanner.NOT) {
                // what stands on top is the token ahead of this one
                if (strength(top()) > strength(Scanner.NOT)) {
                    return refuse(CANT_STAND);
                }
                hold(token);
                return countKnot();
            }
            if (token != Scanner.NUMBER && !isQuantity(token)) {
                return refuse(CANT_STAND);
            }
            if (token == Scanner.NUMBER && scanner.value > NUMBER_MOST) {
                return refuse(TOO_MUCH);
            }
            laws.put(token, scanner.value);
            return countKnot();
        }

        /** A token right behind a value. */
        private boolean readBehind(Laws laws) {
            int token = scanner.kind;
            if (token == Scanner.CLOSE) {
                if (open == 0) {
                    return refuse(CANT_STAND);
                }
                release(laws, 1);
                waits--;
                open--;
                return true;
            }
            int strength = strength(token);
            if (strength == 0 || token == Scanner.NOT) {
                return refuse(CANT_STAND);
            }
            // a comparison doesn't end another one: two of them can't stand in a row
            release(laws, strength == COMPARES ? strength + 1 : strength);
            if (strength == COMPARES && strength(top()) == COMPARES) {
                return refuse(CANT_STAND);
            }
            hold(token);
            return countKnot();
        }

        private boolean countKnot() {
            if (knots >= Laws.KNOTS_MOST) {
                return refuse(TOO_MUCH);
            }
            knots++;
            return true;
        }

        private int top() {
            return waits > 0 && waits <= waiting.length ? waiting[waits - 1] : Scanner.END;
        }

        private void hold(int token) {
            if (waits < waiting.length) {
                waiting[waits] = token;
                waits++;
            }
        }

        /** The signs on top that bind at least so strongly have both sides now. */
        private void release(Laws laws, int strength) {
            for (int i = 0; i < waiting.length && strength(top()) >= strength; i++) {
                laws.put(top(), 0);
                waits--;
            }
        }

        /** How strongly a sign binds; 0 for what is none. */
        private static int strength(int token) {
            if (token == Scanner.OR) {
                return 1;
            }
            if (token == Scanner.AND) {
                return 2;
            }
            if (token == Scanner.NOT) {
                return 3;
            }
            if (token >= Scanner.LESS && token <= Scanner.GREATER) {
                return COMPARES;
            }
            if (token == Scanner.PLUS || token == Scanner.MINUS) {
                return 5;
            }
            return token == Scanner.TIMES || token == Scanner.OVER ? 6 : 0;
        }
    }

    /** The laws of a text, their knots in the order in which they are worked out. */
    private static final class Laws {
        static final int MIRTH = 0;
        static final int LAUGH = 1;
        static final int CALM = 2;
        static final int KNOTS_MOST = 64;
        static final long VALUE_MOST = 1000000000000L;

        final int[] kinds = new int[KNOTS_MOST];
        final int[] numbers = new int[KNOTS_MOST];
        final int[] begins = {NONE, NONE, NONE};
        final int[] ends = {NONE, NONE, NONE};
        int size = 0;
        final long[] names = new long[7];
        final long[] stack = new long[KNOTS_MOST];
        boolean error = false;

        void clear() {
            size = 0;
            for (int rule = MIRTH; rule <= CALM; rule++) {
                begins[rule] = NONE;
                ends[rule] = NONE;
            }
        }

        boolean stands(int rule) {
            return rule >= MIRTH && rule <= CALM && ends[rule] >= 0;
        }

        void begin(int rule) {
            if (rule >= MIRTH && rule <= CALM) {
                begins[rule] = size;
            }
        }

        void end(int rule) {
            if (rule >= MIRTH && rule <= CALM) {
                ends[rule] = size;
            }
        }

        void put(int kind, int number) {
            if (size < KNOTS_MOST) {
                kinds[size] = kind;
                numbers[size] = number;
                size++;
            }
        }

        void setNames(int fun, int likes, int heard, int mood, int dull, int halts, int mile) {
            names[0] = fun;
            names[1] = likes;
            names[2] = heard;
            names[3] = mood;
            names[4] = dull;
            names[5] = halts;
            names[6] = mile;
        }

        /** The law's value for the names that are set; error tells whether it has none. */
        long work(int rule) {
            error = !stands(rule);
            if (error) {
                return 0;
            }
            int height = 0;
            for (int k = begins[rule]; k >= 0 && k < ends[rule] && k < size && !error; k++) {
                int kind = kinds[k];
                int name = kind - Scanner.FUN;
                if (kind == Scanner.NUMBER || name >= 0 && name < names.length) {
                    if (height < stack.length) {
                        stack[height] = kind == Scanner.NUMBER ? numbers[k] : names[name];
                        height++;
                    }
                } else if (kind == Scanner.NOT && height >= 1) {
                    stack[height - 1] = stack[height - 1] == 0 ? 1 : 0;
                } else if (height >= 2) {
                    height--;
                    stack[height - 1] = join(kind, stack[height - 1], stack[height]);
                }
            }
            return stack[0];
        }

        private long join(int kind, long a, long b) {
            long value;
            switch (kind) {
                case Scanner.PLUS: value = a + b; break;
                case Scanner.MINUS: value = a - b; break;
                case Scanner.TIMES:
                    long extent = a < 0 ? -a : a;
                    // asked ahead of the product, which a long might not hold
                    error = extent != 0 && (b > VALUE_MOST / extent || -b > VALUE_MOST / extent);
                    value = error ? 0 : a * b;
                    break;
                case Scanner.OVER:
                    error = b == 0;
                    value = b == 0 ? 0 : a / b;
                    break;
                case Scanner.LESS: value = a < b ? 1 : 0; break;
                case Scanner.LESS_EQUAL: value = a <= b ? 1 : 0; break;
                case Scanner.EQUAL: value = a == b ? 1 : 0; break;
                case Scanner.UNEQUAL: value = a != b ? 1 : 0; break;
                case Scanner.GREATER_EQUAL: value = a >= b ? 1 : 0; break;
                case Scanner.GREATER: value = a > b ? 1 : 0; break;
                case Scanner.AND: value = a != 0 && b != 0 ? 1 : 0; break;
                default: value = a != 0 || b != 0 ? 1 : 0; break;
            }
            if (value > VALUE_MOST || value < -VALUE_MOST) {
                error = true;
            }
            return value;
        }
    }

    /** A rider on a ride. */
    private static final class Passenger {
        int mood = 0;
        int dull = 0;
        int seat = 0;
        boolean aboard = true;
        boolean deaf = false;
        int outAt = NONE;
        int alighted = 0;
        int laughed = 0;
        int passed = 0;
        /** How often each joke was heard. */
        final int[] times = new int[JOKES];

        void begin(int itsDull, int itsSeat) {
            dull = itsDull;
            seat = itsSeat;
            deaf = false;
            outAt = NONE;
            alighted = 0;
            laughed = 0;
            passed = 0;
            for (int j = 0; j < JOKES; j++) {
                times[j] = 0;
            }
            board();
        }

        void board() {
            aboard = true;
            mood = 0;
        }

        void copy(Passenger other) {
            mood = other.mood;
            dull = other.dull;
            seat = other.seat;
            aboard = other.aboard;
            deaf = other.deaf;
            outAt = other.outAt;
            alighted = other.alighted;
            laughed = other.laughed;
            passed = other.passed;
            for (int j = 0; j < JOKES; j++) {
                times[j] = other.times[j];
            }
        }
    }

    /** How miles go otherwise than they would. */
    private static final class Twist {
        boolean noTunnels = false;
        boolean noCatching = false;
        boolean unheard = false;
        int absent = NONE;
        boolean byChance = false;
        long drawn = 0;

        Twist plain() {
            noTunnels = false;
            noCatching = false;
            unheard = false;
            absent = NONE;
            byChance = false;
            return this;
        }

        void drawFrom(int seed) {
            plain();
            byChance = true;
            drawn = seed;
        }

        int moreFun() {
            if (!byChance) {
                return 0;
            }
            drawn = (drawn * 1103515245L + 12345L) & 0x7fffffffL;
            return (int) (drawn / 65536 % 10);
        }
    }

    /** The train with all that changes on its way. */
    private static final class Ride {
        static final int MOOD_MOST = 999;
        static final int LAW_MOST = 99;
        static final int CATCH = 10;

        final Passenger[] passengers = new Passenger[RIDERS];
        /** For each joke a bit for each mile at which it is told. */
        final long[] tellings = new long[JOKES];
        Plan plan;
        int size = 0;
        int day = 0;
        int mile = 0;
        int minutes = 0;
        int halts = 0;
        int dayHalts = 0;
        int laughs = 0;
        int alights = 0;
        int passes = 0;

        Ride(Plan plan) {
            this.plan = plan;
            for (int r = 0; r < RIDERS; r++) {
                passengers[r] = new Passenger();
            }
        }

        /** Mile 0 of day 0, as the text tells. */
        void begin(Plan itsPlan) {
            plan = itsPlan;
            size = Math.min(RIDERS, plan.riders.rows);
            day = 0;
            mile = 0;
            minutes = 0;
            halts = 0;
            dayHalts = 0;
            laughs = 0;
            alights = 0;
            passes = 0;
            for (int r = 0; r < RIDERS; r++) {
                passengers[r].begin(plan.riders.at(r, Plan.DULL), plan.riders.at(r, Plan.SEAT));
            }
            for (int j = 0; j < JOKES; j++) {
                tellings[j] = 0;
            }
            for (int t = 0; t < plan.tellings.rows; t++) {
                setTold(plan.tellings.at(t, 0), plan.tellings.at(t, 1), true);
            }
        }

        void copy(Ride other) {
            plan = other.plan;
            size = other.size;
            day = other.day;
            mile = other.mile;
            minutes = other.minutes;
            halts = other.halts;
            dayHalts = other.dayHalts;
            laughs = other.laughs;
            alights = other.alights;
            passes = other.passes;
            for (int r = 0; r < size && r < RIDERS; r++) {
                passengers[r].copy(other.passengers[r]);
            }
            for (int j = 0; j < JOKES; j++) {
                tellings[j] = other.tellings[j];
            }
        }

        boolean isTold(int joke, int atMile) {
            return joke >= 0 && joke < JOKES && (tellings[joke] >>> atMile & 1) == 1;
        }

        void setTold(int joke, int atMile, boolean is) {
            if (joke < 0 || joke >= JOKES) {
                return;
            }
            if (is) {
                tellings[joke] |= 1L << atMile;
            } else {
                tellings[joke] &= ~(1L << atMile);
            }
        }

        int tellingCount() {
            int sum = 0;
            for (int j = 0; j < JOKES; j++) {
                sum += Long.bitCount(tellings[j]);
            }
            return sum;
        }

        int aboardCount() {
            int sum = 0;
            for (int r = 0; r < size; r++) {
                sum += passengers[r].aboard ? 1 : 0;
            }
            return sum;
        }

        int deafBits() {
            int bits = 0;
            for (int r = 0; r < size; r++) {
                bits |= passengers[r].deaf ? 1 << r : 0;
            }
            return bits;
        }

        void stopEars(int set) {
            for (int r = 0; r < size; r++) {
                if ((set >> r & 1) == 1) {
                    passengers[r].deaf = true;
                }
            }
        }

        void openEars() {
            for (int r = 0; r < size; r++) {
                passengers[r].deaf = false;
            }
        }

        void advance(int n, Twist twist) {
            for (int i = 0; i < n; i++) {
                oneMile(twist);
            }
        }

        void finishDay(Twist twist) {
            int today = day;
            for (int i = 0; i <= MILE_MOST && day == today; i++) {
                oneMile(twist);
            }
        }

        /** Up to the day's end, or until nobody is aboard, as nothing comes of it then. */
        void rideOut(Twist twist) {
            int today = day;
            for (int i = 0; i <= MILE_MOST && day == today && aboardCount() > 0; i++) {
                oneMile(twist);
            }
        }

        void oneMile(Twist twist) {
            boolean lit = twist.noTunnels || !plan.isDark(mile);
            for (int s = 0; s < plan.sights.rows && lit; s++) {
                if (plan.sights.at(s, 0) == mile) {
                    cheer(NONE, plan.sights.at(s, 1) + twist.moreFun(), twist);
                }
            }
            for (int j = 0; j < plan.jokes.rows; j++) {
                if (isTold(j, mile)) {
                    cheer(j, plan.jokes.at(j, Plan.FUN) + twist.moreFun(), twist);
                }
            }
            boolean halt = laughter(twist);
            if (halt) {
                halts++;
                dayHalts++;
                letOut();
            }
            calmDown();
            minutes += halt ? 3 : 1;
            if (mile < plan.last) {
                mile++;
            } else {
                newDay(twist);
            }
        }

        /** A sight is no joke: NONE. */
        private void cheer(int joke, int fun, Twist twist) {
            for (int r = 0; r < size; r++) {
                Passenger it = passengers[r];
                boolean takesIn = it.aboard && (joke == NONE || !it.deaf);
                if (takesIn) {
                    it.mood = Math.min(MOOD_MOST, it.mood + mirth(r, joke, fun, twist));
                }
                if (takesIn && joke >= 0 && joke < JOKES) {
                    it.times[joke]++;
                }
            }
        }

        private int mirth(int r, int joke, int fun, Twist twist) {
            nameMirth(r, joke, fun, twist);
            Laws laws = plan.laws;
            long value = laws.work(Laws.MIRTH);
            if (laws.error) {
                value = laws.names[0] + 10 * laws.names[1] - 5 * laws.names[2];
            }
            return cut(value);
        }

        private static int cut(long value) {
            if (value < 0) {
                return 0;
            }
            return value > LAW_MOST ? LAW_MOST : (int) value;
        }

        void nameMirth(int r, int joke, int fun, Twist twist) {
            if (r < 0 || r >= RIDERS) {
                return;
            }
            Passenger it = passengers[r];
            int likes = 0;
            int heard = 0;
            if (joke >= 0 && joke < JOKES) {
                likes = plan.riders.at(r, Plan.LIKES) == plan.jokes.at(joke, Plan.KIND) ? 1 : 0;
                heard = twist.unheard ? 0 : it.times[joke];
            }
            plan.laws.setNames(fun, likes, heard, it.mood, it.dull, dayHalts, mile);
        }

        void nameMood(int r) {
            if (r >= 0 && r < RIDERS) {
                plan.laws.setNames(0, 0, 0, passengers[r].mood, passengers[r].dull, dayHalts, mile);
            }
        }

        private boolean laughter(Twist twist) {
            boolean any = false;
            for (int r = 0; r < size; r++) {
                Passenger it = passengers[r];
                if (it.aboard && isAmused(r, it)) {
                    any = true;
                    it.laughed++;
                    laughs++;
                    it.mood = 0;
                    if (!twist.noCatching) {
                        spread(it.seat);
                    }
                }
            }
            return any;
        }

        private boolean isAmused(int r, Passenger it) {
            if (plan.laws.stands(Laws.LAUGH)) {
                nameMood(r);
                long value = plan.laws.work(Laws.LAUGH);
                if (!plan.laws.error) {
                    return value != 0;
                }
            }
            return it.mood >= it.dull && it.mood != 0;
        }

        private void spread(int seat) {
            for (int r = 0; r < size; r++) {
                Passenger it = passengers[r];
                if (it.aboard && Math.abs(it.seat - seat) == 1) {
                    it.mood += CATCH;
                }
            }
        }

        private void letOut() {
            for (int r = 0; r < size; r++) {
                Passenger it = passengers[r];
                int far = Math.abs(plan.riders.at(r, Plan.HOME) - mile);
                if (it.aboard && far <= plan.nearness) {
                    it.aboard = false;
                    it.outAt = mile;
                    it.alighted++;
                    alights++;
                }
            }
        }

        private void calmDown() {
            for (int r = 0; r < size; r++) {
                Passenger it = passengers[r];
                // a mood of 0 stays, whatever the law says
                if (it.aboard && it.mood > 0) {
                    it.mood = Math.max(0, it.mood - calmness(r));
                }
            }
        }

        private int calmness(int r) {
            if (plan.laws.stands(Laws.CALM)) {
                nameMood(r);
                long value = plan.laws.work(Laws.CALM);
                if (!plan.laws.error) {
                    return cut(value);
                }
            }
            return 2;
        }

        private void newDay(Twist twist) {
            for (int r = 0; r < size; r++) {
                Passenger it = passengers[r];
                if (it.aboard) {
                    it.passed++;
                    passes++;
                }
                if (r != twist.absent) {
                    it.board();
                }
            }
            day++;
            mile = 0;
            dayHalts = 0;
        }
    }

    /** What was done by call since the last mile, the latest last. */
    private static final class Undoes {
        static final int NOTHING = 0;
        static final int EARS = 1;
        static final int SEAT = 2;
        static final int TELLING = 3;
        static final int MOST = 20;

        final int[] kinds = new int[MOST];
        final int[] whos = new int[MOST];
        final int[] whats = new int[MOST];
        int size = 0;
        int who = 0;
        int what = 0;

        void clear() {
            size = 0;
        }

        void push(int kind, int itsWho, int itsWhat) {
            if (size >= MOST) {
                dropOldest();
            }
            if (size < MOST) {
                kinds[size] = kind;
                whos[size] = itsWho;
                whats[size] = itsWhat;
                size++;
            }
        }

        private void dropOldest() {
            for (int i = 1; i < MOST; i++) {
                kinds[i - 1] = kinds[i];
                whos[i - 1] = whos[i];
                whats[i - 1] = whats[i];
            }
            size = MOST - 1;
        }

        /** The latest one's kind; who and what tell the rest of it. */
        int pop() {
            if (size <= 0 || size > MOST) {
                return NOTHING;
            }
            size--;
            who = whos[size];
            what = whats[size];
            return kinds[size];
        }
    }

    /** Notes of day 0, and notes that strike others. */
    private static final class Notes {
        static final int MOST = 24;

        final int[] riders = new int[MOST];
        final int[] miles = new int[MOST];
        final boolean[] holds = new boolean[MOST];
        /** Which note it strikes; NONE for one that tells of a rider. */
        final int[] strikes = new int[MOST];
        final boolean[] struck = new boolean[MOST];
        int size = 0;
        /** By how many it is known; NONE: by all, those to come too. */
        int limit = NONE;

        void clear() {
            size = 0;
            limit = NONE;
        }

        int knownCount() {
            return limit == NONE ? size : limit;
        }

        int add(int rider, int mile, boolean is) {
            if (size >= MOST) {
                return NONE;
            }
            riders[size] = rider;
            miles[size] = mile;
            holds[size] = is;
            strikes[size] = NONE;
            size++;
            return size - 1;
        }

        int addStrike(int target) {
            if (target < 0 || target >= size || size >= MOST) {
                return NONE;
            }
            strikes[size] = target;
            size++;
            return size - 1;
        }

        /** From the last one on, as what strikes may be struck itself by one behind it. */
        void findStruck() {
            for (int i = 0; i < MOST; i++) {
                struck[i] = false;
            }
            for (int i = Math.min(MOST, knownCount()) - 1; i >= 0; i--) {
                int target = strikes[i];
                if (!struck[i] && target >= 0 && target < MOST) {
                    struck[target] = true;
                }
            }
        }

        /** Whether all that are known are so on a ride of day 0. */
        boolean agree(Ride ride) {
            for (int i = 0; i < MOST && i < knownCount(); i++) {
                int rider = riders[i];
                boolean tells = !struck[i] && strikes[i] == NONE;
                if (tells && rider >= 0 && rider < RIDERS) {
                    boolean got = ride.passengers[rider].outAt == miles[i];
                    if (got != holds[i]) {
                        return false;
                    }
                }
            }
            return true;
        }
    }
}
