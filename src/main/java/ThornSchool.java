/** Brambles that are a school: what each call does is told by the numbered promises of DOC.md. */
public final class ThornSchool {
    public static final int NONE = -1;

    private static final int WRONG = 1;
    private static final int MISSING = 2;
    private static final int SHORT = 3;
    private static final int FULL = 4;
    private static final int UNFIT = 5;
    private static final int NO_SUCH = 6;
    private static final int BARRED = 7;
    private static final int UNLIKE = 8;
    private static final int FAULTY = 9;

    private static final int MOST_CELLS = 25;
    private static final int MOST_LESSONS = 7;
    private static final int MOST_PUPILS = 5;
    private static final int MOST_GROWN = 9;
    private static final int MOST_WANT = 9;
    private static final int MOST_CATCH = 18;
    private static final int MOST_COUNTED = 9999;
    private static final int MOST_ODDS = 16;
    private static final int MOST_MARKS = 3;
    private static final int MOST_FED = 900;
    private static final int MOST_AUTUMNS_TEXT = 300;
    private static final int MOST_ROW_READ = 20;
    private static final int MOST_TURNS = 4;
    private static final int MOST_STEPS_TOLD = 15;
    private static final int MOST_SLIPS = 12;

    private final Tray[] trays = new Tray[4];
    private final Text text = new Text();
    private final School school = new School();
    private final School asItWas = new School();
    private final Autumns autumns = new Autumns();
    private final SchoolReader schoolReader = new SchoolReader(text);
    private final AutumnsReader autumnsReader = new AutumnsReader(text, school);
    private final School[] markedSchools = new School[MOST_MARKS];
    private final Autumns[] markedAutumns = new Autumns[MOST_MARKS];
    private final Life life = new Life(school, autumns);
    private final Walks walks = new Walks(school);
    private final Lessons lessons = new Lessons(school);
    private final Chase chase = new Chase(school);
    private final Wants wants = new Wants(school);
    private int marks;
    private int status;
    private long top;
    private long bottom = 1;

    public ThornSchool() {
        for (int i = 0; i < trays.length; i++) trays[i] = new Tray();
        for (int i = 0; i < markedSchools.length; i++) markedSchools[i] = new School();
        for (int i = 0; i < markedAutumns.length; i++) markedAutumns[i] = new Autumns();
    }

    public int status() {
        return status;
    }

    public long top() {
        return top;
    }

    public long bottom() {
        return bottom;
    }

    // ---- TRAYS

    public boolean tray(int tray, int sort, int many) {
        Tray row = trayAt(tray);
        if (row == null || !isIn(sort, 0, 3) || !isIn(many, 0, Tray.MOST)) return refused(WRONG);
        row.lay(sort, many);
        return granted();
    }

    public boolean write(int tray, int place, long v) {
        Tray row = trayAt(tray);
        int trouble = troubleWith(row, place, 1);
        if (row == null || trouble != 0) return refused(trouble);
        row.set(place, v);
        return granted();
    }

    public long read(int tray, int place) {
        Tray row = trayAt(tray);
        int trouble = troubleWith(row, place, 1);
        if (row == null || trouble != 0) return none(trouble);
        status = 0;
        return row.at(place);
    }

    public boolean pour(int from, int place, int to, int at, int many) {
        Tray source = trayAt(from);
        Tray target = trayAt(to);
        if (source == null || target == null) return refused(WRONG);
        if (place < 0 || at < 0 || many < 0) return refused(WRONG);
        if (source.isMissing() || target.isMissing()) return refused(MISSING);
        if (source.sort != target.sort) return refused(UNLIKE);
        if (!source.holds(place, many) || !target.holds(at, many)) return refused(SHORT);
        target.take(source, place, at, many);
        return granted();
    }

    // ---- texts

    public int feed(int a, int b, int c, int d, int e) {
        if (!text.hasRoom()) return NONE;
        text.addInt(a);
        text.addInt(b);
        text.addInt(c);
        text.addInt(d);
        text.addInt(e);
        return text.fed;
    }

    public int school(int n) {
        if (!isIn(n, 0, text.fed)) return none(WRONG);
        text.begin(n);
        if (!schoolReader.readAll()) return none(FAULTY);
        school.copyFrom(schoolReader.draft);
        autumns.clear();
        return done(school.pupils);
    }

    public int autumns(int n) {
        if (!isIn(n, 0, text.fed) || n > MOST_AUTUMNS_TEXT) return none(WRONG);
        text.begin(n);
        if (!autumnsReader.readAll()) return none(FAULTY);
        autumns.copyFrom(autumnsReader.draft);
        return done(autumns.steps);
    }

    public int fault(int what) {
        if (what == 0) return text.fault;
        return what == 1 ? text.faultPlace : NONE;
    }

    public int told(int what) {
        switch (what) {
            case 0: return done(school.wide);
            case 1: return done(school.high);
            case 2: return done(school.lessons);
            case 3: return done(school.pupils);
            case 4: return done(school.odds);
            case 5: return done(school.year);
            case 6: return done(sum(school.thorns));
            case 7: return done(sum(school.berries));
            case 8: return done(school.caughtSet());
            case 9: return done(sum(school.marks));
            case 10: return done(sum(school.torn));
            default: return none(WRONG);
        }
    }

    public int cell(int cell, int what) {
        if (!school.hasCell(cell)) return none(WRONG);
        switch (what) {
            case 0: return done(get(school.thorns, cell));
            case 1: return done(get(school.berries, cell));
            case 2: return done(school.pupilsAt(cell));
            default: return none(WRONG);
        }
    }

    public int lesson(int lesson, int what) {
        if (!school.hasLesson(lesson)) return none(WRONG);
        switch (what) {
            case 0: return done(get(school.hours, lesson));
            case 1: return done(get(school.needs, lesson));
            case 2: return done(school.pupilsWhoKnow(lesson));
            default: return none(WRONG);
        }
    }

    public int pupil(int pupil, int what) {
        if (!school.hasPupil(pupil)) return none(WRONG);
        switch (what) {
            case 0: return done(get(school.at, pupil));
            case 1: return done(get(school.want, pupil));
            case 2: return done(get(school.knows, pupil));
            case 3: return done(get(school.caught, pupil));
            case 4: return done(get(school.marks, pupil));
            case 5: return done(get(school.torn, pupil));
            case 6: return done(school.touch(pupil));
            default: return none(WRONG);
        }
    }

    public int catches(int pupil, int cell) {
        if (!school.hasPupil(pupil) || !school.hasCell(cell)) return none(WRONG);
        return done(school.catchOf(pupil, cell, get(school.want, pupil)));
    }

    // ---- what is done

    public int go(int pupil, int side) {
        if (!school.hasPupil(pupil) || !isIn(side, 0, 3)) return none(WRONG);
        if (!school.canStep(pupil, side)) return none(BARRED);
        return done(school.step(pupil, side));
    }

    public int free(int pupil, int other) {
        if (!areTwo(pupil, other)) return none(WRONG);
        if (!school.canHelp(pupil, other)) return none(BARRED);
        school.takeThorn(other);
        return done(get(school.caught, other));
    }

    public int tear(int pupil) {
        if (!school.hasPupil(pupil)) return none(WRONG);
        if (!school.isCaught(pupil)) return none(BARRED);
        return done(school.tearOff(pupil));
    }

    public int pick(int pupil) {
        if (!school.hasPupil(pupil)) return none(WRONG);
        if (!school.canGather(pupil)) return none(BARRED);
        return done(school.gather(pupil));
    }

    public int year(int years) {
        if (!isIn(years, 1, 99)) return none(WRONG);
        if (!school.canAge(years)) return none(FULL);
        school.age(years);
        return done(sum(school.thorns));
    }

    public int plant(int cell, int what, int many) {
        if (!school.hasCell(cell) || !isIn(what, 0, 1) || !isIn(many, 0, MOST_GROWN)) return none(WRONG);
        return done(exchange(what == 0 ? school.thorns : school.berries, cell, many));
    }

    public int wish(int pupil, int want) {
        if (!school.hasPupil(pupil) || !isIn(want, 0, MOST_WANT)) return none(WRONG);
        return done(exchange(school.want, pupil, want));
    }

    public boolean teach(int pupil, int lesson, boolean is) {
        if (!school.hasPupil(pupil) || !school.hasLesson(lesson)) return refused(WRONG);
        int known = get(school.knows, pupil);
        if (has(known, lesson) == is) return refused(BARRED);
        put(school.knows, pupil, known ^ bit(lesson));
        return granted();
    }

    public int come(int cell) {
        if (!school.hasCell(cell)) return none(WRONG);
        if (school.pupils >= MOST_PUPILS) return none(FULL);
        school.addPupil(cell, 0, 0, 0L);
        return done(school.pupils - 1);
    }

    public boolean rule(int odds) {
        if (!isIn(odds, 0, MOST_ODDS)) return refused(WRONG);
        school.odds = odds;
        return granted();
    }

    // ---- where one comes

    public int reach(int pupil) {
        if (!school.hasPupil(pupil)) return none(WRONG);
        return done(walks.comeSet(pupil));
    }

    public int far(int pupil, int cell) {
        if (!school.hasPupil(pupil) || !school.hasCell(cell)) return none(WRONG);
        int far = walks.steps(pupil, cell);
        return far == NONE ? none(NO_SUCH) : done(far);
    }

    public int way(int pupil, int cell, int k) {
        if (!school.hasPupil(pupil) || !school.hasCell(cell) || k < 0) return none(WRONG);
        int far = walks.steps(pupil, cell);
        if (far == NONE || k > far) return none(NO_SUCH);
        return done(walks.onWay(pupil, cell, far, k));
    }

    public int calm(int pupil, int cell) {
        if (!school.hasPupil(pupil) || !school.hasCell(cell)) return none(WRONG);
        int want = walks.greatestWant(pupil, cell);
        return want == NONE ? none(NO_SUCH) : done(want);
    }

    public int pricks(int pupil, int cell) {
        if (!school.hasPupil(pupil) || !school.hasCell(cell)) return none(WRONG);
        return done(walks.fewestThorns(pupil, cell));
    }

    public int opening(int pupil, int cell) {
        if (!school.hasPupil(pupil) || !school.hasCell(cell)) return none(WRONG);
        return done(walks.fewestCleared(pupil, cell));
    }

    // ---- who is freed

    public int freed() {
        return done(school.freedSet());
    }

    public int helpers(int pupil) {
        if (!school.hasPupil(pupil)) return none(WRONG);
        if (!school.isCaught(pupil)) return none(NO_SUCH);
        return done(school.helperSet(pupil));
    }

    public int learns(int pupil) {
        if (!school.hasPupil(pupil)) return none(WRONG);
        int lesson = school.nextLesson(pupil);
        return lesson == NONE ? none(NO_SUCH) : done(lesson);
    }

    // ---- lessons

    public int alone(int lesson) {
        if (!school.hasLesson(lesson)) return none(WRONG);
        return done(lessons.hoursOf(lessons.allFor(lesson)));
    }

    public int together(int lesson) {
        if (!school.hasLesson(lesson)) return none(WRONG);
        return done(lessons.atOnce(lesson));
    }

    public int orders() {
        return done(lessons.countOrders());
    }

    public int orderAt(int k) {
        if (k < 0) return none(WRONG);
        if (k >= school.lessons) return none(NO_SUCH);
        return done(lessons.inLastOrder(k));
    }

    public int left(int pupil, int lesson) {
        if (!school.hasPupil(pupil) || !school.hasLesson(lesson)) return none(WRONG);
        int known = get(school.knows, pupil);
        if (has(known, lesson)) return done(0);
        return done(lessons.hoursOf(lessons.allFor(lesson) & ~known));
    }

    // ---- what one wants, whose a mark is

    public int fits(int pupil, int tray, int n) {
        Tray row = trayAt(tray);
        int trouble = troubleWithTwos(pupil, row, n);
        if (row == null || trouble != 0) return none(trouble);
        return done(Integer.bitCount(wants.fitting(pupil, row, n)));
    }

    public int fitsAt(int pupil, int tray, int n, int k) {
        Tray row = trayAt(tray);
        int trouble = k < 0 ? WRONG : troubleWithTwos(pupil, row, n);
        if (row == null || trouble != 0) return none(trouble);
        int want = wants.inSet(wants.fitting(pupil, row, n), k);
        return want == NONE ? none(NO_SUCH) : done(want);
    }

    public int ask(int pupil, int tray, int n) {
        Tray row = trayAt(tray);
        int trouble = troubleWithTwos(pupil, row, n);
        if (row == null || trouble != 0) return none(trouble);
        int set = wants.fitting(pupil, row, n);
        if (Integer.bitCount(set) < 2) return none(NO_SUCH);
        return done(wants.bestAsked(pupil, set));
    }

    public int whose(int tray, int n) {
        Tray row = trayAt(tray);
        int trouble = isIn(n, 0, MOST_ROW_READ) ? troubleWith(row, 0, n) : WRONG;
        if (row == null || trouble != 0) return none(trouble);
        int cells = 0;
        for (int i = 0; i < n; i++) {
            if (!school.isCellNumber(row.at(i))) return none(UNFIT);
            cells |= bit((int) row.at(i));
        }
        return done(walks.whoComeToAll(cells));
    }

    // ---- games, odds

    public int game(int pupil, int other, int n) {
        if (!areTwo(pupil, other) || !isIn(n, 0, MOST_TURNS)) return none(WRONG);
        return done(chase.isKeptFrom(pupil, other, n) ? 1 : 0);
    }

    public int moveOf(int pupil, int other, int n) {
        if (!areTwo(pupil, other) || !isIn(n, 1, MOST_TURNS)) return none(WRONG);
        int move = chase.firstMove(pupil, other, n);
        return move == NONE ? none(NO_SUCH) : done(move);
    }

    public boolean chance(int pupil, int cell) {
        if (!school.hasPupil(pupil) || !school.hasCell(cell)) return refused(WRONG);
        int far = walks.steps(pupil, cell);
        if (far == NONE || far > MOST_STEPS_TOLD) return refused(NO_SUCH);
        tellFraction(power(MOST_ODDS - school.odds, far), power(MOST_ODDS, far));
        return granted();
    }

    public boolean slips(int n, int k) {
        if (!isIn(n, 0, MOST_SLIPS) || !isIn(k, 0, MOST_SLIPS)) return refused(WRONG);
        long ways = 1;
        long sum = 0;
        for (int i = 0; i <= n; i++) {
            if (i >= k) sum += ways * power(school.odds, i) * power(MOST_ODDS - school.odds, n - i);
            ways = ways * (n - i) / (i + 1);
        }
        tellFraction(sum, power(MOST_ODDS, n));
        return granted();
    }

    public int copyThorns(int tray) {
        Tray row = trayAt(tray);
        int trouble = troubleWith(row, 0, school.cells());
        if (row == null || trouble != 0) return none(trouble);
        for (int i = 0; i < school.cells(); i++) row.set(i, get(school.thorns, i));
        return done(school.cells());
    }

    // ---- AUTUMNS

    public int live(int seed) {
        if (!isIn(seed, 0, MOST_COUNTED)) return none(WRONG);
        if (!autumns.there) return none(NO_SUCH);
        life.run(seed);
        life.keepAsLived();
        return done(life.come);
    }

    public int lived(int what) {
        if (!isIn(what, 0, Life.NUMBERS - 1)) return none(WRONG);
        return life.hasLived ? done(get(life.lastLived, what)) : none(NO_SUCH);
    }

    public boolean mean(int seed, int many) {
        if (!isIn(many, 1, 20) || !isIn(seed, 0, MOST_COUNTED + 1 - many)) return refused(WRONG);
        if (!autumns.there) return refused(NO_SUCH);
        asItWas.copyFrom(school);
        long torn = 0;
        for (int i = 0; i < many; i++) {
            life.run(seed + i);
            torn += sum(school.torn);
            school.copyFrom(asItWas);
        }
        tellFraction(torn, many);
        return granted();
    }

    // ---- MARKS OF ALL

    public int mark() {
        if (marks < 0 || marks >= markedSchools.length || marks >= markedAutumns.length) return none(FULL);
        School keptSchool = markedSchools[marks];
        Autumns keptAutumns = markedAutumns[marks];
        if (keptSchool == null || keptAutumns == null) return none(FULL);
        keptSchool.copyFrom(school);
        keptAutumns.copyFrom(autumns);
        marks++;
        return done(marks);
    }

    public int undo() {
        if (marks < 1 || marks > markedSchools.length || marks > markedAutumns.length) return none(NO_SUCH);
        School keptSchool = markedSchools[marks - 1];
        Autumns keptAutumns = markedAutumns[marks - 1];
        if (keptSchool == null || keptAutumns == null) return none(NO_SUCH);
        marks--;
        school.copyFrom(keptSchool);
        autumns.copyFrom(keptAutumns);
        return done(marks);
    }

    // ---- answers

    private int none(int trouble) {
        status = trouble;
        return NONE;
    }

    private int done(int answer) {
        status = 0;
        return answer;
    }

    private boolean refused(int trouble) {
        status = trouble;
        return false;
    }

    private boolean granted() {
        status = 0;
        return true;
    }

    private void tellFraction(long over, long under) {
        long a = over;
        long b = under;
        for (int i = 0; i < 200 && b != 0; i++) {
            long rest = a % b;
            a = b;
            b = rest;
        }
        if (a == 0) return;
        top = over / a;
        bottom = under / a;
    }

    // ---- what is asked ahead of a call

    private Tray trayAt(int tray) {
        return tray >= 0 && tray < trays.length ? trays[tray] : null;
    }

    private int troubleWith(Tray row, int place, int many) {
        if (row == null) return WRONG;
        if (row.isMissing()) return MISSING;
        return row.holds(place, many) ? 0 : SHORT;
    }

    private int troubleWithTwos(int pupil, Tray row, int n) {
        if (!school.hasPupil(pupil) || !isIn(n, 0, MOST_ROW_READ)) return WRONG;
        int trouble = troubleWith(row, 0, 2 * n);
        if (row == null || trouble != 0) return trouble;
        for (int i = 0; i < n; i++) {
            long thorns = row.at(2 * i + 1);
            if (!school.isCellNumber(row.at(2 * i)) || thorns < 0 || thorns > MOST_CATCH) return UNFIT;
        }
        return 0;
    }

    private boolean areTwo(int pupil, int other) {
        return school.hasPupil(pupil) && school.hasPupil(other) && pupil != other;
    }

    // ---- rows and sets: each index is looked at here, so that none can be beside its row

    private static int get(int[] row, int i) {
        return row != null && i >= 0 && i < row.length ? row[i] : 0;
    }

    private static void put(int[] row, int i, int v) {
        if (row != null && i >= 0 && i < row.length) row[i] = v;
    }

    private static int exchange(int[] row, int i, int v) {
        int old = get(row, i);
        put(row, i, v);
        return old;
    }

    private static void fill(int[] row, int v) {
        if (row == null) return;
        for (int i = 0; i < row.length; i++) row[i] = v;
    }

    private static void copy(int[] from, int[] to) {
        if (from == null || to == null) return;
        for (int i = 0; i < from.length && i < to.length; i++) to[i] = from[i];
    }

    private static void copy(long[] from, long[] to) {
        if (from == null || to == null) return;
        for (int i = 0; i < from.length && i < to.length; i++) to[i] = from[i];
    }

    private static int sum(int[] row) {
        int sum = 0;
        for (int i = 0; row != null && i < row.length; i++) sum += row[i];
        return sum;
    }

    private static int bit(int i) {
        return 1 << i;
    }

    private static boolean has(int set, int i) {
        return ((set >>> i) & 1) == 1;
    }

    private static boolean isIn(int v, int least, int most) {
        return v >= least && v <= most;
    }

    private static long power(long base, int times) {
        long power = 1;
        for (int i = 0; i < times; i++) power *= base;
        return power;
    }

    /** A row of numbers; its places are made once, whatever is laid there later. */
    private static final class Tray {
        static final int MOST = 60;

        private final long[] row = new long[MOST];
        int sort;
        private int many = NONE;

        void lay(int sort, int many) {
            this.sort = sort;
            this.many = many;
            for (int i = 0; i < row.length; i++) row[i] = 0;
        }

        boolean isMissing() {
            return many == NONE;
        }

        boolean holds(int place, int count) {
            return place >= 0 && count >= 0 && place <= many && count <= many - place;
        }

        long at(int place) {
            return place >= 0 && place < row.length ? row[place] : 0;
        }

        void set(int place, long v) {
            if (place >= 0 && place < row.length) row[place] = cut(v);
        }

        private long cut(long v) {
            switch (sort) {
                case 0: return (byte) v;
                case 1: return (short) v;
                case 2: return (int) v;
                default: return v;
            }
        }

        void take(Tray source, int place, int at, int count) {
            if (source == null) return;
            // in its own row, numbers must be taken before others come over them
            boolean forward = at <= place;
            for (int i = 0; i < count; i++) {
                int step = forward ? i : count - 1 - i;
                set(at + step, source.at(place + step));
            }
        }
    }

    /** The tape, and the TOKENS along the part of it that is being read. */
    private static final class Text {
        static final int THE_END = 0;
        static final int BAD = 1;
        static final int WORD = 2;
        static final int NAME = 3;
        static final int LONG_WORD = 4;
        static final int NUMBER = 5;
        static final int SIGN = 6;

        static final int THICKET = 0;
        static final int BY = 1;
        static final int ODDS = 2;
        static final int THORNS = 3;
        static final int BERRIES = 4;
        static final int LESSON = 5;
        static final int HOURS = 6;
        static final int NEEDS = 7;
        static final int PUPIL = 8;
        static final int AT = 9;
        static final int WANT = 10;
        static final int KNOWS = 11;
        static final int GO = 12;
        static final int LEFT = 13;
        static final int DOWN = 16;
        static final int FREE = 17;
        static final int TEAR = 18;
        static final int PICK = 19;
        static final int YEAR = 20;
        static final int ANY = 21;
        static final int WHEN = 22;
        static final int CAUGHT = 23;
        static final int LOOP = 24;
        static final int END = 25;
        static final int STOP = 26;
        // the words that no NAME is, in the order of their numbers above
        private static final String WORDS = "thicket by odds thorns berries lesson hours needs pupil at want knows go left right up down free tear pick year any when caught loop end stop ";

        private static final int LONGEST_NAME = 8;
        private static final int MOST_DIGITS = 4;

        private final int[] bytes = new int[MOST_FED];
        private int end;
        private int next;
        private int place;
        int fed;
        int kind;
        int value;
        long name;
        int number;
        int fault = NONE;
        int faultPlace = NONE;

        boolean hasRoom() {
            return fed + 20 <= MOST_FED;
        }

        void addInt(int four) {
            for (int shift = 24; shift >= 0; shift -= 8) {
                put(bytes, fed, (four >>> shift) & 255);
                fed++;
            }
        }

        /** Takes the first n bytes for the text; the tape is empty from now on. */
        void begin(int n) {
            end = n;
            next = 0;
            fed = 0;
            fault = 0;
            faultPlace = NONE;
            advance();
        }

        void advance() {
            while (next < end && isBlank(get(bytes, next))) next++;
            place = next;
            int c = get(bytes, next);
            if (next >= end) {
                kind = THE_END;
            } else if (isLetter(c)) {
                scanWord();
                value = kind == NAME ? wordNumber() : NONE;
                if (value != NONE) kind = WORD;
            } else if (isDigit(c)) {
                scanNumber();
            } else {
                kind = c == ';' || isCompare(c) ? SIGN : BAD;
                value = c;
                next++;
            }
        }

        private void scanWord() {
            int letters = 0;
            name = 0;
            for (; next < end && isLetter(get(bytes, next)); next++) {
                letters++;
                // a NAME of eight letters fills the eight bytes of a long, so that names can be compared as numbers
                name = (name << 8) | get(bytes, next);
            }
            kind = letters > LONGEST_NAME ? LONG_WORD : NAME;
        }

        private int wordNumber() {
            int words = 0;
            long word = 0;
            for (int i = 0; i < WORDS.length(); i++) {
                char c = WORDS.charAt(i);
                if (c != ' ') {
                    word = (word << 8) | c;
                } else if (word == name) {
                    return words;
                } else {
                    words++;
                    word = 0;
                }
            }
            return NONE;
        }

        private void scanNumber() {
            int digits = 0;
            value = 0;
            for (; next < end && isDigit(get(bytes, next)); next++) {
                digits++;
                if (digits <= MOST_DIGITS) value = value * 10 + get(bytes, next) - '0';
            }
            kind = digits <= MOST_DIGITS ? NUMBER : BAD;
        }

        private static boolean isBlank(int c) {
            return c == 10 || c == 32;
        }

        private static boolean isLetter(int c) {
            return c >= 'a' && c <= 'z';
        }

        private static boolean isDigit(int c) {
            return c >= '0' && c <= '9';
        }

        static boolean isCompare(int c) {
            return c == '<' || c == '>' || c == '=';
        }

        boolean isWord(int word) {
            return kind == WORD && value == word;
        }

        boolean fails(int fault) {
            this.fault = fault;
            faultPlace = place;
            return false;
        }

        /** The TOKEN that is there can't stand there. */
        boolean strays() {
            return fails(kind == BAD ? 1 : 2);
        }

        boolean takesWord(int word) {
            if (!isWord(word)) return strays();
            advance();
            return true;
        }

        boolean takesSemicolon() {
            if (kind != SIGN || value != ';') return strays();
            advance();
            return true;
        }

        boolean takesNumber(int least, int most) {
            if (kind != NUMBER) return strays();
            if (!isIn(value, least, most)) return fails(4);
            number = value;
            advance();
            return true;
        }
    }

    /** All that a SCHOOL is and has become, and what can be done in it. */
    private static final class School {
        int wide;
        int high;
        int odds;
        int year;
        final int[] thorns = new int[MOST_CELLS];
        final int[] berries = new int[MOST_CELLS];
        int lessons;
        final int[] hours = new int[MOST_LESSONS];
        final int[] needs = new int[MOST_LESSONS];
        final long[] lessonNames = new long[MOST_LESSONS];
        int pupils;
        final int[] at = new int[MOST_PUPILS];
        final int[] want = new int[MOST_PUPILS];
        final int[] knows = new int[MOST_PUPILS];
        final int[] caught = new int[MOST_PUPILS];
        final int[] marks = new int[MOST_PUPILS];
        final int[] torn = new int[MOST_PUPILS];
        final long[] pupilNames = new long[MOST_PUPILS];

        School() {
            clear();
        }

        void clear() {
            wide = 4;
            high = 4;
            odds = 2;
            year = 0;
            lessons = 0;
            pupils = 0;
            fill(thorns, 0);
            fill(berries, 0);
            // sums go over whole rows, so that the rows of those who are not there must be empty
            fill(marks, 0);
            fill(torn, 0);
        }

        void copyFrom(School other) {
            if (other == null) return;
            wide = other.wide;
            high = other.high;
            odds = other.odds;
            year = other.year;
            lessons = other.lessons;
            pupils = other.pupils;
            copy(other.thorns, thorns);
            copy(other.berries, berries);
            copy(other.hours, hours);
            copy(other.needs, needs);
            copy(other.lessonNames, lessonNames);
            copy(other.at, at);
            copy(other.want, want);
            copy(other.knows, knows);
            copy(other.caught, caught);
            copy(other.marks, marks);
            copy(other.torn, torn);
            copy(other.pupilNames, pupilNames);
        }

        // ---- what there is

        int cells() {
            return wide * high;
        }

        boolean hasCell(int cell) {
            return cell >= 0 && cell < wide * high;
        }

        boolean isCellNumber(long v) {
            return v >= 0 && v < cells();
        }

        boolean hasLesson(int lesson) {
            return lesson >= 0 && lesson < lessons;
        }

        boolean hasPupil(int pupil) {
            return pupil >= 0 && pupil < pupils;
        }

        int lessonNamed(long name) {
            for (int i = 0; i < lessons && i < lessonNames.length; i++) {
                if (lessonNames[i] == name) return i;
            }
            return NONE;
        }

        int pupilNamed(long name) {
            for (int i = 0; i < pupils && i < pupilNames.length; i++) {
                if (pupilNames[i] == name) return i;
            }
            return NONE;
        }

        void addLesson(int hours, int needs, long name) {
            if (lessons < 0 || lessons >= lessonNames.length) return;
            put(this.hours, lessons, hours);
            put(this.needs, lessons, needs);
            lessonNames[lessons] = name;
            lessons++;
        }

        /** A PUPIL that comes without a text has the name 0, which no word is. */
        void addPupil(int cell, int want, int knows, long name) {
            if (pupils < 0 || pupils >= pupilNames.length) return;
            put(at, pupils, cell);
            put(this.want, pupils, want);
            put(this.knows, pupils, knows);
            put(caught, pupils, 0);
            put(marks, pupils, 0);
            put(torn, pupils, 0);
            pupilNames[pupils] = name;
            pupils++;
        }

        // ---- cells

        int beside(int cell, int side) {
            if (!hasCell(cell) || wide < 1) return NONE;
            int column = cell % wide;
            switch (side) {
                case 0: return column > 0 ? cell - 1 : NONE;
                case 1: return column < wide - 1 ? cell + 1 : NONE;
                case 2: return cell >= wide ? cell - wide : NONE;
                case 3: return cell + wide < cells() ? cell + wide : NONE;
                default: return NONE;
            }
        }

        /** The set of CELLS that are BESIDE some CELL of a set. */
        int around(int set) {
            int first = 0;
            for (int row = 0; row < high; row++) first |= bit(row * wide);
            int last = first << (wide - 1);
            int all = bit(cells()) - 1;
            // nothing is left of the first column, right of the last one
            return (((set & ~last) << 1) | ((set & ~first) >>> 1) | (set << wide) | (set >>> wide)) & all;
        }

        boolean areNear(int pupil, int other) {
            if (wide < 1) return false;
            int a = get(at, pupil);
            int b = get(at, other);
            return Math.abs(a / wide - b / wide) + Math.abs(a % wide - b % wide) <= 1;
        }

        int pupilsAt(int cell) {
            int set = 0;
            for (int i = 0; i < pupils; i++) {
                if (get(at, i) == cell) set |= bit(i);
            }
            return set;
        }

        // ---- thorns and pupils

        int touch(int pupil) {
            return Integer.bitCount(get(knows, pupil));
        }

        /** What the CATCH of a PUPIL would be in a CELL if he wanted so much. */
        int catchOf(int pupil, int cell, int wanted) {
            int grown = get(thorns, cell);
            return grown == 0 ? 0 : Math.max(0, grown + wanted - Integer.bitCount(get(knows, pupil)));
        }

        int clearSet(int pupil, int wanted) {
            int set = 0;
            for (int i = 0; i < cells(); i++) {
                if (catchOf(pupil, i, wanted) == 0) set |= bit(i);
            }
            return set;
        }

        boolean isCaught(int pupil) {
            return get(caught, pupil) > 0;
        }

        int caughtSet() {
            int set = 0;
            for (int i = 0; i < pupils; i++) {
                if (isCaught(i)) set |= bit(i);
            }
            return set;
        }

        int pupilsWhoKnow(int lesson) {
            int set = 0;
            for (int i = 0; i < pupils; i++) {
                if (has(get(knows, i), lesson)) set |= bit(i);
            }
            return set;
        }

        // ---- what is done

        boolean canStep(int pupil, int side) {
            return !isCaught(pupil) && beside(get(at, pupil), side) != NONE;
        }

        int step(int pupil, int side) {
            int cell = beside(get(at, pupil), side);
            int thorns = catchOf(pupil, cell, get(want, pupil));
            put(at, pupil, cell);
            put(caught, pupil, thorns);
            return thorns;
        }

        boolean canHelp(int pupil, int other) {
            return pupil != other && !isCaught(pupil) && isCaught(other) && areNear(pupil, other);
        }

        /** Answers the LESSON that is LEARNT by it, or NONE. */
        int takeThorn(int other) {
            int thorns = get(caught, other) - 1;
            put(caught, other, thorns);
            int lesson = thorns == 0 ? nextLesson(other) : NONE;
            if (lesson != NONE) put(knows, other, get(knows, other) | bit(lesson));
            return lesson;
        }

        int nextLesson(int pupil) {
            int known = get(knows, pupil);
            for (int i = 0; i < lessons; i++) {
                if (!has(known, i) && (get(needs, i) & ~known) == 0) return i;
            }
            return NONE;
        }

        int tearOff(int pupil) {
            int thorns = exchange(caught, pupil, 0);
            put(torn, pupil, Math.min(MOST_COUNTED, get(torn, pupil) + thorns));
            return thorns;
        }

        boolean canGather(int pupil) {
            return !isCaught(pupil) && get(berries, get(at, pupil)) > 0;
        }

        int gather(int pupil) {
            int many = exchange(berries, get(at, pupil), 0);
            put(marks, pupil, Math.min(MOST_COUNTED, get(marks, pupil) + many));
            return many;
        }

        boolean canAge(int years) {
            return year + years <= MOST_COUNTED;
        }

        void age(int years) {
            year += years;
            for (int i = 0; i < cells(); i++) {
                if (get(thorns, i) == 0) continue;
                put(thorns, i, Math.min(MOST_GROWN, get(thorns, i) + years));
                put(berries, i, Math.min(MOST_GROWN, get(berries, i) + years));
            }
        }

        // ---- who is freed

        int helperSet(int pupil) {
            int set = 0;
            for (int i = 0; i < pupils; i++) {
                if (canHelp(i, pupil)) set |= bit(i);
            }
            return set;
        }

        int freedSet() {
            int all = bit(pupils) - 1;
            int set = all & ~caughtSet();
            for (int round = 0; round < pupils; round++) {
                for (int i = 0; i < pupils; i++) {
                    if (isNearSome(i, set)) set |= bit(i);
                }
            }
            return set;
        }

        private boolean isNearSome(int pupil, int set) {
            for (int i = 0; i < pupils; i++) {
                if (has(set, i) && areNear(i, pupil)) return true;
            }
            return false;
        }
    }

    /** Reads a SCHOOL into a draft, so that the old one stays if the text has a FAULT. */
    private static final class SchoolReader {
        private final Text text;
        final School draft = new School();
        private boolean isThicketTold;
        private boolean areOddsTold;
        private boolean isGrown;
        private long newName;
        private int lessonSet;

        SchoolReader(Text text) {
            this.text = text;
        }

        boolean readAll() {
            draft.clear();
            isThicketTold = false;
            areOddsTold = false;
            isGrown = false;
            for (int i = 0; i < MOST_FED && text.kind != Text.THE_END; i++) {
                if (!readPart()) return false;
            }
            return true;
        }

        private boolean readPart() {
            if (text.kind != Text.WORD) return text.strays();
            switch (text.value) {
                case Text.THICKET: return readThicket();
                case Text.ODDS: return readOdds();
                case Text.THORNS: return readGrown(draft.thorns);
                case Text.BERRIES: return readGrown(draft.berries);
                case Text.LESSON: return readLesson();
                case Text.PUPIL: return readPupil();
                default: return text.strays();
            }
        }

        private boolean readThicket() {
            if (isThicketTold || isGrown) return text.fails(5);
            isThicketTold = true;
            text.advance();
            if (!text.takesNumber(1, 5)) return false;
            draft.wide = text.number;
            if (!text.takesWord(Text.BY) || !text.takesNumber(1, 5)) return false;
            draft.high = text.number;
            return text.takesSemicolon();
        }

        private boolean readOdds() {
            if (areOddsTold) return text.fails(5);
            areOddsTold = true;
            text.advance();
            if (!text.takesNumber(0, MOST_ODDS)) return false;
            draft.odds = text.number;
            return text.takesSemicolon();
        }

        private boolean readGrown(int[] row) {
            isGrown = true;
            text.advance();
            if (!text.takesNumber(0, draft.cells() - 1)) return false;
            int cell = text.number;
            if (!text.takesNumber(0, MOST_GROWN)) return false;
            put(row, cell, text.number);
            return text.takesSemicolon();
        }

        private boolean readLesson() {
            if (draft.lessons >= MOST_LESSONS) return text.fails(6);
            text.advance();
            if (!takesNewName()) return false;
            if (!text.takesWord(Text.HOURS) || !text.takesNumber(1, 9)) return false;
            int hours = text.number;
            if (!takesLessonsBehind(Text.NEEDS) || !text.takesSemicolon()) return false;
            draft.addLesson(hours, lessonSet, newName);
            return true;
        }

        private boolean readPupil() {
            if (draft.pupils >= MOST_PUPILS) return text.fails(6);
            isGrown = true;
            text.advance();
            if (!takesNewName()) return false;
            if (!text.takesWord(Text.AT) || !text.takesNumber(0, draft.cells() - 1)) return false;
            int cell = text.number;
            int want = 0;
            if (text.isWord(Text.WANT)) {
                text.advance();
                if (!text.takesNumber(0, MOST_WANT)) return false;
                want = text.number;
            }
            if (!takesLessonsBehind(Text.KNOWS) || !text.takesSemicolon()) return false;
            draft.addPupil(cell, want, lessonSet, newName);
            return true;
        }

        private boolean takesNewName() {
            if (text.kind != Text.NAME) return text.strays();
            if (draft.lessonNamed(text.name) != NONE || draft.pupilNamed(text.name) != NONE) return text.fails(3);
            newName = text.name;
            text.advance();
            return true;
        }

        private boolean takesLessonsBehind(int word) {
            lessonSet = 0;
            if (!text.isWord(word)) return true;
            text.advance();
            // one more than there can be is a LESSON told twice
            for (int i = 0; i <= MOST_LESSONS && text.kind == Text.NAME; i++) {
                int lesson = draft.lessonNamed(text.name);
                if (lesson == NONE) return text.fails(3);
                if (has(lessonSet, lesson)) return text.fails(5);
                lessonSet |= bit(lesson);
                text.advance();
            }
            return true;
        }
    }

    /** The STEPS of AUTUMNS and their ends, in a row; what each one is, is told by its word's number in Text. */
    private static final class Autumns {
        static final int MOST_STEPS = 30;
        // each STEP may have an end
        static final int MOST_PLACES = 60;

        boolean there;
        int steps;
        int places;
        final int[] word = new int[MOST_PLACES];
        final int[] first = new int[MOST_PLACES];
        final int[] second = new int[MOST_PLACES];
        final int[] third = new int[MOST_PLACES];
        /** Of a when, a loop: where its end is; of an end: where its beginning is. */
        final int[] mate = new int[MOST_PLACES];

        void clear() {
            there = false;
            steps = 0;
            places = 0;
        }

        void copyFrom(Autumns other) {
            if (other == null) return;
            there = other.there;
            steps = other.steps;
            places = other.places;
            copy(other.word, word);
            copy(other.first, first);
            copy(other.second, second);
            copy(other.third, third);
            copy(other.mate, mate);
        }

        void addStep(int word, int first, int second, int third) {
            put(this.word, places, word);
            put(this.first, places, first);
            put(this.second, places, second);
            put(this.third, places, third);
            steps++;
            places++;
        }

        void addEnd(int beginning) {
            put(word, places, Text.END);
            put(mate, places, beginning);
            put(mate, beginning, places);
            places++;
        }
    }

    /** Reads AUTUMNS into a draft, so that the old ones stay if the text has a FAULT. */
    private static final class AutumnsReader {
        private static final int DEEPEST = 3;

        private final Text text;
        private final School school;
        final Autumns draft = new Autumns();
        private final int[] open = new int[DEEPEST];
        private int depth;
        private int taken;

        AutumnsReader(Text text, School school) {
            this.text = text;
            this.school = school;
        }

        boolean readAll() {
            draft.clear();
            draft.there = true;
            depth = 0;
            for (int i = 0; i <= MOST_AUTUMNS_TEXT && (text.kind != Text.THE_END || depth > 0); i++) {
                if (!readStep()) return false;
            }
            return true;
        }

        private boolean readStep() {
            if (text.kind != Text.WORD) return text.strays();
            int word = text.value;
            if (word == Text.END) return readEnd();
            if (!beginsStep(word)) return text.strays();
            if (draft.steps >= Autumns.MOST_STEPS) return text.fails(6);
            boolean opens = word == Text.WHEN || word == Text.LOOP;
            if (opens && depth >= DEEPEST) return text.fails(7);
            text.advance();
            int place = draft.places;
            if (word == Text.WHEN ? !readTest() : !readPlain(word)) return false;
            if (opens) {
                put(open, depth, place);
                depth++;
            }
            return text.takesSemicolon();
        }

        private static boolean beginsStep(int word) {
            return word == Text.GO || word == Text.STOP || word == Text.LOOP || isIn(word, Text.FREE, Text.WHEN);
        }

        private boolean readEnd() {
            if (depth <= 0) return text.strays();
            text.advance();
            depth--;
            draft.addEnd(get(open, depth));
            return text.takesSemicolon();
        }

        private boolean readPlain(int word) {
            int first = 0;
            int second = 0;
            switch (word) {
                case Text.GO:
                case Text.FREE:
                    if (!takesPupil()) return false;
                    first = taken;
                    if (word == Text.GO ? !takesSide() : !takesPupil()) return false;
                    second = taken;
                    break;
                case Text.TEAR:
                case Text.PICK:
                    if (!takesPupil()) return false;
                    first = taken;
                    break;
                case Text.YEAR:
                case Text.LOOP:
                    if (!text.takesNumber(1, word == Text.YEAR ? 20 : 99)) return false;
                    first = text.number;
                    break;
                default:
                    break;
            }
            draft.addStep(word, first, second, 0);
            return true;
        }

        /** A when is kept by the word of its TEST: caught, at, knows or thorns. */
        private boolean readTest() {
            if (text.kind != Text.WORD) return text.strays();
            int word = text.value;
            int first;
            switch (word) {
                case Text.CAUGHT:
                case Text.AT:
                case Text.KNOWS:
                    text.advance();
                    if (!takesPupil()) return false;
                    first = taken;
                    break;
                case Text.THORNS:
                    text.advance();
                    if (!text.takesNumber(0, school.cells() - 1)) return false;
                    first = text.number;
                    break;
                default:
                    return text.strays();
            }
            int sign = 0;
            if (word == Text.KNOWS || word == Text.THORNS) {
                if (!takesCompare()) return false;
                sign = taken;
            }
            int number = 0;
            if (word != Text.CAUGHT) {
                if (!text.takesNumber(0, word == Text.AT ? school.cells() - 1 : 9)) return false;
                number = text.number;
            }
            draft.addStep(word, first, sign, number);
            return true;
        }

        private boolean takesPupil() {
            if (text.kind != Text.NAME) return text.strays();
            taken = school.pupilNamed(text.name);
            if (taken == NONE) return text.fails(3);
            text.advance();
            return true;
        }

        private boolean takesSide() {
            if (text.kind != Text.WORD || !isIn(text.value, Text.LEFT, Text.DOWN)) return text.strays();
            taken = text.value - Text.LEFT;
            text.advance();
            return true;
        }

        private boolean takesCompare() {
            if (text.kind != Text.SIGN || !Text.isCompare(text.value)) return text.strays();
            taken = text.value;
            text.advance();
            return true;
        }
    }

    /** Lives the AUTUMNS in the SCHOOL, and counts what came of it. */
    private static final class Life {
        static final int NUMBERS = 5;
        private static final int MOST_COME = 300;
        // far above what 300 STEPS, each with three ends behind it, can need
        private static final int MOST_PASSES = 100000;

        private final School school;
        private final Autumns autumns;
        private final int[] roundsLeft = new int[Autumns.MOST_PLACES];
        final int[] lastLived = new int[NUMBERS];
        boolean hasLived;
        int come;
        private int missed;
        private int went;
        private int caught;
        private int learnt;
        private int undone;
        private int state;

        Life(School school, Autumns autumns) {
            this.school = school;
            this.autumns = autumns;
        }

        void keepAsLived() {
            put(lastLived, 0, missed);
            put(lastLived, 1, went);
            put(lastLived, 2, caught);
            put(lastLived, 3, learnt);
            put(lastLived, 4, undone);
            hasLived = true;
        }

        void run(int seed) {
            come = 0;
            missed = 0;
            went = 0;
            caught = 0;
            learnt = 0;
            undone = 0;
            state = seed;
            int place = 0;
            for (int i = 0; i < MOST_PASSES && place < autumns.places; i++) place = pass(place);
        }

        /** Answers where it goes on. */
        private int pass(int place) {
            int word = get(autumns.word, place);
            if (word == Text.END) return passEnd(place);
            if (come >= MOST_COME) {
                undone = 1;
                return autumns.places;
            }
            come++;
            switch (word) {
                case Text.STOP:
                    return autumns.places;
                case Text.LOOP:
                    put(roundsLeft, place, get(autumns.first, place));
                    return place + 1;
                case Text.CAUGHT:
                case Text.AT:
                case Text.KNOWS:
                case Text.THORNS:
                    return (holds(place) ? place : get(autumns.mate, place)) + 1;
                default:
                    if (word == Text.ANY ? !doesAny() : !does(place)) missed++;
                    return place + 1;
            }
        }

        private int passEnd(int place) {
            int beginning = get(autumns.mate, place);
            // rounds without a STEP need not be gone
            if (get(autumns.word, beginning) != Text.LOOP || beginning + 1 == place) return place + 1;
            int rounds = get(roundsLeft, beginning) - 1;
            put(roundsLeft, beginning, rounds);
            return rounds > 0 ? beginning + 1 : place + 1;
        }

        private boolean holds(int place) {
            int first = get(autumns.first, place);
            int number = get(autumns.third, place);
            switch (get(autumns.word, place)) {
                case Text.CAUGHT: return school.isCaught(first);
                case Text.AT: return get(school.at, first) == number;
                case Text.KNOWS: return compares(school.touch(first), get(autumns.second, place), number);
                default: return compares(get(school.thorns, first), get(autumns.second, place), number);
            }
        }

        private static boolean compares(int a, int sign, int b) {
            return sign == '<' ? a < b : sign == '>' ? a > b : a == b;
        }

        private boolean does(int place) {
            int first = get(autumns.first, place);
            switch (get(autumns.word, place)) {
                case Text.GO: return goes(first, get(autumns.second, place));
                case Text.FREE: return frees(first, get(autumns.second, place));
                case Text.TEAR: return tears(first);
                case Text.PICK: return picks(first);
                default: return ages(first);
            }
        }

        private boolean goes(int pupil, int side) {
            if (!school.canStep(pupil, side)) return false;
            went++;
            caught += school.step(pupil, side);
            return true;
        }

        private boolean frees(int pupil, int other) {
            if (!school.canHelp(pupil, other)) return false;
            if (school.takeThorn(other) != NONE) learnt++;
            return true;
        }

        private boolean tears(int pupil) {
            if (!school.isCaught(pupil)) return false;
            school.tearOff(pupil);
            return true;
        }

        private boolean picks(int pupil) {
            if (!school.canGather(pupil)) return false;
            school.gather(pupil);
            return true;
        }

        private boolean ages(int years) {
            if (!school.canAge(years)) return false;
            school.age(years);
            return true;
        }

        private boolean doesAny() {
            if (school.pupils < 1) return false;
            int pupil = draw(school.pupils);
            int side = draw(4);
            return school.isCaught(pupil) ? tears(pupil) : goes(pupil, side);
        }

        private int draw(int n) {
            if (n < 1) return 0;
            state = (state * 3251 + 11467) % 65536;
            return state / 8 % n;
        }
    }

    /** Where one comes, and what it takes. */
    private static final class Walks {
        private static final int NO_WAY = 1000000;

        private final School school;
        private final int[] cost = new int[MOST_CELLS];

        Walks(School school) {
            this.school = school;
        }

        private int ownCell(int pupil) {
            return get(school.at, pupil);
        }

        private int clearSet(int pupil) {
            return school.clearSet(pupil, get(school.want, pupil));
        }

        /** The CELLS at most so many steps from a set, if only those of another set are stepped on. */
        private int within(int set, int stepped, int steps) {
            int seen = set;
            for (int i = 0; i < steps; i++) {
                int more = seen | (school.around(seen) & stepped);
                if (more == seen) return seen;
                seen = more;
            }
            return seen;
        }

        int comeSet(int pupil) {
            int own = bit(ownCell(pupil));
            return school.isCaught(pupil) ? own : within(own, clearSet(pupil), MOST_CELLS);
        }

        int steps(int pupil, int cell) {
            int seen = bit(ownCell(pupil));
            int clear = school.isCaught(pupil) ? 0 : clearSet(pupil);
            for (int i = 0; i < MOST_CELLS; i++) {
                if (has(seen, cell)) return i;
                seen |= school.around(seen) & clear;
            }
            return NONE;
        }

        /** The k-th CELL of the WAY to a CELL that is so far. */
        int onWay(int pupil, int cell, int far, int k) {
            int clear = clearSet(pupil);
            int here = ownCell(pupil);
            for (int i = 1; i <= k && i <= far; i++) {
                int near = within(bit(cell), clear, far - i);
                here = first(school.around(bit(here)) & clear & near);
            }
            return here;
        }

        private int first(int set) {
            for (int i = 0; i < MOST_CELLS; i++) {
                if (has(set, i)) return i;
            }
            return 0;
        }

        int greatestWant(int pupil, int cell) {
            int own = bit(ownCell(pupil));
            for (int want = MOST_WANT; want >= 0; want--) {
                if (has(within(own, school.clearSet(pupil, want), MOST_CELLS), cell)) return want;
            }
            return NONE;
        }

        int fewestThorns(int pupil, int cell) {
            if (cell == ownCell(pupil)) return 0;
            fill(cost, NO_WAY);
            put(cost, ownCell(pupil), get(school.caught, pupil));
            boolean changed = true;
            for (int round = 0; round < MOST_CELLS && changed; round++) {
                changed = false;
                for (int i = 0; i < school.cells(); i++) {
                    if (lowers(pupil, i)) changed = true;
                }
            }
            return get(cost, cell);
        }

        private boolean lowers(int pupil, int cell) {
            int least = NO_WAY;
            for (int side = 0; side < 4; side++) {
                int from = school.beside(cell, side);
                if (from != NONE) least = Math.min(least, get(cost, from));
            }
            least += school.catchOf(pupil, cell, get(school.want, pupil));
            if (least >= get(cost, cell)) return false;
            put(cost, cell, least);
            return true;
        }

        int fewestCleared(int pupil, int cell) {
            int clear = clearSet(pupil);
            int seen = within(bit(ownCell(pupil)), clear, MOST_CELLS);
            int cleared = 0;
            for (; cleared < MOST_CELLS && !has(seen, cell); cleared++) {
                // with one CELL more cleared, one comes to all around, and on from there
                seen = within(seen | school.around(seen), clear, MOST_CELLS);
            }
            return cleared;
        }

        int whoComeToAll(int cells) {
            int set = 0;
            for (int i = 0; i < school.pupils; i++) {
                if ((cells & ~comeSet(i)) == 0) set |= bit(i);
            }
            return set;
        }
    }

    /** Hours and orders of LESSONS; each NEEDS only LESSONS of lower numbers. */
    private static final class Lessons {
        private final School school;
        private final int[] hoursTill = new int[MOST_LESSONS];
        private final int[] orders = new int[1 << MOST_LESSONS];

        Lessons(School school) {
            this.school = school;
        }

        /** The LESSON with all that it NEEDS, that these NEED, and so on. */
        int allFor(int lesson) {
            int set = bit(lesson);
            for (int i = lesson; i >= 0; i--) {
                if (has(set, i)) set |= get(school.needs, i);
            }
            return set;
        }

        int hoursOf(int set) {
            int sum = 0;
            for (int i = 0; i < school.lessons; i++) {
                if (has(set, i)) sum += get(school.hours, i);
            }
            return sum;
        }

        int atOnce(int lesson) {
            for (int i = 0; i <= lesson && i < MOST_LESSONS; i++) {
                put(hoursTill, i, latest(get(school.needs, i)) + get(school.hours, i));
            }
            return get(hoursTill, lesson);
        }

        private int latest(int set) {
            int latest = 0;
            for (int i = 0; i < MOST_LESSONS; i++) {
                if (has(set, i)) latest = Math.max(latest, get(hoursTill, i));
            }
            return latest;
        }

        int countOrders() {
            int all = bit(school.lessons) - 1;
            put(orders, 0, 1);
            for (int set = 1; set <= all && set < orders.length; set++) put(orders, set, ordersOf(set));
            return get(orders, all);
        }

        /** In how many orders just these can be learnt: any one that may be the last, behind the others. */
        private int ordersOf(int set) {
            int sum = 0;
            for (int i = 0; i < school.lessons; i++) {
                int others = set & ~bit(i);
                if (has(set, i) && (get(school.needs, i) & ~others) == 0) sum += get(orders, others);
            }
            return sum;
        }

        int inLastOrder(int k) {
            int learnt = 0;
            int latest = 0;
            for (int i = 0; i <= k && i < MOST_LESSONS; i++) {
                latest = lastThatCan(learnt);
                learnt |= bit(latest);
            }
            return latest;
        }

        private int lastThatCan(int learnt) {
            for (int i = school.lessons - 1; i >= 0; i--) {
                if (!has(learnt, i) && (get(school.needs, i) & ~learnt) == 0) return i;
            }
            return 0;
        }
    }

    /** The GAME of one who keeps away from another. */
    private static final class Chase {
        private final School school;
        /** By the other's CELL: from where the one can keep away for the turns that are left. */
        private final int[] safe = new int[MOST_CELLS];
        private final int[] safeBefore = new int[MOST_CELLS];

        Chase(School school) {
            this.school = school;
        }

        private int clearSet(int pupil) {
            return school.clearSet(pupil, get(school.want, pupil));
        }

        boolean isKeptFrom(int pupil, int other, int turns) {
            look(pupil, other, turns);
            return has(get(safe, get(school.at, other)), get(school.at, pupil));
        }

        private void look(int pupil, int other, int turns) {
            int clear = clearSet(pupil);
            int otherClear = clearSet(other);
            for (int i = 0; i < MOST_CELLS; i++) put(safe, i, ~bit(i));
            for (int turn = 0; turn < turns; turn++) {
                for (int i = 0; i < school.cells(); i++) {
                    int good = goodToStepTo(i, otherClear);
                    put(safeBefore, i, (good | school.around(good & clear)) & ~bit(i));
                }
                copy(safeBefore, safe);
            }
        }

        /** Where the one is safe, whatever the other one does then from his CELL. */
        private int goodToStepTo(int otherCell, int otherClear) {
            int good = get(safe, otherCell) & ~bit(otherCell);
            int next = school.around(bit(otherCell)) & otherClear;
            for (int i = 0; i < school.cells(); i++) {
                if (has(next, i)) good &= get(safe, i) & ~bit(i);
            }
            return good;
        }

        int firstMove(int pupil, int other, int turns) {
            int here = get(school.at, pupil);
            int otherCell = get(school.at, other);
            if (here == otherCell) return NONE;
            look(pupil, other, turns - 1);
            int good = goodToStepTo(otherCell, clearSet(other));
            int clear = clearSet(pupil);
            for (int side = 0; side < 4; side++) {
                int cell = school.beside(here, side);
                if (cell != NONE && has(good & clear, cell)) return side;
            }
            return has(good, here) ? 4 : NONE;
        }
    }

    /** How much one WANTS, by where he was CAUGHT. */
    private static final class Wants {
        private final School school;
        private final int[] wantsByCatch = new int[MOST_CATCH + 1];

        Wants(School school) {
            this.school = school;
        }

        int fitting(int pupil, Tray row, int n) {
            int set = 0;
            for (int want = 0; want <= MOST_WANT; want++) {
                if (isAsTold(pupil, row, n, want)) set |= bit(want);
            }
            return set;
        }

        private boolean isAsTold(int pupil, Tray row, int n, int want) {
            if (row == null) return false;
            for (int i = 0; i < n; i++) {
                if (school.catchOf(pupil, (int) row.at(2 * i), want) != row.at(2 * i + 1)) return false;
            }
            return true;
        }

        int inSet(int set, int k) {
            int left = k;
            for (int i = 0; i <= MOST_WANT; i++) {
                if (!has(set, i)) continue;
                if (left == 0) return i;
                left--;
            }
            return NONE;
        }

        int bestAsked(int pupil, int set) {
            int best = 0;
            int fewest = MOST_WANT + 2;
            for (int i = 0; i < school.cells(); i++) {
                int most = mostWithOneCatch(pupil, set, i);
                if (most < fewest) {
                    best = i;
                    fewest = most;
                }
            }
            return best;
        }

        private int mostWithOneCatch(int pupil, int set, int cell) {
            int most = 0;
            fill(wantsByCatch, 0);
            for (int want = 0; want <= MOST_WANT; want++) {
                if (!has(set, want)) continue;
                int thorns = school.catchOf(pupil, cell, want);
                put(wantsByCatch, thorns, get(wantsByCatch, thorns) + 1);
                most = Math.max(most, get(wantsByCatch, thorns));
            }
            return most;
        }
    }
}
