/** A wall of clauses that come into force when the moss has closed over them. */
public final class MossWall {
    public static final int NONE = -1, UNKNOWN = -101, OUTSIDE = -102, STATE = -103, FULL = -104;

    private static final int MOST_CLAUSES = 6, MOST_TOLD = 8, MOST_LETTERS = 36, MOST_MOSS = 99, MOST_SEEN = 6;
    private static final int MOST_DEEP = 9, MOST_RAIN = 3, MOST_GREW = 6, MOST_CODE = 126;
    private static final int MOST_WEEKS = 999, MOST_BREATHS = 9999, MOST_NEEDS = 20;
    private static final int WEEKS_AHEAD = 40, FORCE_AHEAD = 99, ODDS_AHEAD = 4, DRAWN_AHEAD = 60;
    private static final int KINDS = 5, PLAIN = 0, DRY = 1, SALTED = 2, FORGED = 3, WITNESSED = 4;
    private static final int CLAUSE_WHATS = 9, COUNT_WHATS = 11;
    private static final String KIND_LETTERS = "cdsfw";

    private final Page page = new Page();
    private final Wall now = new Wall();
    private final Wall kept = new Wall();
    private final Outlook outlook = new Outlook();
    private boolean imageKept = false;
    private int wallsRead = 0;
    private int needsDone = 0;

    public MossWall() {
    }

    // ---- the wall

    public int letter(int code) {
        if (code < 1 || code > MOST_CODE) {
            return OUTSIDE;
        }
        if (page.size() >= MOST_LETTERS) {
            return FULL;
        }
        page.add(code);
        return page.size();
    }

    public int blank() {
        int had = page.size();
        page.clear();
        return had;
    }

    public int fault() {
        return page.faultPlace();
    }

    public int wall() {
        if (!page.isWall()) {
            return STATE;
        }
        now.clear();
        page.copyClauses(now.clauses);
        page.copyRain(now.weeks);
        page.clear();
        imageKept = false;
        wallsRead++;
        return now.clauses.size();
    }

    public int clause(int clause, int what) {
        if (!now.clauses.has(clause)) {
            return UNKNOWN;
        }
        switch (what) {
            case 0:
                return now.clauses.kindOf(clause);
            case 1:
                return now.clauses.deepOf(clause);
            case 2:
                return now.clauses.leanOf(clause);
            case 3:
                return now.clauses.mossOn(clause);
            case 4:
                return now.clauses.isClosed(clause) ? 1 : 0;
            case 5:
                return now.clauses.forceBits() >> clause & 1;
            case 6:
                outlook.begin(now);
                return outlook.whenClosed(clause);
            case 7:
                return now.seen.sortsOf(clause);
            case 8:
                return now.seen.rainToTry(clause);
            default:
                return OUTSIDE;
        }
    }

    public int as(int clause, int kind) {
        if (!now.clauses.has(clause)) {
            return UNKNOWN;
        }
        if (!isKind(kind)) {
            return OUTSIDE;
        }
        int own = now.clauses.kindOf(clause);
        boolean such = kind == PLAIN || kind == own || kind == SALTED && own == WITNESSED;
        return such ? clause : NONE;
    }

    public int rain(int week) {
        if (week < 0) {
            return OUTSIDE;
        }
        if (!now.stands()) {
            return STATE;
        }
        return now.weeks.rainOf(week);
    }

    // ---- what is done

    public int week() {
        if (!now.stands()) {
            return STATE;
        }
        if (now.weeks.next() >= MOST_WEEKS) {
            return FULL;
        }
        now.clauses.grow(now.weeks.rainOf(now.weeks.next()));
        now.weeks.goOn();
        return now.clauses.closedBits();
    }

    public int breathe(int clause) {
        if (!now.clauses.has(clause)) {
            return UNKNOWN;
        }
        if (now.clauses.isClosed(clause)) {
            return STATE;
        }
        if (now.breaths >= MOST_BREATHS) {
            return FULL;
        }
        now.clauses.addMoss(clause, 1);
        now.breaths++;
        return now.clauses.mossOn(clause);
    }

    public int scrape(int clause) {
        if (!now.clauses.has(clause)) {
            return UNKNOWN;
        }
        int moss = now.clauses.mossOn(clause);
        if (moss == 0) {
            return STATE;
        }
        int off = now.clauses.kindOf(clause) == WITNESSED ? 1 : moss;
        now.clauses.addMoss(clause, -off);
        return off;
    }

    public int change(int clause, int kind, int deep) {
        if (!now.clauses.has(clause)) {
            return UNKNOWN;
        }
        if (!isKind(kind) || deep < 1 || deep > MOST_DEEP) {
            return OUTSIDE;
        }
        int was = now.clauses.kindOf(clause);
        now.clauses.setKind(clause, kind, deep);
        return was;
    }

    public int lean(int clause, int on) {
        if (!now.clauses.has(clause) || on < NONE || on >= clause) {
            return UNKNOWN;
        }
        int was = now.clauses.leanOf(clause);
        now.clauses.setLean(clause, on);
        return was;
    }

    // ---- what would be

    public int force(int weeks) {
        if (weeks < 0 || weeks > FORCE_AHEAD) {
            return OUTSIDE;
        }
        if (!now.stands()) {
            return STATE;
        }
        outlook.begin(now);
        return outlook.forceBehind(weeks);
    }

    public int order() {
        if (!now.stands()) {
            return STATE;
        }
        outlook.begin(now);
        return outlook.closingOrder();
    }

    public int need(int clauses, int weeks, int what) {
        boolean ofThese = clauses >= 0 && clauses < 1 << now.clauses.size();
        if (!ofThese || weeks < 0 || weeks > WEEKS_AHEAD || what < 0 || what > 1) {
            return OUTSIDE;
        }
        if (!now.stands() || needsDone >= MOST_NEEDS) {
            return STATE;
        }
        needsDone++;
        outlook.begin(now);
        int digits = outlook.fewestBreaths(clauses, weeks);
        return what == 1 || digits == NONE ? digits : digitsIn(digits);
    }

    public int race(int what) {
        if (what < 0 || what > 1) {
            return OUTSIDE;
        }
        if (!now.stands()) {
            return STATE;
        }
        int turn = now.clauses.winningTurn();
        if (what == 1) {
            return turn;
        }
        return turn == NONE ? 0 : 1;
    }

    public int odds(int clause, int weeks, int what) {
        if (!now.clauses.has(clause)) {
            return UNKNOWN;
        }
        if (weeks < 1 || weeks > ODDS_AHEAD || what < 0 || what > 1) {
            return OUTSIDE;
        }
        outlook.begin(now);
        int below = 1 << 2 * weeks;
        int above = outlook.waysClosed(clause, weeks);
        // below is a power of 2, so 2 is all that both can share
        for (int halved = 0; halved < 2 * weeks && above % 2 == 0; halved++) {
            above /= 2;
            below /= 2;
        }
        return what == 0 ? above : below;
    }

    // ---- what is seen

    public int see(int clause, int rain, int grew) {
        if (!now.clauses.has(clause)) {
            return UNKNOWN;
        }
        if (rain < 0 || rain > MOST_RAIN || grew < 0 || grew > MOST_GREW) {
            return OUTSIDE;
        }
        if (now.seen.size() >= MOST_SEEN) {
            return FULL;
        }
        now.seen.add(clause, rain, grew);
        return now.seen.size();
    }

    public int forget() {
        int was = now.seen.size();
        now.seen.clear();
        return was;
    }

    public int drawn(int weeks, int seed, int what) {
        if (weeks < 1 || weeks > DRAWN_AHEAD || seed < 0 || what < 0 || what > 2) {
            return OUTSIDE;
        }
        if (!now.stands()) {
            return STATE;
        }
        outlook.begin(now);
        outlook.draw(weeks, seed);
        switch (what) {
            case 0:
                return outlook.weeksAllClosed();
            case 1:
                return outlook.mossOfAll();
            default:
                return outlook.seedThen();
        }
    }

    // ---- what is told of all

    public int image() {
        if (!now.stands()) {
            return STATE;
        }
        kept.copyFrom(now);
        imageKept = true;
        return now.weeks.next();
    }

    public int restore() {
        if (!imageKept) {
            return STATE;
        }
        now.copyFrom(kept);
        return now.weeks.next();
    }

    public int count(int what) {
        switch (what) {
            case 0:
                return now.clauses.size();
            case 1:
                return now.weeks.size();
            case 2:
                return now.weeks.next();
            case 3:
                return Integer.bitCount(now.clauses.closedBits());
            case 4:
                return Integer.bitCount(now.clauses.forceBits());
            case 5:
                return now.clauses.mossOfAll();
            case 6:
                return now.breaths;
            case 7:
                return now.seen.size();
            case 8:
                return page.size();
            case 9:
                return wallsRead;
            case 10:
                return needsDone;
            default:
                return OUTSIDE;
        }
    }

    public long digest() {
        long h = 1367;
        for (int clause = 0; clause < now.clauses.size(); clause++) {
            for (int what = 0; what < CLAUSE_WHATS; what++) {
                h = mixed(h, clause(clause, what));
            }
            h = mixed(h, odds(clause, 2, 0));
            h = mixed(h, odds(clause, 2, 1));
        }
        if (now.stands()) {
            h = mixed(h, force(3));
            h = mixed(h, order());
            h = mixed(h, race(0));
            h = mixed(h, race(1));
            h = mixed(h, rain(now.weeks.next()));
        }
        for (int place = 0; place < page.size(); place++) {
            h = mixed(h, page.codeAt(place));
        }
        for (int what = 0; what < COUNT_WHATS; what++) {
            h = mixed(h, count(what));
        }
        return h;
    }

    private static long mixed(long h, int number) {
        return 31 * h + number;
    }

    private static boolean isKind(int kind) {
        return kind >= 0 && kind < KINDS;
    }

    private static int digitsIn(int number) {
        int digits = 0;
        for (int rest = number; rest > 0; rest /= 10) {
            digits++;
        }
        return digits;
    }

    private static int growth(int kind, int rain) {
        switch (kind) {
            case DRY:
                return Math.max(rain - 1, 0);
            case SALTED:
            case WITNESSED:
                return Math.min(rain, 1);
            case FORGED:
                return 2 * rain;
            default:
                return rain;
        }
    }

    /** The letters that are not read yet. */
    private static final class Page {
        // a clause is three letters and the sign behind it, so a place tells what may stand there
        private static final int STRIDE = 4;

        private final int[] codes = new int[MOST_LETTERS];
        private int size = 0;

        int size() {
            return size;
        }

        int codeAt(int place) {
            return place >= 0 && place < size ? codes[place] : NONE;
        }

        void add(int code) {
            if (size < MOST_LETTERS) {
                codes[size] = code;
                size++;
            }
        }

        void clear() {
            size = 0;
        }

        int faultPlace() {
            int rainFrom = rainPlace();
            for (int place = 0; place < size; place++) {
                boolean fits = place < rainFrom
                        ? fitsClause(place / STRIDE, place % STRIDE, codes[place])
                        : fitsRain(place - rainFrom, codes[place]);
                if (!fits) {
                    return place;
                }
            }
            return size;
        }

        boolean isWall() {
            return rainPlace() < size && faultPlace() == size;
        }

        void copyClauses(Clauses clauses) {
            if (clauses == null) {
                return;
            }
            int end = rainPlace();
            for (int place = 0; place + STRIDE <= end; place += STRIDE) {
                int kind = KIND_LETTERS.indexOf((char) codeAt(place));
                int on = codeAt(place + 2) == '-' ? NONE : codeAt(place + 2) - '0';
                clauses.add(kind, codeAt(place + 1) - '0', on);
            }
        }

        void copyRain(Weeks weeks) {
            if (weeks == null) {
                return;
            }
            for (int place = rainPlace(); place < size; place++) {
                weeks.add(codeAt(place) - '0');
            }
        }

        /** The place behind the first ';', or behind the page if there is none. */
        private int rainPlace() {
            for (int place = 0; place < size; place++) {
                if (codes[place] == ';') {
                    return place + 1;
                }
            }
            return size;
        }

        private static boolean fitsClause(int clause, int part, int code) {
            if (clause >= MOST_CLAUSES) {
                return false;
            }
            switch (part) {
                case 0:
                    return KIND_LETTERS.indexOf((char) code) >= 0;
                case 1:
                    return code >= '1' && code <= '0' + MOST_DEEP;
                case 2:
                    return code == '-' || code >= '0' && code < '0' + clause;
                default:
                    return code == ';' || code == ',' && clause < MOST_CLAUSES - 1;
            }
        }

        private static boolean fitsRain(int week, int code) {
            return week < MOST_TOLD && code >= '0' && code <= '0' + MOST_RAIN;
        }
    }

    /** The clauses and the moss on each. */
    private static final class Clauses {
        private final int[] kinds = new int[MOST_CLAUSES];
        private final int[] deeps = new int[MOST_CLAUSES];
        private final int[] leans = new int[MOST_CLAUSES];
        private final int[] moss = new int[MOST_CLAUSES];
        private int size = 0;

        int size() {
            return size;
        }

        boolean has(int clause) {
            return clause >= 0 && clause < size;
        }

        int kindOf(int clause) {
            return has(clause) ? kinds[clause] : NONE;
        }

        int deepOf(int clause) {
            return has(clause) ? deeps[clause] : 0;
        }

        int leanOf(int clause) {
            return has(clause) ? leans[clause] : NONE;
        }

        int mossOn(int clause) {
            return has(clause) ? moss[clause] : 0;
        }

        void clear() {
            size = 0;
        }

        void add(int kind, int deep, int on) {
            if (size < MOST_CLAUSES) {
                kinds[size] = kind;
                deeps[size] = deep;
                leans[size] = on;
                moss[size] = 0;
                size++;
            }
        }

        void setKind(int clause, int kind, int deep) {
            if (has(clause)) {
                kinds[clause] = kind;
                deeps[clause] = deep;
            }
        }

        void setLean(int clause, int on) {
            if (has(clause)) {
                leans[clause] = on;
            }
        }

        void addMoss(int clause, int more) {
            if (has(clause)) {
                moss[clause] = Math.max(Math.min(moss[clause] + more, MOST_MOSS), 0);
            }
        }

        void copyFrom(Clauses other) {
            if (other == null) {
                return;
            }
            size = other.size;
            System.arraycopy(other.kinds, 0, kinds, 0, MOST_CLAUSES);
            System.arraycopy(other.deeps, 0, deeps, 0, MOST_CLAUSES);
            System.arraycopy(other.leans, 0, leans, 0, MOST_CLAUSES);
            System.arraycopy(other.moss, 0, moss, 0, MOST_CLAUSES);
        }

        void copyMoss(Clauses other) {
            if (other != null) {
                System.arraycopy(other.moss, 0, moss, 0, MOST_CLAUSES);
            }
        }

        /** How much moss is wanting till the clause is closed. */
        int lacking(int clause) {
            return has(clause) ? Math.max(deeps[clause] - moss[clause], 0) : 0;
        }

        boolean isClosed(int clause) {
            return has(clause) && moss[clause] >= deeps[clause];
        }

        void grow(int rain) {
            // from the last one down: what a clause leans on comes ahead of it, and so is still as the week began
            for (int clause = size - 1; clause >= 0; clause--) {
                int on = leans[clause];
                if (on == NONE || isClosed(on)) {
                    addMoss(clause, growth(kinds[clause], rain));
                }
            }
        }

        int closedBits() {
            int bits = 0;
            for (int clause = 0; clause < size; clause++) {
                if (isClosed(clause)) {
                    bits |= 1 << clause;
                }
            }
            return bits;
        }

        boolean allClosed() {
            return closedBits() == (1 << size) - 1;
        }

        int forceBits() {
            int bits = 0;
            for (int clause = 0; clause < size; clause++) {
                int on = leans[clause];
                boolean held = on == NONE || (bits >> on & 1) == 1;
                if (held && isClosed(clause) && kinds[clause] != FORGED) {
                    bits |= 1 << clause;
                }
            }
            return bits;
        }

        int mossOfAll() {
            int all = 0;
            for (int clause = 0; clause < size; clause++) {
                all += mossOn(clause);
            }
            return all;
        }

        /** The least turn that wins the race, or NONE. */
        int winningTurn() {
            // each clause is a heap from which 1 or 2 are taken: such heaps are worth their rest by 3,
            // and who leaves worths that cancel out, bit by bit, wins
            int worth = 0;
            for (int clause = 0; clause < size; clause++) {
                worth ^= lacking(clause) % 3;
            }
            if (worth == 0) {
                return NONE;
            }
            for (int clause = 0; clause < size; clause++) {
                int lacks = lacking(clause);
                int others = worth ^ lacks % 3;
                for (int times = 1; times <= 2 && times <= lacks; times++) {
                    if ((lacks - times) % 3 == others) {
                        return 10 * clause + times;
                    }
                }
            }
            return NONE;
        }
    }

    /** The rain that is told, and which week is next. */
    private static final class Weeks {
        private final int[] told = new int[MOST_TOLD];
        private int size = 0;
        private int next = 0;

        int size() {
            return size;
        }

        int next() {
            return next;
        }

        int rainOf(int week) {
            return size > 0 && week >= 0 ? told[week % size] : 0;
        }

        void clear() {
            size = 0;
            next = 0;
        }

        void add(int rain) {
            if (size < MOST_TOLD) {
                told[size] = rain;
                size++;
            }
        }

        void goOn() {
            next++;
        }

        void copyFrom(Weeks other) {
            if (other == null) {
                return;
            }
            size = other.size;
            next = other.next;
            System.arraycopy(other.told, 0, told, 0, MOST_TOLD);
        }
    }

    /** What is seen of clauses whose kind is not known. */
    private static final class Seen {
        private final int[] clauses = new int[MOST_SEEN];
        private final int[] rains = new int[MOST_SEEN];
        private final int[] growths = new int[MOST_SEEN];
        private int size = 0;

        int size() {
            return size;
        }

        void clear() {
            size = 0;
        }

        void add(int clause, int rain, int grew) {
            if (size < MOST_SEEN) {
                clauses[size] = clause;
                rains[size] = rain;
                growths[size] = grew;
                size++;
            }
        }

        void copyFrom(Seen other) {
            if (other == null) {
                return;
            }
            size = other.size;
            System.arraycopy(other.clauses, 0, clauses, 0, MOST_SEEN);
            System.arraycopy(other.rains, 0, rains, 0, MOST_SEEN);
            System.arraycopy(other.growths, 0, growths, 0, MOST_SEEN);
        }

        int sortsOf(int clause) {
            int sorts = 0;
            for (int kind = 0; kind < KINDS; kind++) {
                if (canBe(clause, kind)) {
                    sorts |= 1 << kind;
                }
            }
            return sorts;
        }

        int rainToTry(int clause) {
            int sorts = sortsOf(clause);
            if (sorts == 0) {
                return NONE;
            }
            int best = 0;
            for (int rain = 1; rain <= MOST_RAIN; rain++) {
                if (leftAtWorst(sorts, rain) < leftAtWorst(sorts, best)) {
                    best = rain;
                }
            }
            return best;
        }

        private boolean canBe(int clause, int kind) {
            for (int sight = 0; sight < size; sight++) {
                if (clauses[sight] == clause && growth(kind, rains[sight]) != growths[sight]) {
                    return false;
                }
            }
            return true;
        }

        private static int leftAtWorst(int sorts, int rain) {
            int worst = 0;
            for (int grew = 0; grew <= MOST_GREW; grew++) {
                int left = 0;
                for (int kind = 0; kind < KINDS; kind++) {
                    if ((sorts >> kind & 1) == 1 && growth(kind, rain) == grew) {
                        left++;
                    }
                }
                worst = Math.max(worst, left);
            }
            return worst;
        }
    }

    /** All that an image keeps. */
    private static final class Wall {
        final Clauses clauses = new Clauses();
        final Weeks weeks = new Weeks();
        final Seen seen = new Seen();
        int breaths = 0;

        boolean stands() {
            return clauses.size() > 0;
        }

        void clear() {
            clauses.clear();
            weeks.clear();
            seen.clear();
            breaths = 0;
        }

        void copyFrom(Wall other) {
            if (other == null) {
                return;
            }
            clauses.copyFrom(other.clauses);
            weeks.copyFrom(other.weeks);
            seen.copyFrom(other.seen);
            breaths = other.breaths;
        }
    }

    /** What would be: weeks are tried on a copy, so that the wall stays as it is. */
    private static final class Outlook {
        private static final long DRAW_TIMES = 1103515245L, DRAW_MORE = 12345L, DRAW_REST = 1L << 31;

        // start is the wall as it is asked about, trial what weeks have made of it
        private final Clauses start = new Clauses();
        private final Clauses trial = new Clauses();
        private final Weeks weeks = new Weeks();
        private int weeksAllClosed = 0;
        private int seed = 0;

        void begin(Wall wall) {
            if (wall == null) {
                return;
            }
            start.copyFrom(wall.clauses);
            trial.copyFrom(wall.clauses);
            weeks.copyFrom(wall.weeks);
        }

        int whenClosed(int clause) {
            for (int gone = 0; gone <= WEEKS_AHEAD; gone++) {
                if (trial.isClosed(clause)) {
                    return gone;
                }
                goOn();
            }
            return NONE;
        }

        int forceBehind(int count) {
            for (int gone = 0; gone < count; gone++) {
                goOn();
            }
            return trial.forceBits();
        }

        int closingOrder() {
            int digits = 0;
            int told = 0;
            for (int gone = 0; gone <= WEEKS_AHEAD; gone++) {
                int fresh = trial.closedBits() & ~told;
                for (int clause = 0; clause < trial.size(); clause++) {
                    if ((fresh >> clause & 1) == 1) {
                        digits = 10 * digits + clause + 1;
                    }
                }
                told |= fresh;
                goOn();
            }
            return digits;
        }

        /** The digits of the fewest breaths, 0 for none wanted, or NONE. */
        int fewestBreaths(int wanted, int count) {
            // 0 is no breath: four digits that never fall, counted up, come with the fewest breaths first,
            // and of as many with the least
            int size = start.size();
            for (int first = 0; first <= size; first++) {
                for (int second = first; second <= size; second++) {
                    for (int third = second; third <= size; third++) {
                        for (int fourth = third; fourth <= size; fourth++) {
                            int digits = 1000 * first + 100 * second + 10 * third + fourth;
                            if (closesInTime(digits, wanted, count)) {
                                return digits;
                            }
                        }
                    }
                }
            }
            return NONE;
        }

        private boolean closesInTime(int digits, int wanted, int count) {
            trial.copyMoss(start);
            for (int rest = digits; rest > 0; rest /= 10) {
                trial.addMoss(rest % 10 - 1, 1);
            }
            int next = weeks.next();
            for (int gone = 0; gone < count; gone++) {
                trial.grow(weeks.rainOf(next + gone));
            }
            return (wanted & ~trial.closedBits()) == 0;
        }

        /** Of all ways that rain can fall in so many weeks, behind how many the clause is closed. */
        int waysClosed(int clause, int count) {
            int closed = 0;
            int ways = 1 << 2 * count;
            for (int way = 0; way < ways; way++) {
                trial.copyMoss(start);
                for (int gone = 0; gone < count; gone++) {
                    trial.grow(way >> 2 * gone & MOST_RAIN);
                }
                if (trial.isClosed(clause)) {
                    closed++;
                }
            }
            return closed;
        }

        void draw(int count, int firstSeed) {
            seed = firstSeed;
            weeksAllClosed = 0;
            for (int gone = 0; gone < count; gone++) {
                seed = (int) ((DRAW_TIMES * seed + DRAW_MORE) % DRAW_REST);
                trial.grow(seed / 65536 % (MOST_RAIN + 1));
                if (trial.allClosed()) {
                    weeksAllClosed++;
                }
            }
        }

        int weeksAllClosed() {
            return weeksAllClosed;
        }

        int seedThen() {
            return seed;
        }

        int mossOfAll() {
            return trial.mossOfAll();
        }

        private void goOn() {
            trial.grow(weeks.rainOf(weeks.next()));
            weeks.goOn();
        }
    }
}
