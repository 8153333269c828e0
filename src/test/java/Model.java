import java.math.BigInteger;
import java.util.ArrayList;
import java.util.HashMap;
import java.util.List;
import java.util.Map;
import java.util.TreeMap;
import java.util.regex.Matcher;
import java.util.regex.Pattern;

/** The document again, by other and slower ways than MossWall, to compare the two. */
final class Model {
    private static final int NONE = -1, UNKNOWN = -101, OUTSIDE = -102, STATE = -103, FULL = -104;
    private static final Pattern WALL = Pattern.compile(wallPattern());

    private static final class Clause {
        char kind;
        int deep;
        int on;
        int moss;

        Clause copy() {
            Clause copy = new Clause();
            copy.kind = kind;
            copy.deep = deep;
            copy.on = on;
            copy.moss = moss;
            return copy;
        }
    }

    private static final class State {
        List<Clause> clauses = new ArrayList<>();
        String rain = "";
        int week = 0;
        int breaths = 0;
        List<int[]> seen = new ArrayList<>();

        State copy() {
            State copy = new State();
            for (Clause clause : clauses) {
                copy.clauses.add(clause.copy());
            }
            copy.rain = rain;
            copy.week = week;
            copy.breaths = breaths;
            copy.seen.addAll(seen);
            return copy;
        }

        boolean closed(int clause) {
            return clauses.get(clause).moss >= clauses.get(clause).deep;
        }

        boolean inForce(int clause) {
            Clause c = clauses.get(clause);
            return c.kind != 'f' && closed(clause) && (c.on == NONE || inForce(c.on));
        }

        int rainOf(int week) {
            return rain.charAt(week % rain.length()) - '0';
        }

        State behind(int rainThen) {
            State then = copy();
            for (int clause = 0; clause < clauses.size(); clause++) {
                Clause c = then.clauses.get(clause);
                if (c.on == NONE || closed(c.on)) {
                    c.moss = Math.min(99, c.moss + grows(c.kind, rainThen));
                }
            }
            then.week++;
            return then;
        }

        State behindWeeks(int weeks) {
            State then = this;
            for (int week = 0; week < weeks; week++) {
                then = then.behind(then.rainOf(then.week));
            }
            return then;
        }

        int moss() {
            return clauses.stream().mapToInt(clause -> clause.moss).sum();
        }
    }

    private final StringBuilder page = new StringBuilder();
    private State now = new State();
    private State image = null;
    private int read = 0;
    private int needs = 0;

    /** Clauses nested from the last one on, each leaning on those ahead of it alone. */
    private static String wallPattern() {
        String rest = "";
        for (int clause = 5; clause >= 0; clause--) {
            String ahead = "01234".substring(0, clause);
            String own = "[cdsfw][1-9][-" + ahead + "]" + rest;
            rest = clause == 0 ? own : "(?:," + own + ")?";
        }
        return rest + ";[0-3]{1,8}";
    }

    private static int grows(char kind, int rain) {
        if (kind == 'c') {
            return rain;
        }
        if (kind == 'f') {
            return rain + rain;
        }
        if (kind == 'd') {
            return rain == 0 ? 0 : rain - 1;
        }
        return rain == 0 ? 0 : 1;
    }

    private boolean none(int clause) {
        return clause < 0 || clause >= now.clauses.size();
    }

    private boolean noWall() {
        return now.clauses.isEmpty();
    }

    private static boolean not(int value, int least, int most) {
        return value < least || value > most;
    }

    private interface Which {
        boolean of(int clause);
    }

    private static int bits(int size, Which which) {
        int bits = 0;
        for (int clause = 0; clause < size; clause++) {
            bits += which.of(clause) ? 1 << clause : 0;
        }
        return bits;
    }

    int letter(int code) {
        if (not(code, 1, 126)) {
            return OUTSIDE;
        }
        if (page.length() + 1 > 36) {
            return FULL;
        }
        return page.append((char) code).length();
    }

    int blank() {
        int had = page.length();
        page.setLength(0);
        return had;
    }

    int fault() {
        for (int length = 1; length <= page.length(); length++) {
            Matcher matcher = WALL.matcher(page.substring(0, length));
            if (!matcher.matches() && !matcher.hitEnd()) {
                return length - 1;
            }
        }
        return page.length();
    }

    int wall() {
        if (!WALL.matcher(page).matches()) {
            return STATE;
        }
        String[] parts = page.toString().split(";");
        now = new State();
        now.rain = parts[1];
        for (String text : parts[0].split(",")) {
            Clause clause = new Clause();
            clause.kind = text.charAt(0);
            clause.deep = Integer.parseInt(text.substring(1, 2));
            clause.on = text.endsWith("-") ? NONE : Integer.parseInt(text.substring(2));
            now.clauses.add(clause);
        }
        image = null;
        read++;
        blank();
        return now.clauses.size();
    }

    int clause(int clause, int what) {
        if (none(clause)) {
            return UNKNOWN;
        }
        if (not(what, 0, 8)) {
            return OUTSIDE;
        }
        Clause c = now.clauses.get(clause);
        return switch (what) {
            case 0 -> "cdsfw".indexOf(c.kind);
            case 1 -> c.deep;
            case 2 -> c.on;
            case 3 -> c.moss;
            case 4 -> now.closed(clause) ? 1 : 0;
            case 5 -> now.inForce(clause) ? 1 : 0;
            case 6 -> when(clause);
            case 7 -> sorts(clause);
            default -> tryNext(clause);
        };
    }

    private int when(int clause) {
        for (int weeks = 0; weeks <= 40; weeks++) {
            if (now.behindWeeks(weeks).closed(clause)) {
                return weeks;
            }
        }
        return NONE;
    }

    private int sorts(int clause) {
        return bits(5, kind -> now.seen.stream().allMatch(
                row -> row[0] != clause || grows("cdsfw".charAt(kind), row[1]) == row[2]));
    }

    private int tryNext(int clause) {
        int sorts = sorts(clause);
        if (sorts == 0) {
            return NONE;
        }
        TreeMap<Integer, Integer> rainByWorst = new TreeMap<>();
        for (int rain = 0; rain <= 3; rain++) {
            Map<Integer, Integer> left = new HashMap<>();
            for (int kind = 0; kind < 5; kind++) {
                if ((sorts & 1 << kind) != 0) {
                    left.merge(grows("cdsfw".charAt(kind), rain), 1, Integer::sum);
                }
            }
            int worst = left.values().stream().mapToInt(Integer::intValue).max().orElse(0);
            rainByWorst.putIfAbsent(worst, rain);
        }
        return rainByWorst.firstEntry().getValue();
    }

    int as(int clause, int kind) {
        if (none(clause)) {
            return UNKNOWN;
        }
        if (not(kind, 0, 4)) {
            return OUTSIDE;
        }
        String such = switch (now.clauses.get(clause).kind) {
            case 'c' -> "c";
            case 'd' -> "cd";
            case 's' -> "cs";
            case 'f' -> "cf";
            default -> "csw";
        };
        return such.indexOf("cdsfw".charAt(kind)) < 0 ? NONE : clause;
    }

    int rain(int week) {
        if (week < 0) {
            return OUTSIDE;
        }
        return noWall() ? STATE : now.rainOf(week);
    }

    int week() {
        if (noWall()) {
            return STATE;
        }
        if (now.week >= 999) {
            return FULL;
        }
        now = now.behindWeeks(1);
        return bits(now.clauses.size(), now::closed);
    }

    int breathe(int clause) {
        if (none(clause)) {
            return UNKNOWN;
        }
        if (now.closed(clause)) {
            return STATE;
        }
        if (now.breaths >= 9999) {
            return FULL;
        }
        now.breaths++;
        return ++now.clauses.get(clause).moss;
    }

    int scrape(int clause) {
        if (none(clause)) {
            return UNKNOWN;
        }
        Clause c = now.clauses.get(clause);
        if (c.moss == 0) {
            return STATE;
        }
        int was = c.moss;
        c.moss = c.kind == 'w' ? was - 1 : 0;
        return was - c.moss;
    }

    int change(int clause, int kind, int deep) {
        if (none(clause)) {
            return UNKNOWN;
        }
        if (not(kind, 0, 4) || not(deep, 1, 9)) {
            return OUTSIDE;
        }
        Clause c = now.clauses.get(clause);
        int was = "cdsfw".indexOf(c.kind);
        c.kind = "cdsfw".charAt(kind);
        c.deep = deep;
        return was;
    }

    int lean(int clause, int on) {
        if (none(clause) || not(on, NONE, clause - 1)) {
            return UNKNOWN;
        }
        int was = now.clauses.get(clause).on;
        now.clauses.get(clause).on = on;
        return was;
    }

    int force(int weeks) {
        if (not(weeks, 0, 99)) {
            return OUTSIDE;
        }
        if (noWall()) {
            return STATE;
        }
        return bits(now.clauses.size(), now.behindWeeks(weeks)::inForce);
    }

    int order() {
        if (noWall()) {
            return STATE;
        }
        TreeMap<Integer, Integer> byWhen = new TreeMap<>();
        for (int clause = 0; clause < now.clauses.size(); clause++) {
            int when = when(clause);
            if (when != NONE) {
                byWhen.put(10 * when + clause, clause + 1);
            }
        }
        int order = 0;
        for (int digit : byWhen.values()) {
            order = 10 * order + digit;
        }
        return order;
    }

    int need(int clauses, int weeks, int what) {
        if (not(clauses, 0, (1 << now.clauses.size()) - 1) || not(weeks, 0, 40) || not(what, 0, 1)) {
            return OUTSIDE;
        }
        if (noWall() || needs >= 20) {
            return STATE;
        }
        needs++;
        List<int[]> ways = new ArrayList<>();
        spread(new int[now.clauses.size()], 0, 4, ways);
        TreeMap<Integer, Integer> breathsByDigits = new TreeMap<>();
        for (int[] way : ways) {
            if (closes(way, clauses, weeks)) {
                StringBuilder digits = new StringBuilder("0");
                int breaths = 0;
                for (int clause = 0; clause < way.length; clause++) {
                    digits.append(String.valueOf(clause + 1).repeat(way[clause]));
                    breaths += way[clause];
                }
                breathsByDigits.put(Integer.parseInt(digits.toString()), breaths);
            }
        }
        if (breathsByDigits.isEmpty()) {
            return NONE;
        }
        return what == 1 ? breathsByDigits.firstKey() : breathsByDigits.firstEntry().getValue();
    }

    private static void spread(int[] way, int clause, int left, List<int[]> ways) {
        if (clause == way.length) {
            ways.add(way.clone());
            return;
        }
        for (int breaths = 0; breaths <= left; breaths++) {
            way[clause] = breaths;
            spread(way, clause + 1, left - breaths, ways);
        }
        way[clause] = 0;
    }

    private boolean closes(int[] way, int clauses, int weeks) {
        State then = now.copy();
        for (int clause = 0; clause < way.length; clause++) {
            then.clauses.get(clause).moss += way[clause];
        }
        State last = then.behindWeeks(weeks);
        int closed = bits(way.length, last::closed);
        return (closed & clauses) == clauses;
    }

    int race(int what) {
        if (not(what, 0, 1)) {
            return OUTSIDE;
        }
        if (noWall()) {
            return STATE;
        }
        int[] lack = now.clauses.stream().mapToInt(clause -> Math.max(0, clause.deep - clause.moss)).toArray();
        int turn = winner(lack, new HashMap<>());
        return what == 1 ? turn : turn == NONE ? 0 : 1;
    }

    /** The game played out to its end, all turns of it. */
    private static int winner(int[] lack, Map<Integer, Integer> known) {
        int key = 0;
        for (int rest : lack) {
            key = 10 * key + rest;
        }
        Integer told = known.get(key);
        if (told != null) {
            return told;
        }
        int turn = NONE;
        for (int clause = lack.length - 1; clause >= 0; clause--) {
            for (int times = Math.min(2, lack[clause]); times >= 1; times--) {
                lack[clause] -= times;
                if (winner(lack, known) == NONE) {
                    turn = 10 * clause + times;
                }
                lack[clause] += times;
            }
        }
        known.put(key, turn);
        return turn;
    }

    int odds(int clause, int weeks, int what) {
        if (none(clause)) {
            return UNKNOWN;
        }
        if (not(weeks, 1, 4) || not(what, 0, 1)) {
            return OUTSIDE;
        }
        BigInteger above = BigInteger.valueOf(ways(now, clause, weeks));
        BigInteger below = BigInteger.valueOf(4).pow(weeks);
        BigInteger shared = above.gcd(below);
        return (what == 0 ? above : below).divide(shared).intValue();
    }

    private static int ways(State state, int clause, int weeks) {
        if (weeks == 0) {
            return state.closed(clause) ? 1 : 0;
        }
        int ways = 0;
        for (int rain = 0; rain <= 3; rain++) {
            ways += ways(state.behind(rain), clause, weeks - 1);
        }
        return ways;
    }

    int see(int clause, int rain, int grew) {
        if (none(clause)) {
            return UNKNOWN;
        }
        if (not(rain, 0, 3) || not(grew, 0, 6)) {
            return OUTSIDE;
        }
        if (now.seen.size() == 6) {
            return FULL;
        }
        now.seen.add(new int[] {clause, rain, grew});
        return now.seen.size();
    }

    int forget() {
        int was = now.seen.size();
        now.seen.clear();
        return was;
    }

    int drawn(int weeks, int seed, int what) {
        if (not(weeks, 1, 60) || seed < 0 || not(what, 0, 2)) {
            return OUTSIDE;
        }
        if (noWall()) {
            return STATE;
        }
        BigInteger draw = BigInteger.valueOf(seed);
        State then = now;
        int all = 0;
        for (int week = 0; week < weeks; week++) {
            draw = draw.multiply(BigInteger.valueOf(1103515245)).add(BigInteger.valueOf(12345))
                    .mod(BigInteger.TWO.pow(31));
            then = then.behind(draw.divide(BigInteger.valueOf(65536)).mod(BigInteger.valueOf(4)).intValue());
            all += bits(then.clauses.size(), then::closed) == (1 << then.clauses.size()) - 1 ? 1 : 0;
        }
        return what == 0 ? all : what == 1 ? then.moss() : draw.intValueExact();
    }

    int image() {
        if (noWall()) {
            return STATE;
        }
        image = now.copy();
        return image.week;
    }

    int restore() {
        if (image == null) {
            return STATE;
        }
        now = image.copy();
        return now.week;
    }

    int count(int what) {
        return switch (what) {
            case 0 -> now.clauses.size();
            case 1 -> now.rain.length();
            case 2 -> now.week;
            case 3 -> Integer.bitCount(bits(now.clauses.size(), now::closed));
            case 4 -> Integer.bitCount(bits(now.clauses.size(), now::inForce));
            case 5 -> now.moss();
            case 6 -> now.breaths;
            case 7 -> now.seen.size();
            case 8 -> page.length();
            case 9 -> read;
            case 10 -> needs;
            default -> OUTSIDE;
        };
    }

    long digest() {
        List<Integer> numbers = new ArrayList<>();
        for (int clause = 0; clause < now.clauses.size(); clause++) {
            for (int what = 0; what <= 8; what++) {
                numbers.add(clause(clause, what));
            }
            numbers.add(odds(clause, 2, 0));
            numbers.add(odds(clause, 2, 1));
        }
        if (!noWall()) {
            numbers.addAll(List.of(force(3), order(), race(0), race(1), rain(now.week)));
        }
        page.chars().forEach(numbers::add);
        for (int what = 0; what <= 10; what++) {
            numbers.add(count(what));
        }
        BigInteger h = BigInteger.valueOf(1367);
        for (int number : numbers) {
            h = h.multiply(BigInteger.valueOf(31)).add(BigInteger.valueOf(number));
        }
        return h.longValue();
    }
}
