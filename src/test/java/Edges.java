import java.lang.reflect.InvocationTargetException;
import java.lang.reflect.Method;
import java.lang.reflect.Modifier;
import java.util.ArrayList;
import java.util.Arrays;
import java.util.Comparator;
import java.util.List;
import java.util.Set;
import java.util.TreeSet;
import java.util.regex.Matcher;
import java.util.regex.Pattern;

/** What the edge tests share: each of their methods is one sentence, and its name tells where that one stands. */
final class Edges {
    // as the document tells them, so that a changed constant of the class is seen
    static final int NONE = -1, UNKNOWN = -101, OUTSIDE = -102, STATE = -103, FULL = -104;
    static final int LEAST = Integer.MIN_VALUE, MOST = Integer.MAX_VALUE;

    static final Due due = new Due("EdgesTest");

    private static final Pattern NAMED = Pattern.compile("(whatItIs|terms|promise([1-9]|1[0-9]|2[0-5]))_\\w+");

    private Edges() {
    }

    static void run(Class<?>... parts) {
        Set<String> sections = new TreeSet<>();
        for (Class<?> part : parts) {
            for (Method method : sentencesOf(part)) {
                Matcher named = NAMED.matcher(method.getName());
                due.in(method.getName());
                due.holds("it is named by its section", named.matches());
                if (named.matches()) {
                    sections.add(named.group(1));
                    runOne(method);
                }
            }
        }
        due.in("all");
        due.holds("both sections have tests", sections.contains("whatItIs") && sections.contains("terms"));
        for (int promise = 1; promise <= 25; promise++) {
            due.holds("promise " + promise + " has tests", sections.contains("promise" + promise));
        }
    }

    private static List<Method> sentencesOf(Class<?> part) {
        List<Method> found = new ArrayList<>();
        for (Method method : part.getDeclaredMethods()) {
            boolean plain = !method.isSynthetic() && Modifier.isStatic(method.getModifiers());
            if (plain && method.getParameterCount() == 0 && method.getReturnType() == void.class) {
                found.add(method);
            }
        }
        found.sort(Comparator.comparing(Method::getName));
        return found;
    }

    private static void runOne(Method sentence) {
        int before = due.all();
        try {
            sentence.invoke(null);
        } catch (InvocationTargetException thrown) {
            thrown.getCause().printStackTrace(System.out);
            due.holds("no call throws", false);
        } catch (IllegalAccessException closed) {
            due.holds("it can be run", false);
        }
        due.holds("it asks for something", due.all() > before);
    }

    static void is(String what, long want, long got) {
        due.is(what, want, got);
    }

    static int faultOf(String text) {
        MossWall x = new MossWall();
        Due.write(x, text);
        return x.fault();
    }

    /** The text is a wall of so many clauses. */
    static void wallOf(String text, int clauses) {
        MossWall x = new MossWall();
        Due.write(x, text);
        is("fault of '" + text + "'", text.length(), x.fault());
        is("wall of '" + text + "'", clauses, x.wall());
        is("clauses of '" + text + "'", clauses, x.count(0));
        is("page behind '" + text + "'", 0, x.count(8));
    }

    /** The text is no wall, and the first letter that does not fit stands there. */
    static void noWall(String text, int fault) {
        MossWall x = new MossWall();
        Due.write(x, text);
        is("fault of '" + text + "'", fault, x.fault());
        is("wall of '" + text + "'", STATE, x.wall());
        is("clauses of '" + text + "'", 0, x.count(0));
        is("page behind '" + text + "'", text.length(), x.count(8));
        is("walls read of '" + text + "'", 0, x.count(9));
    }

    static void weeks(MossWall x, int count) {
        for (int week = 0; week < count; week++) {
            x.week();
        }
    }

    static void breaths(MossWall x, int clause, int count) {
        for (int breath = 0; breath < count; breath++) {
            x.breathe(clause);
        }
    }

    /** A wall that has gone so many weeks. */
    static MossWall gone(String text, int weeks) {
        MossWall x = Due.read(text);
        weeks(x, weeks);
        return x;
    }

    static void same(String what, List<String> want, List<String> got) {
        for (int row = 0; row < Math.max(want.size(), got.size()); row++) {
            String wanted = row < want.size() ? want.get(row) : "nothing";
            String had = row < got.size() ? got.get(row) : "nothing";
            due.holds(what + ": " + wanted + ", but " + had, wanted.equals(had));
        }
    }

    static List<Integer> numbers(int... values) {
        List<Integer> all = new ArrayList<>();
        Arrays.stream(values).forEach(all::add);
        return all;
    }
}
