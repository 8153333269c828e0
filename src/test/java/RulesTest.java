import java.io.IOException;
import java.lang.management.ManagementFactory;
import java.lang.reflect.Constructor;
import java.lang.reflect.Field;
import java.lang.reflect.Method;
import java.lang.reflect.Modifier;
import java.nio.file.Files;
import java.nio.file.Path;
import java.util.Arrays;
import java.util.Set;
import java.util.TreeSet;
import java.util.regex.Matcher;
import java.util.regex.Pattern;

/** The public face, what LANGUAGE.md leaves of Java, and the room that calls take. */
public final class RulesTest {
    private static final String[] FACE = {
        "letter(int)int", "blank()int", "fault()int", "wall()int", "clause(int,int)int", "as(int,int)int",
        "rain(int)int", "week()int", "breathe(int)int", "scrape(int)int", "change(int,int,int)int",
        "lean(int,int)int", "force(int)int", "order()int", "need(int,int,int)int", "race(int)int",
        "odds(int,int,int)int", "see(int,int,int)int", "forget()int", "drawn(int,int,int)int", "image()int",
        "restore()int", "count(int)int", "digest()long",
    };
    private static final String[] FORBIDDEN = {
        "\\bthrow\\b", "\\bthrows\\b", "\\btry\\b", "\\bcatch\\b", "\\bsynchronized\\b", "\\bassert\\b", "->", "::",
        "\\bpackage\\b", "\\bprotected\\b", "\\bhashCode\\b", "Exact\\b", "\\bstatic\\s*\\{",
    };

    private static final Due due = new Due("RulesTest");

    public static void main(String[] args) throws IOException {
        face();
        nestedClasses();
        if (args.length > 0) {
            source(Files.readString(Path.of(args[0], "src/main/java/MossWall.java")));
        }
        roomOfCalls();
        due.end();
    }

    private static String signature(Method method) {
        StringBuilder text = new StringBuilder(method.getName()).append('(');
        for (Class<?> type : method.getParameterTypes()) {
            text.append(text.charAt(text.length() - 1) == '(' ? "" : ",").append(type.getName());
        }
        return text.append(')').append(method.getReturnType().getName()).toString();
    }

    private static void face() {
        Set<String> told = new TreeSet<>(Arrays.asList(FACE));
        Set<String> seen = new TreeSet<>();
        Set<String> names = new TreeSet<>();
        for (Method method : MossWall.class.getDeclaredMethods()) {
            if (!Modifier.isPrivate(method.getModifiers())) {
                due.holds(method + " is public, no static one", method.getModifiers() == Modifier.PUBLIC);
                seen.add(signature(method));
                names.add(method.getName());
            }
        }
        due.holds("the face is " + seen, told.equals(seen));
        for (Method method : MossWall.class.getDeclaredMethods()) {
            due.holds(method + " bears a name of its own",
                    !Modifier.isPrivate(method.getModifiers()) || !names.contains(method.getName()));
        }
        Constructor<?>[] constructors = MossWall.class.getDeclaredConstructors();
        due.is("constructors", 1, constructors.length);
        due.is("constructor", Modifier.PUBLIC, constructors[0].getModifiers());
        due.is("the class", Modifier.PUBLIC | Modifier.FINAL, MossWall.class.getModifiers());
        Set<String> constants = new TreeSet<>();
        for (Field field : MossWall.class.getDeclaredFields()) {
            if (!Modifier.isPrivate(field.getModifiers())) {
                constants.add(field.getName());
            }
            due.holds(field + " is final if static",
                    !Modifier.isStatic(field.getModifiers()) || Modifier.isFinal(field.getModifiers()));
        }
        due.holds("constants", constants.equals(Set.of("NONE", "UNKNOWN", "OUTSIDE", "STATE", "FULL")));
        due.is("NONE", -1, MossWall.NONE);
        due.is("UNKNOWN", -101, MossWall.UNKNOWN);
        due.is("OUTSIDE", -102, MossWall.OUTSIDE);
        due.is("STATE", -103, MossWall.STATE);
        due.is("FULL", -104, MossWall.FULL);
    }

    private static void nestedClasses() {
        Class<?>[] nested = MossWall.class.getDeclaredClasses();
        due.holds("at most twelve classes", nested.length < 12);
        for (Class<?> type : nested) {
            int modifiers = type.getModifiers();
            due.holds(type + " is static", Modifier.isStatic(modifiers));
            due.holds(type + " is not public", !Modifier.isPublic(modifiers) && !Modifier.isProtected(modifiers));
            int fields = 0;
            for (Field field : type.getDeclaredFields()) {
                boolean isStatic = Modifier.isStatic(field.getModifiers());
                due.holds(field + " is final if static", !isStatic || Modifier.isFinal(field.getModifiers()));
                fields += isStatic ? 0 : 1;
            }
            due.holds(type + " has few fields", fields <= 20);
            for (Method method : type.getDeclaredMethods()) {
                due.holds(method + " takes at most seven", method.getParameterCount() <= 7);
            }
        }
    }

    private static void source(String source) {
        String bare = source.replaceAll("(?s)/\\*.*?\\*/", "").replaceAll("//[^\n]*", "")
                .replaceAll("'.'", "' '").replaceAll("\"[^\"\n]*\"", "\"\"");
        for (String word : FORBIDDEN) {
            Matcher matcher = Pattern.compile(word).matcher(bare);
            due.holds("the source is without " + word, !matcher.find());
        }
        due.holds("the source is of signs 1 to 127", source.chars().allMatch(sign -> sign >= 1 && sign <= 127));
    }

    /** All objects of a run live in one room of 7.3 million elements: a dozen rounds of every call stay far below. */
    private static void roomOfCalls() {
        com.sun.management.ThreadMXBean bean = (com.sun.management.ThreadMXBean) ManagementFactory.getThreadMXBean();
        MossWall wall = Due.read("d9-,w90,s91,f92,c93,d94;00000001");
        everyCall(wall);
        long before = bean.getCurrentThreadAllocatedBytes();
        for (int time = 0; time < 12; time++) {
            everyCall(wall);
        }
        long made = bean.getCurrentThreadAllocatedBytes() - before;
        due.holds("calls made " + made + " bytes", made < 1 << 20);
    }

    private static void everyCall(MossWall wall) {
        wall.letter('c');
        wall.blank();
        wall.fault();
        wall.wall();
        for (int what = 0; what <= 8; what++) {
            wall.clause(5, what);
        }
        wall.as(0, 0);
        wall.rain(0);
        wall.image();
        wall.week();
        wall.breathe(0);
        wall.scrape(0);
        wall.change(0, 1, 9);
        wall.lean(5, 4);
        wall.force(99);
        wall.order();
        wall.need(63, 40, 1);
        wall.race(1);
        wall.odds(5, 4, 0);
        wall.see(0, 0, 0);
        wall.forget();
        wall.drawn(60, 1, 1);
        wall.restore();
        wall.count(4);
        wall.digest();
    }
}
