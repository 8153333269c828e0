import java.util.Random;

/** Drawn runs of calls on MossWall and on Model: each answer of the one is due from the other. */
public final class ModelTest {
    private static final int RUNS = 400, CALLS = 512, LONGEST_STEP = 70;
    private static final int[] ODD = {-1, -2, 7, 9, 10, 41, 61, 100, Integer.MIN_VALUE, Integer.MAX_VALUE};

    private final Due due;
    private final Random random;
    private final MossWall wall = new MossWall();
    private final Model model = new Model();
    private final int run;
    private int calls = 0;

    private ModelTest(Due due, int run) {
        this.due = due;
        this.run = run;
        this.random = new Random(run);
    }

    public static void main(String[] args) {
        Due due = new Due("ModelTest");
        for (int run = 0; run < RUNS; run++) {
            new ModelTest(due, run).play();
        }
        due.end();
    }

    private void play() {
        // some runs stay without a wall for a while
        if (random.nextInt(8) != 0) {
            writeWall();
        }
        while (calls < CALLS - LONGEST_STEP) {
            step();
        }
    }

    private void is(String call, long want, long got) {
        calls++;
        due.is("run " + run + " call " + calls + " " + call, want, got);
    }

    /** Mostly a number within the bounds, at times one that is not. */
    private int number(int least, int most) {
        if (random.nextInt(20) == 0) {
            return ODD[random.nextInt(ODD.length)];
        }
        return least + random.nextInt(most - least + 1);
    }

    private int someClause() {
        int size = model.count(0);
        return size == 0 ? number(0, 1) : number(0, size - 1);
    }

    private String wallText() {
        StringBuilder text = new StringBuilder();
        int size = 1 + random.nextInt(6);
        for (int clause = 0; clause < size; clause++) {
            int on = random.nextInt(clause + 1);
            text.append(clause == 0 ? "" : ",").append("cdsfw".charAt(random.nextInt(5)))
                    .append((char) ('1' + random.nextInt(random.nextBoolean() ? 4 : 9)))
                    .append(on == clause ? "-" : String.valueOf(on));
        }
        text.append(';');
        int weeks = 1 + random.nextInt(8);
        int wettest = 1 + random.nextInt(3);
        for (int week = 0; week < weeks; week++) {
            text.append(random.nextInt(wettest + 1));
        }
        return text.toString();
    }

    private void writeWall() {
        StringBuilder text = new StringBuilder(wallText());
        if (random.nextInt(3) == 0) {
            String signs = "cdsfw,;-0123456789x";
            text.setCharAt(random.nextInt(text.length()), signs.charAt(random.nextInt(signs.length())));
        }
        if (random.nextInt(6) == 0) {
            text.append(wallText());
        }
        if (random.nextInt(4) != 0) {
            is("blank()", model.blank(), wall.blank());
        }
        for (int place = 0; place < text.length(); place++) {
            letter(text.charAt(place));
        }
        is("fault()", model.fault(), wall.fault());
        is("wall()", model.wall(), wall.wall());
    }

    private void letter(int code) {
        is("letter(" + code + ")", model.letter(code), wall.letter(code));
    }

    private void step() {
        switch (random.nextInt(26)) {
            case 0 -> letter(number(1, 126));
            case 1 -> is("fault()", model.fault(), wall.fault());
            case 2 -> {
                if (random.nextInt(6) == 0) {
                    writeWall();
                }
            }
            case 3, 4 -> askClause();
            case 5 -> askAs();
            case 6 -> askRain();
            case 7, 8, 9 -> is("week()", model.week(), wall.week());
            case 10, 11 -> breathe();
            case 12, 13 -> scrape();
            case 14 -> change();
            case 15 -> lean();
            case 16 -> force();
            case 17 -> is("order()", model.order(), wall.order());
            case 18 -> need();
            case 19 -> race();
            case 20 -> odds();
            case 21 -> see();
            case 22 -> {
                if (random.nextInt(4) == 0) {
                    is("forget()", model.forget(), wall.forget());
                }
            }
            case 23 -> drawn();
            case 24 -> imageOrRestore();
            default -> countOrDigest();
        }
    }

    private void askClause() {
        int clause = someClause();
        int what = number(0, 8);
        is("clause(" + clause + ", " + what + ")", model.clause(clause, what), wall.clause(clause, what));
    }

    private void askAs() {
        int clause = someClause();
        int kind = number(0, 4);
        is("as(" + clause + ", " + kind + ")", model.as(clause, kind), wall.as(clause, kind));
    }

    private void askRain() {
        int week = number(0, 99);
        is("rain(" + week + ")", model.rain(week), wall.rain(week));
    }

    private void breathe() {
        int clause = someClause();
        is("breathe(" + clause + ")", model.breathe(clause), wall.breathe(clause));
    }

    private void scrape() {
        int clause = someClause();
        is("scrape(" + clause + ")", model.scrape(clause), wall.scrape(clause));
    }

    private void change() {
        int clause = someClause();
        int kind = number(0, 4);
        int deep = number(1, 9);
        is("change(" + clause + ", " + kind + ", " + deep + ")",
                model.change(clause, kind, deep), wall.change(clause, kind, deep));
    }

    private void lean() {
        int clause = someClause();
        int on = number(-1, 5);
        is("lean(" + clause + ", " + on + ")", model.lean(clause, on), wall.lean(clause, on));
    }

    private void force() {
        int weeks = number(0, random.nextBoolean() ? 9 : 99);
        is("force(" + weeks + ")", model.force(weeks), wall.force(weeks));
    }

    private void need() {
        int clauses = number(0, (1 << model.count(0)) - 1);
        int weeks = number(0, random.nextInt(6) == 0 ? 40 : 6);
        int what = number(0, 1);
        is("need(" + clauses + ", " + weeks + ", " + what + ")",
                model.need(clauses, weeks, what), wall.need(clauses, weeks, what));
    }

    private void race() {
        int what = number(0, 1);
        is("race(" + what + ")", model.race(what), wall.race(what));
    }

    private void odds() {
        int clause = someClause();
        int weeks = number(1, 4);
        int what = number(0, 1);
        is("odds(" + clause + ", " + weeks + ", " + what + ")",
                model.odds(clause, weeks, what), wall.odds(clause, weeks, what));
    }

    private void see() {
        int clause = someClause();
        int rain = number(0, 3);
        int grew = number(0, random.nextInt(4) == 0 ? 6 : 2);
        is("see(" + clause + ", " + rain + ", " + grew + ")",
                model.see(clause, rain, grew), wall.see(clause, rain, grew));
    }

    private void drawn() {
        int weeks = number(1, 60);
        int seed = number(0, Integer.MAX_VALUE - 1);
        int what = number(0, 2);
        is("drawn(" + weeks + ", " + seed + ", " + what + ")",
                model.drawn(weeks, seed, what), wall.drawn(weeks, seed, what));
    }

    private void imageOrRestore() {
        if (random.nextInt(3) == 0) {
            is("image()", model.image(), wall.image());
        } else {
            is("restore()", model.restore(), wall.restore());
        }
    }

    private void countOrDigest() {
        if (random.nextBoolean()) {
            int what = number(0, 10);
            is("count(" + what + ")", model.count(what), wall.count(what));
        } else {
            is("digest()", model.digest(), wall.digest());
        }
    }
}
