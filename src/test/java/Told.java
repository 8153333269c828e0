import java.util.ArrayList;
import java.util.List;

/** All that the asking calls answer, and what goes on from there. */
final class Told {
    private final MossWall x;
    private final List<String> rows = new ArrayList<>();

    private Told(MossWall x) {
        this.x = x;
    }

    /** Some 150 calls, so that an object can be asked twice within its 512; none of them changes anything. */
    static List<String> of(MossWall x) {
        Told told = new Told(x);
        told.page();
        for (int clause = 0; clause < 6; clause++) {
            told.clause(clause);
        }
        told.wouldBe();
        for (int what = 0; what <= 10; what++) {
            told.add("count " + what, x.count(what));
        }
        told.add("digest", x.digest());
        return told.rows;
    }

    /** What changing calls answer from here on: what no asking call tells (the image, the page's text) shows in them. */
    static List<String> behind(MossWall x) {
        Told told = new Told(x);
        told.add("need", x.need(1, 3, 1));
        told.add("week", x.week());
        told.add("breathe", x.breathe(0));
        told.add("see", x.see(0, 1, 1));
        told.add("letter", x.letter('3'));
        told.add("digest", x.digest());
        told.add("restore", x.restore());
        told.add("digest of the image", x.digest());
        told.add("need of all", x.need(63, 40, 0));
        told.add("scrape", x.scrape(1));
        told.add("forget", x.forget());
        told.add("see behind forget", x.see(1, 2, 1));
        told.add("wall", x.wall());
        told.add("digest of the wall", x.digest());
        told.add("blank", x.blank());
        told.add("letter behind blank", x.letter('c'));
        told.add("digest at last", x.digest());
        return told.rows;
    }

    private void add(String call, long answer) {
        rows.add(call + " = " + answer);
    }

    private void page() {
        add("fault", x.fault());
    }

    private void clause(int clause) {
        for (int what = 0; what <= 8; what++) {
            add("clause " + clause + " " + what, x.clause(clause, what));
        }
        for (int kind = 0; kind <= 4; kind++) {
            add("as " + clause + " " + kind, x.as(clause, kind));
        }
        add("odds above " + clause, x.odds(clause, 3, 0));
        add("odds below " + clause, x.odds(clause, 3, 1));
    }

    private void wouldBe() {
        for (int week = 0; week <= 8; week++) {
            add("rain " + week, x.rain(week));
        }
        int[] weeks = {0, 1, 4, 40, 99};
        for (int count : weeks) {
            add("force " + count, x.force(count));
        }
        add("order", x.order());
        add("race", x.race(0));
        add("race by", x.race(1));
        for (int what = 0; what <= 2; what++) {
            add("drawn " + what, x.drawn(7, 5, what));
        }
    }
}
