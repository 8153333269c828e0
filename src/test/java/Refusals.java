import java.util.List;
import java.util.function.Supplier;
import java.util.function.ToLongFunction;

/** Walls in several states, and calls that they refuse: nothing is other behind such a call than ahead of it. */
final class Refusals {
    private Refusals() {
    }

    /** Nothing was done yet. */
    static MossWall unread() {
        return new MossWall();
    }

    /** No wall was read, but one is on the page but for its last letter. */
    static MossWall halfWritten() {
        MossWall x = new MossWall();
        Due.write(x, "c4-,w20;");
        return x;
    }

    /** Two clauses, of which nothing is known yet. */
    static MossWall fresh() {
        return Due.read("c2-,d30;12");
    }

    /** Six clauses in their second week, with an image, breaths, sights, and letters on the page. */
    static MossWall busy() {
        // behind a week of 3: 3 0 1 6 0 3, the fourth, but for the first, being closed
        MossWall x = Due.read("c3-,d20,s9-,f4-,w53,c9-;3102");
        x.week();
        x.breathe(2);
        x.see(2, 1, 1);
        x.see(4, 0, 0);
        x.image();
        x.breathe(5);
        x.breathe(4);
        x.see(5, 3, 2);
        x.need(4, 9, 1);
        Due.write(x, "s2-;1");
        return x;
    }

    /** As busy, but nothing more is seen, needed or written. */
    static MossWall full() {
        MossWall x = busy();
        for (int seen = 3; seen < 6; seen++) {
            x.see(0, 0, 0);
        }
        for (int done = 1; done < 20; done++) {
            x.need(1, 0, 0);
        }
        while (x.count(8) < 36) {
            x.letter('c');
        }
        return x;
    }

    /** An image was kept, but of a wall that is gone. */
    static MossWall anew() {
        MossWall x = busy();
        x.blank();
        Due.write(x, "w1-,c9-;10");
        x.wall();
        x.week();
        return x;
    }

    /** All clauses are closed. */
    static MossWall closed() {
        return Edges.gone("c1-,f2-;1", 2);
    }

    static void all(String what, long want, ToLongFunction<MossWall> call) {
        refused(what + ", unread", Refusals::unread, want, call);
        refused(what + ", half written", Refusals::halfWritten, want, call);
        standing(what, want, call);
    }

    static void standing(String what, long want, ToLongFunction<MossWall> call) {
        refused(what + ", fresh", Refusals::fresh, want, call);
        refused(what + ", busy", Refusals::busy, want, call);
        refused(what + ", full", Refusals::full, want, call);
        refused(what + ", anew", Refusals::anew, want, call);
        refused(what + ", closed", Refusals::closed, want, call);
    }

    static void withoutWall(String what, long want, ToLongFunction<MossWall> call) {
        refused(what + ", unread", Refusals::unread, want, call);
        refused(what + ", half written", Refusals::halfWritten, want, call);
    }

    static void refused(String what, Supplier<MossWall> state, long want, ToLongFunction<MossWall> call) {
        MossWall x = state.get();
        List<String> ahead = Told.of(x);
        Edges.is(what, want, call.applyAsLong(x));
        Edges.same(what + " changes nothing", ahead, Told.of(x));
        Edges.is(what + " again", want, call.applyAsLong(x));

        MossWall untouched = state.get();
        MossWall asked = state.get();
        call.applyAsLong(asked);
        Edges.same(what + " changes nothing behind it", Told.behind(untouched), Told.behind(asked));
    }
}
