import java.util.Arrays;
import java.util.List;

/** Promises 22 to 25: what is told of all. */
final class AllEdges {
    private AllEdges() {
    }

    static void promise22_stateWithoutWall() {
        Refusals.withoutWall("image", Edges.STATE, MossWall::image);
    }

    static void promise22_whichWeekIsNext() {
        MossWall x = Due.read("c9-;12");
        Edges.is("the first", 0, x.image());
        Edges.weeks(x, 3);
        Edges.is("round again", 3, x.image());
        x.restore();
        Edges.is("behind restore", 3, x.image());
    }

    static void promise22_oneTheLatest() {
        MossWall x = Due.read("c9-;1");
        x.image();
        x.week();
        x.image();
        x.week();
        Edges.is("the latest", 1, x.restore());
        x.week();
        Edges.is("the one ahead of it is gone", 1, x.restore());
        Edges.is("moss", 1, x.clause(0, 3));
    }

    static void promise22_itLeavesAll() {
        MossWall x = Refusals.busy();
        List<String> ahead = Told.of(x);
        Edges.is("image", 1, x.image());
        Edges.same("all", ahead, Told.of(x));
    }

    static void promise23_stateIfNoneWasKept() {
        Refusals.withoutWall("restore", Edges.STATE, MossWall::restore);
        Refusals.refused("restore, fresh", Refusals::fresh, Edges.STATE, MossWall::restore);
        Refusals.refused("restore, closed", Refusals::closed, Edges.STATE, MossWall::restore);
    }

    static void promise23_stateIfThereIsAnotherWallSince() {
        Refusals.refused("restore, anew", Refusals::anew, Edges.STATE, MossWall::restore);
        MossWall x = Due.read("c9-;1");
        x.image();
        Due.write(x, "c9-;1");
        x.wall();
        Edges.is("another one of the same text", Edges.STATE, x.restore());
        Edges.is("its own image", 0, x.image());
        x.week();
        Edges.is("its own image", 0, x.restore());
    }

    static void promise23_aRefusedWallIsNoOther() {
        MossWall x = Due.read("c9-;1");
        x.image();
        x.week();
        x.letter('x');
        Edges.is("no wall", Edges.STATE, x.wall());
        Edges.is("still", 0, x.restore());
        Edges.is("the page is not of the image", 1, x.count(8));
    }

    static void promise23_refusedImagesKeepNone() {
        MossWall x = new MossWall();
        x.image();
        Due.write(x, "c9-;1");
        x.wall();
        Edges.is("none", Edges.STATE, x.restore());
    }

    static void promise23_asOftenAsWanted() {
        MossWall x = Edges.gone("c9-;1", 2);
        x.image();
        for (int time = 0; time < 3; time++) {
            Edges.is("behind no week", 2, x.restore());
            Edges.weeks(x, time + 1);
            Edges.is("behind some", 2, x.restore());
            Edges.is("moss", 2, x.clause(0, 3));
        }
    }

    static void terms_anImageKeepsKinds() {
        MossWall x = imaged();
        x.change(0, 3, 9);
        x.restore();
        Edges.is("kind", 0, x.clause(0, 0));
    }

    static void terms_anImageKeepsHowDeep() {
        MossWall x = imaged();
        x.change(0, 0, 1);
        x.restore();
        Edges.is("deep", 9, x.clause(0, 1));
    }

    static void terms_anImageKeepsOnWhichTheyLean() {
        MossWall x = imaged();
        x.lean(1, Edges.NONE);
        x.lean(2, 1);
        x.restore();
        Edges.is("on the first", 0, x.clause(1, 2));
        Edges.is("on none", Edges.NONE, x.clause(2, 2));
    }

    static void terms_anImageKeepsMoss() {
        MossWall x = imaged();
        x.scrape(0);
        x.breathe(2);
        x.restore();
        Edges.is("moss", 3, x.clause(0, 3));
        Edges.is("moss", 1, x.clause(2, 3));
        Edges.is("moss of all", 4, x.count(5));
    }

    static void terms_anImageKeepsRainAndTheWeek() {
        MossWall x = imaged();
        Edges.weeks(x, 5);
        Edges.is("restore", 1, x.restore());
        Edges.is("week", 1, x.count(2));
        Edges.is("weeks told", 2, x.count(1));
        x.week();
        Edges.is("the rain of week 1", 4, x.clause(0, 3));
    }

    static void terms_anImageKeepsBreaths() {
        MossWall x = imaged();
        Edges.breaths(x, 1, 2);
        Edges.is("breaths", 3, x.count(6));
        x.restore();
        Edges.is("breaths", 1, x.count(6));
    }

    static void terms_anImageKeepsSeen() {
        MossWall x = imaged();
        x.forget();
        x.see(0, 0, 1);
        x.see(0, 0, 1);
        x.restore();
        Edges.is("seen", 1, x.count(7));
        Edges.is("sorts", 31, x.clause(0, 7));
        Edges.is("sorts", 2, x.clause(2, 7));
    }

    /** An image behind a week of 2, with one breath and one sight. */
    private static MossWall imaged() {
        MossWall x = Due.read("c9-,d50,w9-;21");
        x.week();
        x.breathe(0);
        x.see(2, 1, 0);
        x.image();
        return x;
    }

    static void promise24_whatIs0To10() {
        for (int what : Edges.numbers(-1, 11, Edges.LEAST, Edges.MOST)) {
            Refusals.all("count " + what, Edges.OUTSIDE, x -> x.count(what));
        }
    }

    static void promise24_withoutWallNothingIsThere() {
        MossWall x = Refusals.halfWritten();
        for (int what = 0; what <= 10; what++) {
            Edges.is("count " + what, what == 8 ? 8 : 0, x.count(what));
        }
    }

    static void promise24_theMostOfEach() {
        MossWall x = Edges.gone("c1-,c10,c11,c12,c13,c14;33333333", 40);
        for (int many = 0; many < 40; many++) {
            x.letter('x');
        }
        for (int many = 0; many < 8; many++) {
            x.see(0, 0, 0);
        }
        for (int many = 0; many < 22; many++) {
            x.need(0, 0, 0);
        }
        int[] counts = {6, 8, 40, 6, 6, 594, 0, 6, 36, 1, 20};
        for (int what = 0; what <= 10; what++) {
            Edges.is("count " + what, counts[what], x.count(what));
        }
    }

    static void promise24_howOftenAWallWasRead() {
        MossWall x = new MossWall();
        for (int read = 1; read <= 40; read++) {
            Due.write(x, "c1-;0");
            x.wall();
            x.wall();
            Edges.is("read", read, x.count(9));
        }
    }

    static void promise25_withoutWallAndPage() {
        asCallsTell(Refusals.unread());
    }

    static void promise25_ofAPageAlone() {
        asCallsTell(Refusals.halfWritten(), 'c', '4', '-', ',', 'w', '2', '0', ';');
    }

    static void promise25_ofWalls() {
        asCallsTell(Refusals.fresh());
        asCallsTell(Refusals.busy(), 's', '2', '-', ';', '1');
        asCallsTell(Refusals.anew());
        asCallsTell(Refusals.closed());
    }

    static void promise25_ofAFullPage() {
        int[] letters = new int[36];
        Arrays.fill(letters, 'c');
        System.arraycopy(new int[] {'s', '2', '-', ';', '1'}, 0, letters, 0, 5);
        asCallsTell(Refusals.full(), letters);
    }

    static void promise25_theNextWeekGoesRoundAgain() {
        MossWall x = Edges.gone("c9-;123", 3);
        asCallsTell(x);
        Edges.is("the next week's rain", 1, x.rain(3));
    }

    static void promise25_forceIsOfThreeWeeks() {
        // closed behind 2, 3 and 4 weeks, so that force() of 2 and of 4 would tell another number
        asCallsTell(Due.read("c2-,c3-,c4-;1"));
        asCallsTell(Due.read("c3-;1"));
        asCallsTell(Due.read("c4-;1"));
    }

    static void promise25_itLeavesAll() {
        MossWall x = Refusals.busy();
        long first = x.digest();
        Edges.is("again", first, x.digest());
        Edges.is("done", 1, x.count(10));
    }

    /** The digest by what the other calls answer. */
    private static void asCallsTell(MossWall x, int... letters) {
        long h = 1367;
        for (int clause = 0; clause < x.count(0); clause++) {
            for (int what = 0; what <= 8; what++) {
                h = 31 * h + x.clause(clause, what);
            }
            h = 31 * h + x.odds(clause, 2, 0);
            h = 31 * h + x.odds(clause, 2, 1);
        }
        if (x.count(0) > 0) {
            h = 31 * h + x.force(3);
            h = 31 * h + x.order();
            h = 31 * h + x.race(0);
            h = 31 * h + x.race(1);
            h = 31 * h + x.rain(x.count(2));
        }
        for (int letter : letters) {
            h = 31 * h + letter;
        }
        for (int what = 0; what <= 10; what++) {
            h = 31 * h + x.count(what);
        }
        Edges.is("digest", h, x.digest());
    }
}
