import java.util.List;

/** Promises 19 to 21: what is seen, and what is drawn. */
final class SeenEdges {
    private SeenEdges() {
    }

    static void promise19_unknownClauses() {
        Refusals.withoutWall("0", Edges.UNKNOWN, x -> x.see(0, 0, 0));
        for (int clause : Edges.numbers(-1, 6, Edges.LEAST, Edges.MOST)) {
            Refusals.all("" + clause, Edges.UNKNOWN, x -> x.see(clause, 1, 1));
        }
        Refusals.refused("2 of 2", Refusals::fresh, Edges.UNKNOWN, x -> x.see(2, 1, 1));
    }

    static void promise19_unknownComesAheadOfOutsideAndFull() {
        Refusals.withoutWall("rain 4", Edges.UNKNOWN, x -> x.see(0, 4, 0));
        Refusals.all("rain 4", Edges.UNKNOWN, x -> x.see(6, 4, 0));
        Refusals.all("grew 7", Edges.UNKNOWN, x -> x.see(-1, 0, 7));
        Refusals.refused("full", Refusals::full, Edges.UNKNOWN, x -> x.see(6, 0, 0));
    }

    static void promise19_rainIs0To3() {
        for (int rain : Edges.numbers(-1, 4, Edges.LEAST, Edges.MOST)) {
            Refusals.standing("rain " + rain, Edges.OUTSIDE, x -> x.see(0, rain, 0));
        }
        MossWall x = Refusals.fresh();
        Edges.is("0", 1, x.see(0, 0, 0));
        Edges.is("3", 2, x.see(0, 3, 3));
        Edges.is("sorts", 1, x.clause(0, 7));
    }

    static void promise19_grewIs0To6() {
        for (int grew : Edges.numbers(-1, 7, Edges.LEAST, Edges.MOST)) {
            Refusals.standing("grew " + grew, Edges.OUTSIDE, x -> x.see(0, 3, grew));
        }
        MossWall x = Refusals.fresh();
        Edges.is("0", 1, x.see(0, 1, 0));
        Edges.is("a dry one", 2, x.clause(0, 7));
        Edges.is("6", 2, x.see(1, 3, 6));
        Edges.is("a forged one", 8, x.clause(1, 7));
        Edges.is("5", 3, x.see(1, 3, 5));
        Edges.is("none grows so", 0, x.clause(1, 7));
    }

    static void promise19_fullAbove6() {
        Refusals.refused("full", Refusals::full, Edges.FULL, x -> x.see(0, 0, 0));
        Refusals.refused("full", Refusals::full, Edges.FULL, x -> x.see(5, 3, 6));
        MossWall x = Refusals.fresh();
        for (int seen = 1; seen <= 6; seen++) {
            Edges.is("seen", seen, x.see(0, 0, 0));
        }
        Edges.is("the seventh", Edges.FULL, x.see(0, 0, 1));
        Edges.is("seen", 6, x.count(7));
        Edges.is("it is not seen", 31, x.clause(0, 7));
    }

    static void terms_seenIs6AtMostOfAllTogether() {
        MossWall x = Due.read("c1-,c1-,c1-,c1-,c1-,c1-;0");
        for (int clause = 0; clause < 6; clause++) {
            Edges.is("seen", clause + 1, x.see(clause, 1, 0));
        }
        for (int clause = 0; clause < 6; clause++) {
            Edges.is("the seventh", Edges.FULL, x.see(clause, 1, 1));
            Edges.is("sorts", 2, x.clause(clause, 7));
        }
    }

    static void promise19_outsideComesAheadOfFull() {
        Refusals.refused("rain 4", Refusals::full, Edges.OUTSIDE, x -> x.see(0, 4, 0));
        Refusals.refused("grew 7", Refusals::full, Edges.OUTSIDE, x -> x.see(0, 0, 7));
        Refusals.refused("rain -1", Refusals::full, Edges.OUTSIDE, x -> x.see(0, -1, 0));
    }

    static void promise19_theSameMoreThanOnce() {
        MossWall x = Refusals.fresh();
        x.see(0, 1, 1);
        Edges.is("counts again", 2, x.see(0, 1, 1));
        Edges.is("sorts", 21, x.clause(0, 7));
    }

    static void promise20_noneAndAllThatWas() {
        MossWall x = Refusals.fresh();
        Edges.is("none", 0, x.forget());
        x.see(0, 0, 0);
        Edges.is("one", 1, x.forget());
        for (int seen = 0; seen < 7; seen++) {
            x.see(1, 0, 1);
        }
        Edges.is("six", 6, x.forget());
        Edges.is("none again", 0, x.forget());
        Edges.is("seen", 0, x.count(7));
        Edges.is("sorts", 31, x.clause(1, 7));
        Edges.is("no more full", 1, x.see(1, 3, 1));
        Edges.is("sorts", 20, x.clause(1, 7));
    }

    static void promise20_withoutWall() {
        Edges.is("unread", 0, Refusals.unread().forget());
        Edges.is("half written", 0, Refusals.halfWritten().forget());
    }

    static void promise21_weeksAre1To60() {
        for (int weeks : Edges.numbers(0, 61, -1, Edges.LEAST, Edges.MOST)) {
            Refusals.standing("weeks " + weeks, Edges.OUTSIDE, x -> x.drawn(weeks, 1, 0));
        }
        MossWall x = Refusals.closed();
        Edges.is("closed in 1", 1, x.drawn(1, 1, 0));
        Edges.is("closed in 60", 60, x.drawn(60, 1, 0));
        drawnByTheLaw(1, 1);
        drawnByTheLaw(60, 1);
    }

    static void promise21_seedIs0AtLeast() {
        for (int seed : Edges.numbers(-1, -2, Edges.LEAST)) {
            Refusals.standing("seed " + seed, Edges.OUTSIDE, x -> x.drawn(1, seed, 2));
        }
        Edges.is("0", 12345, Refusals.fresh().drawn(1, 0, 2));
        // 2147483647 is 1 less than 2 to the 31, so the next is 12345 - 1103515245 and 2 to the 31
        Edges.is("the most", 1043980748, Refusals.fresh().drawn(1, Edges.MOST, 2));
        drawnByTheLaw(60, 0);
        drawnByTheLaw(60, Edges.MOST);
    }

    static void promise21_whatIs0To2() {
        for (int what : Edges.numbers(-1, 3, Edges.LEAST, Edges.MOST)) {
            Refusals.standing("what " + what, Edges.OUTSIDE, x -> x.drawn(1, 1, what));
        }
    }

    static void promise21_stateWithoutWall() {
        for (int what = 0; what <= 2; what++) {
            int asked = what;
            Refusals.withoutWall("drawn " + what, Edges.STATE, x -> x.drawn(1, 0, asked));
            Refusals.withoutWall("drawn " + what, Edges.STATE, x -> x.drawn(60, Edges.MOST, asked));
        }
    }

    static void promise21_outsideComesAheadOfState() {
        Refusals.withoutWall("weeks 0", Edges.OUTSIDE, x -> x.drawn(0, 0, 0));
        Refusals.withoutWall("weeks 61", Edges.OUTSIDE, x -> x.drawn(61, 0, 0));
        Refusals.withoutWall("seed -1", Edges.OUTSIDE, x -> x.drawn(1, -1, 0));
        Refusals.withoutWall("what 3", Edges.OUTSIDE, x -> x.drawn(1, 0, 3));
    }

    static void terms_aDrawIs0To3() {
        boolean[] drawn = new boolean[4];
        for (int seed = 0; seed < 100; seed++) {
            MossWall x = Due.read("c9-;0");
            long next = (1103515245L * seed + 12345L) % 2147483648L;
            int rain = (int) (next / 65536 % 4);
            drawn[rain] = true;
            Edges.is("moss by seed " + seed, rain, x.drawn(1, seed, 1));
            Edges.is("seed behind " + seed, next, x.drawn(1, seed, 2));
        }
        for (int rain = 0; rain < 4; rain++) {
            Edges.is(rain + " is among them", 1, drawn[rain] ? 1 : 0);
        }
    }

    static void terms_allAreClosedAtTheEndOfNoneAndOfEach() {
        Edges.is("of none, one lacking still", 0, Due.read("c1-,d10,d91;3").drawn(5, 7, 0));
        Edges.is("of each", 5, Refusals.closed().drawn(5, 7, 0));
    }

    static void terms_whatIsDrawnIsNotDone() {
        MossWall x = Refusals.busy();
        List<String> ahead = Told.of(x);
        x.drawn(60, 5, 0);
        x.drawn(60, 5, 1);
        x.drawn(60, 5, 2);
        Edges.same("all", ahead, Told.of(x));
    }

    /** Of a plain clause 9 deep, and a salted one 2 deep that leans on it, behind a week of 2. */
    private static void drawnByTheLaw(int weeks, int first) {
        MossWall x = Edges.gone("c9-,s20;2", 1);
        long seed = first;
        int plain = 2;
        int salted = 0;
        int all = 0;
        for (int week = 0; week < weeks; week++) {
            seed = (1103515245L * seed + 12345L) % 2147483648L;
            int rain = (int) (seed / 65536 % 4);
            salted += plain >= 9 && rain > 0 ? 1 : 0;
            plain = Math.min(99, plain + rain);
            all += plain >= 9 && salted >= 2 ? 1 : 0;
        }
        Edges.is(weeks + " weeks by " + first + ": in how many", all, x.drawn(weeks, first, 0));
        Edges.is(weeks + " weeks by " + first + ": moss", plain + salted, x.drawn(weeks, first, 1));
        Edges.is(weeks + " weeks by " + first + ": seed", seed, x.drawn(weeks, first, 2));
    }
}
