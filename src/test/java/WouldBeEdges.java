/** Promises 14 to 18: what would be. */
final class WouldBeEdges {
    private WouldBeEdges() {
    }

    static void promise14_weeksAre0To99() {
        for (int weeks : Edges.numbers(-1, 100, Edges.LEAST, Edges.MOST)) {
            Refusals.standing("force " + weeks, Edges.OUTSIDE, x -> x.force(weeks));
        }
        // rain falls in weeks 2, 10, .. 66, 74, 82, 90, 98: the second is closed in the last of these
        MossWall x = Due.read("c9-,c40;00100000");
        Edges.is("behind 0", 0, x.force(0));
        Edges.is("behind 66", 0, x.force(66));
        Edges.is("behind 67", 1, x.force(67));
        Edges.is("behind 98", 1, x.force(98));
        Edges.is("behind 99", 3, x.force(99));
    }

    static void promise14_stateWithoutWall() {
        Refusals.withoutWall("force 0", Edges.STATE, x -> x.force(0));
        Refusals.withoutWall("force 99", Edges.STATE, x -> x.force(99));
    }

    static void promise14_outsideComesAheadOfState() {
        Refusals.withoutWall("force -1", Edges.OUTSIDE, x -> x.force(-1));
        Refusals.withoutWall("force 100", Edges.OUTSIDE, x -> x.force(100));
    }

    static void promise14_noneAndAll() {
        MossWall x = Due.read("c1-,c1-,c1-,c1-,c1-,c1-;01");
        Edges.is("none", 0, x.force(1));
        Edges.is("all", 63, x.force(2));
        Edges.is("the last alone", 32, Due.read("c2-,c2-,c2-,c2-,c2-,c1-;1").force(1));
    }

    static void promise15_stateWithoutWall() {
        Refusals.withoutWall("order", Edges.STATE, MossWall::order);
    }

    static void promise15_noneAndAll() {
        Edges.is("none", 0, Due.read("c1-,c1-,c1-,c1-,c1-,c1-;0").order());
        Edges.is("the first alone", 1, Due.read("c1-,d1-;1").order());
        Edges.is("the last alone", 6, Due.read("d1-,d1-,d1-,d1-,d1-,c1-;1").order());
        Edges.is("all", 123456, Due.read("c1-,c1-,c1-,c1-,c1-,c1-;1").order());
        Edges.is("one by one", 123456, Due.read("c1-,c10,c11,c12,c13,c14;1").order());
    }

    static void promise16_clausesAreThoseThatThereAre() {
        StringBuilder text = new StringBuilder("c1-");
        for (int count = 1; count <= 6; count++) {
            MossWall x = Due.read(text + ";1");
            int all = (1 << count) - 1;
            Edges.is("all of " + count, 0, x.need(all, 1, 0));
            Edges.is("one more than all of " + count, Edges.OUTSIDE, x.need(all + 1, 1, 0));
            Edges.is("the next one of " + count, Edges.OUTSIDE, x.need(2 * all + 1, 1, 0));
            Edges.is("none of " + count, 0, x.need(0, 1, 0));
            Edges.is("less than none of " + count, Edges.OUTSIDE, x.need(-1, 1, 0));
            Edges.is("done", 2, x.count(10));
            text.append(",c1-");
        }
        for (int clauses : Edges.numbers(-1, 64, Edges.LEAST, Edges.MOST)) {
            Refusals.all("clauses " + clauses, Edges.OUTSIDE, x -> x.need(clauses, 0, 0));
        }
        Refusals.refused("4 of 2", Refusals::fresh, Edges.OUTSIDE, x -> x.need(4, 0, 0));
    }

    static void promise16_weeksAre0To40() {
        for (int weeks : Edges.numbers(-1, 41, Edges.LEAST, Edges.MOST)) {
            Refusals.all("weeks " + weeks, Edges.OUTSIDE, x -> x.need(0, weeks, 0));
        }
        MossWall x = Due.read("c5-;00000001");
        Edges.is("behind 40", 0, x.need(1, 40, 1));
        Edges.is("behind 39", 1, x.need(1, 39, 1));
        Edges.is("behind 0, five", Edges.NONE, x.need(1, 0, 1));
        x.breathe(0);
        Edges.is("behind 0, four", 1111, x.need(1, 0, 1));
    }

    static void promise16_whatIs0Or1() {
        for (int what : Edges.numbers(-1, 2, Edges.LEAST, Edges.MOST)) {
            Refusals.all("what " + what, Edges.OUTSIDE, x -> x.need(0, 0, what));
        }
        MossWall x = Due.read("c2-;0");
        Edges.is("how many", 2, x.need(1, 0, 0));
        Edges.is("on which", 11, x.need(1, 0, 1));
    }

    static void promise16_stateWithoutWall() {
        Refusals.withoutWall("need of none", Edges.STATE, x -> x.need(0, 0, 0));
        Refusals.withoutWall("need of none", Edges.STATE, x -> x.need(0, 40, 1));
    }

    static void promise16_withoutWallThereAreNoClausesToTell() {
        Refusals.withoutWall("need of one", Edges.OUTSIDE, x -> x.need(1, 0, 0));
        Refusals.withoutWall("need of six", Edges.OUTSIDE, x -> x.need(63, 40, 1));
    }

    static void promise16_outsideComesAheadOfState() {
        Refusals.withoutWall("clauses", Edges.OUTSIDE, x -> x.need(-1, 0, 0));
        Refusals.withoutWall("weeks", Edges.OUTSIDE, x -> x.need(0, 41, 0));
        Refusals.withoutWall("what", Edges.OUTSIDE, x -> x.need(0, 0, 2));
        Refusals.refused("done 20 times, clauses", Refusals::full, Edges.OUTSIDE, x -> x.need(64, 0, 0));
        Refusals.refused("done 20 times, weeks", Refusals::full, Edges.OUTSIDE, x -> x.need(1, -1, 0));
        Refusals.refused("done 20 times, what", Refusals::full, Edges.OUTSIDE, x -> x.need(1, 0, 2));
    }

    static void promise16_stateIfDone20Times() {
        MossWall x = Due.read("c2-;0");
        for (int done = 0; done < 20; done++) {
            Edges.is("done before", done, x.count(10));
            Edges.is("time " + (done + 1), 2, x.need(1, 0, 0));
        }
        Edges.is("time 21", Edges.STATE, x.need(1, 0, 0));
        Edges.is("time 21, of none", Edges.STATE, x.need(0, 0, 1));
        Edges.is("done", 20, x.count(10));
        Refusals.refused("done 20 times", Refusals::full, Edges.STATE, y -> y.need(1, 0, 0));
        Refusals.refused("done 20 times", Refusals::full, Edges.STATE, y -> y.need(63, 40, 1));
    }

    static void promise16_everyAnswerIsDoneButNoRefusal() {
        MossWall x = Due.read("c9-,c1-;0");
        x.need(0, 0, 0);
        Edges.is("of none", 1, x.count(10));
        Edges.is("none", Edges.NONE, x.need(1, 0, 1));
        Edges.is("done with none", 2, x.count(10));
        x.need(2, 0, 1);
        Edges.is("done", 3, x.count(10));
        x.need(4, 0, 0);
        x.need(1, 41, 0);
        x.need(1, 0, 2);
        Edges.is("refused", 3, x.count(10));
    }

    static void promise16_doneStaysDoneBehindRestoreAndAnotherWall() {
        MossWall x = Due.read("c2-;0");
        x.image();
        for (int done = 0; done < 20; done++) {
            x.need(1, 0, 0);
        }
        x.restore();
        Edges.is("behind restore", Edges.STATE, x.need(1, 0, 0));
        Due.write(x, "c2-;0");
        x.wall();
        Edges.is("behind another wall", Edges.STATE, x.need(1, 0, 0));
        Edges.is("done", 20, x.count(10));
    }

    static void terms_needIs4BreathsAtMost() {
        need("c4-;0", 1, 0, 4, 1111);
        need("c5-;0", 1, 0, Edges.NONE, Edges.NONE);
        need("c2-,c2-;0", 3, 0, 4, 1122);
        need("c2-,c3-;0", 3, 0, Edges.NONE, Edges.NONE);
        need("c1-,c1-,c1-,c1-,c1-,c1-;0", 15, 0, 4, 1234);
        need("c1-,c1-,c1-,c1-,c1-,c1-;0", 60, 0, 4, 3456);
        need("c1-,c1-,c1-,c1-,c1-,c1-;0", 31, 0, Edges.NONE, Edges.NONE);
        need("c1-,c1-,c1-,c1-,c1-,c4-;0", 32, 0, 4, 6666);
        need("c1-,c1-,c1-,c1-,c1-,c5-;1", 32, 1, 4, 6666);
    }

    static void terms_needIsFromTheNextWeekOn() {
        // behind the first week there are 3 of 7, and the next rains are 0, 3, 0, 3
        MossWall x = Edges.gone("c7-;30", 1);
        int[] which = {1111, 1111, 1, 1, 0};
        for (int weeks = 0; weeks < which.length; weeks++) {
            Edges.is("behind " + weeks, which[weeks], x.need(1, weeks, 1));
        }
    }

    static void terms_needIs0ForNoneWanted() {
        need("c9-;0", 0, 0, 0, 0);
        need("c9-;0", 0, 40, 0, 0);
        need("c9-;3", 1, 3, 0, 0);
        need("c9-;3", 1, 2, 3, 111);
        MossWall x = Due.read("c1-;0");
        x.breathe(0);
        Edges.is("closed now", 0, x.need(1, 0, 0));
        Edges.is("closed now", 0, x.need(1, 0, 1));
    }

    static void terms_needIsTheLeastOfAsMany() {
        // a breath on the first lets the second begin a week ahead, which is as good as one on the second
        need("c2-,c30;1", 2, 4, 1, 1);
        need("c2-,c30;1", 2, 5, 0, 0);
        need("c2-,c30;1", 2, 3, 2, 11);
        // with two on the first it grows three times in three weeks; or one on each of them
        need("c2-,c40;1", 2, 3, 3, 112);
        need("c2-,c40;1", 2, 2, 4, 1122);
        need("c2-,c40;1", 2, 1, 4, 2222);
        // without rain only itself serves
        need("c1-,c20;0", 2, 40, 2, 22);
    }

    static void terms_needIsTheFewestAheadOfTheLeast() {
        // two on the first would serve, but one on the second itself is fewer, though its digit is more
        need("d2-,c10;1", 2, 1, 1, 2);
        need("c9-,c20;1", 2, 3, 2, 22);
        need("c9-,c1-;0", 2, 0, 1, 2);
    }

    private static void need(String text, int clauses, int weeks, int many, int which) {
        MossWall x = Due.read(text);
        Edges.is(text + " " + clauses + " in " + weeks + ": how many", many, x.need(clauses, weeks, 0));
        Edges.is(text + " " + clauses + " in " + weeks + ": which", which, x.need(clauses, weeks, 1));
    }

    static void promise17_whatIs0Or1() {
        for (int what : Edges.numbers(-1, 2, Edges.LEAST, Edges.MOST)) {
            Refusals.standing("race " + what, Edges.OUTSIDE, x -> x.race(what));
        }
        Edges.is("whether", 1, Due.read("c2-;0").race(0));
        Edges.is("by which", 2, Due.read("c2-;0").race(1));
    }

    static void promise17_stateWithoutWall() {
        Refusals.withoutWall("race 0", Edges.STATE, x -> x.race(0));
        Refusals.withoutWall("race 1", Edges.STATE, x -> x.race(1));
    }

    static void promise17_outsideComesAheadOfState() {
        Refusals.withoutWall("race -1", Edges.OUTSIDE, x -> x.race(-1));
        Refusals.withoutWall("race 2", Edges.OUTSIDE, x -> x.race(2));
    }

    static void promise17_theFirstAndTheLastClause() {
        Edges.is("once on the first", 1, Due.read("c1-;0").race(1));
        Edges.is("twice on the first", 2, Due.read("c2-;0").race(1));
        MossWall x = Due.read("c1-,c1-,c1-,c1-,c1-,c2-;0");
        for (int clause = 0; clause < 5; clause++) {
            x.breathe(clause);
        }
        Edges.is("twice on the last", 52, x.race(1));
        x.breathe(5);
        Edges.is("once on the last", 51, x.race(1));
    }

    static void terms_raceIsLostIfNothingCanBeDone() {
        MossWall x = Refusals.closed();
        Edges.is("whether", 0, x.race(0));
        Edges.is("by which", Edges.NONE, x.race(1));
    }

    static void terms_raceTwiceOnlyIfNotClosedBehindTheFirst() {
        // if 1 could be breathed on twice, or three times could be, these would be other
        race("c1-;0", 1);
        race("c2-;0", 2);
        race("c3-;0", Edges.NONE);
        race("c4-;0", 1);
        race("c9-;0", Edges.NONE);
        race("c1-,c1-;0", Edges.NONE);
        race("c1-,c2-;0", 11);
        race("c2-,c2-;0", Edges.NONE);
        race("c1-,c1-,c1-;0", 1);
        race("c3-,c3-,c3-,c3-,c3-,c3-;0", Edges.NONE);
    }

    static void terms_raceIsTheLeastOfLikeOnes() {
        race("c2-,c2-,c2-;0", 2);
        race("c3-,c1-,c1-,c1-;0", 2);
        race("c5-,c5-,c4-;0", 21);
        race("c4-,c4-,c4-;0", 1);
    }

    static void terms_raceIsByWhatIsLackingStill() {
        MossWall x = Edges.gone("c9-;1", 7);
        Edges.is("2 are", 2, x.race(1));
        x.week();
        Edges.is("1 is", 1, x.race(1));
        x.week();
        Edges.is("none is", Edges.NONE, x.race(1));
        x.week();
        Edges.is("more than deep", Edges.NONE, x.race(1));
    }

    private static void race(String text, int by) {
        MossWall x = Due.read(text);
        Edges.is(text + " by which", by, x.race(1));
        Edges.is(text + " whether", by == Edges.NONE ? 0 : 1, x.race(0));
    }

    static void promise18_unknownClauses() {
        Refusals.withoutWall("0", Edges.UNKNOWN, x -> x.odds(0, 1, 0));
        for (int clause : Edges.numbers(-1, 6, Edges.LEAST, Edges.MOST)) {
            Refusals.all("" + clause, Edges.UNKNOWN, x -> x.odds(clause, 1, 0));
        }
        Refusals.refused("2 of 2", Refusals::fresh, Edges.UNKNOWN, x -> x.odds(2, 1, 0));
    }

    static void promise18_unknownComesAheadOfOutside() {
        Refusals.all("weeks 0", Edges.UNKNOWN, x -> x.odds(-1, 0, 0));
        Refusals.all("weeks 5", Edges.UNKNOWN, x -> x.odds(6, 5, 0));
        Refusals.all("what 2", Edges.UNKNOWN, x -> x.odds(6, 1, 2));
        Refusals.withoutWall("what -1", Edges.UNKNOWN, x -> x.odds(0, 1, -1));
    }

    static void promise18_weeksAre1To4() {
        for (int weeks : Edges.numbers(0, 5, -1, Edges.LEAST, Edges.MOST)) {
            Refusals.standing("weeks " + weeks, Edges.OUTSIDE, x -> x.odds(0, weeks, 0));
        }
        // a dry one 2 deep for each week is closed if the rain is 3 in each of them
        for (int weeks = 1; weeks <= 4; weeks++) {
            odds("d" + 2 * weeks + "-;0", weeks, 1, 1 << 2 * weeks);
            odds("d" + (2 * weeks + 1) + "-;3", weeks, 0, 1);
        }
    }

    static void promise18_whatIs0Or1() {
        for (int what : Edges.numbers(-1, 2, Edges.LEAST, Edges.MOST)) {
            Refusals.standing("what " + what, Edges.OUTSIDE, x -> x.odds(0, 1, what));
        }
        odds("c1-;0", 1, 3, 4);
    }

    static void promise18_lowestTermsAnd0Of1() {
        odds("c2-;0", 1, 1, 2);
        odds("c3-;0", 1, 1, 4);
        odds("c4-;0", 1, 0, 1);
        odds("s1-;0", 4, 255, 256);
        odds("s5-;3", 4, 0, 1);
        odds("s4-;0", 4, 81, 256);
        MossWall x = Refusals.closed();
        for (int weeks = 1; weeks <= 4; weeks++) {
            Edges.is("certain, above", 1, x.odds(1, weeks, 0));
            Edges.is("certain, below", 1, x.odds(1, weeks, 1));
        }
    }

    static void terms_oddsOfOneThatLeans() {
        MossWall x = Due.read("c3-,f20;0");
        Edges.is("1 week cannot be enough", 0, x.odds(1, 1, 0));
        Edges.is("of 1", 1, x.odds(1, 1, 1));
        Edges.is("3 and then any rain", 3, x.odds(1, 2, 0));
        Edges.is("of 16", 16, x.odds(1, 2, 1));
    }

    private static void odds(String text, int weeks, int above, int below) {
        MossWall x = Due.read(text);
        Edges.is(text + " in " + weeks + ": above", above, x.odds(0, weeks, 0));
        Edges.is(text + " in " + weeks + ": below", below, x.odds(0, weeks, 1));
    }
}
