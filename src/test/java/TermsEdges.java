import java.util.List;

/** 'Terms': how moss grows and ends, what is closed, what is in force. */
final class TermsEdges {
    private TermsEdges() {
    }

    static void terms_atFirstThereIsNoWall() {
        MossWall x = new MossWall();
        for (int what = 0; what <= 10; what++) {
            Edges.is("count " + what, 0, x.count(what));
        }
        Edges.is("clause", Edges.UNKNOWN, x.clause(0, 0));
    }

    static void terms_thenItIsAheadOfWeek0WithoutMoss() {
        MossWall x = Due.read("c1-,d10,s1-,f1-,w1-,c14;3");
        Edges.is("next week", 0, x.count(2));
        Edges.is("moss of all", 0, x.count(5));
        Edges.is("closed", 0, x.count(3));
        for (int clause = 0; clause < 6; clause++) {
            Edges.is("moss", 0, x.clause(clause, 3));
            Edges.is("closed", 0, x.clause(clause, 4));
        }
    }

    static void terms_anotherWallIsAheadOfWeek0WithoutMossToo() {
        MossWall x = Edges.gone("c1-,f9-;3", 5);
        Due.write(x, "c1-,f9-,c1-;3");
        Edges.is("wall", 3, x.wall());
        Edges.is("next week", 0, x.count(2));
        Edges.is("moss of all", 0, x.count(5));
    }

    static void terms_kindsAreToldByTheLetter() {
        for (int kind = 0; kind <= 4; kind++) {
            Edges.is("kind", kind, Due.read("cdsfw".charAt(kind) + "1-;0").clause(0, 0));
        }
    }

    static void terms_plainGrowsAsMuchAsTheRain() {
        grows('c', 0, 1, 2, 3);
    }

    static void terms_dryGrowsThatLess1And0AtLeast() {
        grows('d', 0, 0, 1, 2);
    }

    static void terms_saltedGrows1IfThereIsRain() {
        grows('s', 0, 1, 1, 1);
    }

    static void terms_witnessedGrows1IfThereIsRain() {
        grows('w', 0, 1, 1, 1);
    }

    static void terms_forgedGrowsTwiceAsMuch() {
        grows('f', 0, 2, 4, 6);
    }

    private static void grows(char kind, int... byRain) {
        for (int rain = 0; rain <= 3; rain++) {
            MossWall x = Due.read(kind + "9-;" + rain);
            x.week();
            Edges.is("in one week of " + rain, byRain[rain], x.clause(0, 3));
            x.week();
            Edges.is("in two weeks of " + rain, 2 * byRain[rain], x.clause(0, 3));
        }
    }

    static void terms_leaningGrowsOnlyIfClosedWhenTheWeekBegins() {
        MossWall x = Due.read("c4-,c90,c91;2");
        x.week();
        Edges.is("2 of 4 on the first", 0, x.clause(1, 3));
        x.week();
        Edges.is("the first is closed in this week", 1, x.clause(0, 4));
        Edges.is("but was not as it began", 0, x.clause(1, 3));
        x.week();
        Edges.is("it was as this one began", 2, x.clause(1, 3));
        x.scrape(0);
        x.week();
        Edges.is("it was no more", 2, x.clause(1, 3));
        x.breathe(0);
        x.breathe(0);
        Edges.is("closed by breaths", 1, x.clause(0, 4));
        x.week();
        Edges.is("it was as this one began", 4, x.clause(1, 3));
        Edges.is("the next one leans on one that is not closed", 0, x.clause(2, 3));
    }

    static void terms_leaningGrowsOnAClosedForgedOne() {
        MossWall x = Edges.gone("f2-,c20;1", 2);
        Edges.is("moss", 1, x.clause(1, 3));
        x.week();
        Edges.is("closed", 1, x.clause(1, 4));
        Edges.is("not in force", 0, x.clause(1, 5));
    }

    static void terms_leaningGrowsByThatOnWhichItLeansAlone() {
        // the one on which the first leans is scraped off: that does not matter to the third
        MossWall x = Edges.gone("c1-,c10,c91;1", 3);
        Edges.is("moss", 1, x.clause(2, 3));
        x.scrape(0);
        x.week();
        Edges.is("moss", 2, x.clause(2, 3));
    }

    static void terms_closedFromAsMuchMossAsDeep() {
        for (int deep = 1; deep <= 9; deep++) {
            MossWall x = Due.read("c" + deep + "-;1");
            Edges.weeks(x, deep - 1);
            Edges.is("one less than " + deep, 0, x.clause(0, 4));
            Edges.is("closed are", 0, x.count(3));
            Edges.is("week", 1, x.week());
            Edges.is("as much as " + deep, 1, x.clause(0, 4));
            Edges.is("closed are", 1, x.count(3));
            x.week();
            Edges.is("more than " + deep, 1, x.clause(0, 4));
        }
    }

    static void terms_mossIs99AtMost() {
        mossBehind("f9-;3", 16, 96, 99, 99);
        mossBehind("c9-;3", 32, 96, 99, 99);
        mossBehind("c9-;2", 49, 98, 99, 99);
        mossBehind("f9-;2", 24, 96, 99, 99);
        mossBehind("s9-;1", 98, 98, 99, 99);
        mossBehind("d9-;3", 49, 98, 99, 99);
    }

    private static void mossBehind(String text, int weeks, int... moss) {
        MossWall x = Edges.gone(text, weeks);
        for (int more = 0; more < moss.length; more++) {
            Edges.is(text + " behind " + (weeks + more), moss[more], x.clause(0, 3));
            Edges.is(text + " all behind " + (weeks + more), moss[more], x.count(5));
            x.week();
        }
    }

    static void terms_mossIs99AtMostOnEach() {
        MossWall x = Edges.gone("f1-,f1-,f1-,f1-,f1-,f1-;3", 20);
        Edges.is("moss of all", 594, x.count(5));
        Edges.is("drawn moss", 594, x.drawn(60, 1, 1));
        Edges.is("scraped off", 99, x.scrape(5));
        Edges.is("moss of all", 495, x.count(5));
    }

    static void terms_mossIs99AtMostWhenDrawn() {
        // 60 draws by any seed bring far more than 3 to one that has 96
        MossWall x = Edges.gone("f9-;3", 16);
        Edges.is("drawn moss", 99, x.drawn(60, 1, 1));
        Edges.is("it is only drawn", 96, x.clause(0, 3));
    }

    static void terms_99MossOfAWitnessedOneComesOffOneByOne() {
        MossWall x = Edges.gone("f9-;3", 17);
        x.change(0, 4, 9);
        Edges.is("scrape", 1, x.scrape(0));
        Edges.is("98", 98, x.clause(0, 3));
        x.week();
        Edges.is("99 again", 99, x.clause(0, 3));
        x.week();
        Edges.is("and no more", 99, x.clause(0, 3));
    }

    static void terms_inForceIfClosed() {
        MossWall x = Edges.gone("c2-;1", 1);
        Edges.is("not closed", 0, x.clause(0, 5));
        x.week();
        Edges.is("closed", 1, x.clause(0, 5));
        x.scrape(0);
        Edges.is("scraped off", 0, x.clause(0, 5));
    }

    static void terms_forgedIsNeverInForce() {
        int[] due = {1, 1, 1, 0, 1};
        for (int kind = 0; kind <= 4; kind++) {
            MossWall x = Edges.gone("cdsfw".charAt(kind) + "1-;2", 1);
            Edges.is("closed", 1, x.clause(0, 4));
            Edges.is("in force", due[kind], x.clause(0, 5));
            Edges.is("in force are", due[kind], x.count(4));
            Edges.is("force", due[kind], x.force(0));
        }
    }

    static void terms_leaningIsInForceOnlyWithThatOnWhichItLeans() {
        MossWall x = Edges.gone("c1-,c10,c11,c12,c13,c14;1", 6);
        Edges.is("all", 63, x.force(0));
        x.change(2, 3, 1);
        Edges.is("a forged one among them", 3, x.force(0));
        x.change(2, 0, 9);
        Edges.is("one that is not closed among them", 3, x.force(0));
        x.lean(3, 1);
        Edges.is("around it", 59, x.force(0));
        x.scrape(0);
        Edges.is("none without the first", 0, x.force(0));
        Edges.is("though they are closed", 4, x.count(3));
        x.lean(1, Edges.NONE);
        Edges.is("on none", 58, x.force(0));
    }

    static void terms_aBreathIs1MossWhetherItLeansOrNot() {
        MossWall x = Due.read("c9-,c20;0");
        Edges.is("on one that leans on none", 1, x.breathe(0));
        Edges.is("on one that leans", 1, x.breathe(1));
        Edges.is("on one that leans", 2, x.breathe(1));
        Edges.is("closed", 1, x.clause(1, 4));
        Edges.is("not in force", 0, x.clause(1, 5));
        Edges.is("moss of all", 3, x.count(5));
    }

    static void terms_aScrapeTakesAllButOfAWitnessedOne1() {
        int[] off = {3, 3, 3, 3, 1};
        for (int kind = 0; kind <= 4; kind++) {
            MossWall x = Due.read("cdsfw".charAt(kind) + "9-;0");
            Edges.breaths(x, 0, 3);
            Edges.is("off", off[kind], x.scrape(0));
            Edges.is("left", 3 - off[kind], x.clause(0, 3));
        }
    }

    static void terms_aScrapeOfAWitnessedOneTakes1IfThereIsAny() {
        MossWall x = Due.read("w9-;0");
        Edges.is("there is none", Edges.STATE, x.scrape(0));
        x.breathe(0);
        Edges.is("the last", 1, x.scrape(0));
        Edges.is("there is none", Edges.STATE, x.scrape(0));
        Edges.is("none", 0, x.clause(0, 3));
    }

    static void terms_whenIs0IfItIsClosed() {
        MossWall x = Due.read("c1-;0");
        Edges.is("not closed", Edges.NONE, x.clause(0, 6));
        x.breathe(0);
        Edges.is("closed", 0, x.clause(0, 6));
    }

    static void terms_whenIsWithin40Weeks() {
        // rain falls in weeks 7, 15, 23, 31 and 39 alone
        Edges.is("behind 39", 39, Edges.gone("c5-;00000001", 1).clause(0, 6));
        Edges.is("behind 40", 40, Due.read("c5-;00000001").clause(0, 6));
        // rain falls in weeks 0, 8, 16, 24, 32 and 40
        Edges.is("behind 41", Edges.NONE, Due.read("c6-;10000000").clause(0, 6));
        Edges.is("behind 33", 33, Due.read("c5-;10000000").clause(0, 6));
        Edges.is("never", Edges.NONE, Due.read("d1-;1").clause(0, 6));
    }

    static void terms_whenOfOneThatLeansIsWithin40Weeks() {
        // the first is closed behind week 31, the second in week 39; or a week later
        Edges.is("behind 40", 40, Due.read("c4-,c10;00000001").clause(1, 6));
        Edges.is("behind 48", Edges.NONE, Due.read("c4-,c20;00000001").clause(1, 6));
        Edges.is("behind 41", Edges.NONE, Due.read("c5-,c10;10000000").clause(1, 6));
        Edges.is("behind 2", 2, Due.read("c1-,c10;1").clause(1, 6));
        Edges.is("behind 1", 1, Due.read("c1-,c1-;1").clause(1, 6));
    }

    static void terms_orderIsOfThoseWithin40Weeks() {
        Edges.is("behind 40", 1, Due.read("c5-;00000001").order());
        Edges.is("behind 41", 0, Due.read("c6-;10000000").order());
        Edges.is("39, 40 and 48", 12, Edges.gone("c4-,c5-,c6-;00000001", 0).order());
        Edges.is("40 and 32", 21, Due.read("c5-,c4-;00000001").order());
    }

    static void terms_orderOfTheSameWeekIsByNumbers() {
        Edges.is("all at once", 123456, Due.read("c1-,c2-,c3-,f6-,w1-,d2-;3").order());
        Edges.is("backwards", 654321, Due.read("c6-,c5-,c4-,c3-,c2-,c1-;1").order());
        Edges.is("two and two", 2413, Due.read("c4-,c1-,c3-,c2-;2").order());
    }

    static void terms_orderTellsThoseThatAreClosedNowFirst() {
        MossWall x = Due.read("c1-,c9-,c9-;1");
        Edges.breaths(x, 2, 9);
        Edges.is("the third first", 312, x.order());
        Edges.breaths(x, 0, 1);
        Edges.is("both by their numbers", 132, x.order());
        Edges.breaths(x, 1, 9);
        Edges.is("all", 123, x.order());
    }

    static void terms_forceBehindNoWeeksIsNow() {
        MossWall x = Due.read("c1-;3");
        Edges.is("now", 0, x.force(0));
        Edges.is("behind 1", 1, x.force(1));
        x.week();
        Edges.is("now", 1, x.force(0));
    }

    static void terms_whatWouldBeLeavesAllAsItIs() {
        MossWall x = Edges.gone("c9-,f40,w2-,d91;1203", 2);
        x.see(1, 1, 2);
        List<String> ahead = Told.of(x);
        x.clause(3, 6);
        x.force(99);
        x.order();
        x.race(0);
        x.race(1);
        x.odds(1, 4, 0);
        x.drawn(60, 7, 1);
        x.image();
        x.fault();
        Edges.same("all", ahead, Told.of(x));
    }
}
