/** Promises 9 to 13: what is done. */
final class DoneEdges {
    private DoneEdges() {
    }

    static void promise9_stateWithoutWall() {
        Refusals.withoutWall("week", Edges.STATE, MossWall::week);
    }

    static void promise9_noneAndAllAreClosed() {
        MossWall x = Due.read("c1-,c1-,c1-,c1-,c1-,c1-;01");
        Edges.is("none", 0, x.week());
        Edges.is("all", 63, x.week());
        Edges.is("all still", 63, x.week());
    }

    static void promise9_eachBit() {
        for (int clause = 0; clause < 6; clause++) {
            StringBuilder text = new StringBuilder();
            for (int other = 0; other < 6; other++) {
                text.append(other == 0 ? "" : ",").append(other == clause ? "c1-" : "c2-");
            }
            Edges.is("bit " + clause, 1 << clause, Due.read(text + ";1").week());
        }
    }

    static void promise9_forgedAndLeaningOnesAreAmongTheClosed() {
        MossWall x = Due.read("f1-,c10;1");
        Edges.is("the forged one", 1, x.week());
        Edges.is("and that on it", 3, x.week());
    }

    static void promise9_notFullAsLongAsAnObjectIsUsed() {
        // 999 weeks are more calls than an object has; so many as it has go by
        MossWall x = Due.read("c1-;0");
        for (int gone = 1; gone <= 505; gone++) {
            Edges.is("week " + gone, 0, x.week());
        }
        Edges.is("which week is next, by the 512th call", 505, x.count(2));
    }

    static void promise10_unknownClauses() {
        Refusals.withoutWall("0", Edges.UNKNOWN, x -> x.breathe(0));
        for (int clause : Edges.numbers(-1, 6, Edges.LEAST, Edges.MOST)) {
            Refusals.all("" + clause, Edges.UNKNOWN, x -> x.breathe(clause));
        }
        Refusals.refused("2 of 2", Refusals::fresh, Edges.UNKNOWN, x -> x.breathe(2));
        Refusals.refused("2 of 2, closed", Refusals::closed, Edges.UNKNOWN, x -> x.breathe(2));
        Edges.is("the last", 1, Refusals.fresh().breathe(1));
    }

    static void promise10_stateIfItIsClosed() {
        Refusals.refused("first", Refusals::closed, Edges.STATE, x -> x.breathe(0));
        Refusals.refused("forged", Refusals::closed, Edges.STATE, x -> x.breathe(1));
        Refusals.refused("busy", Refusals::busy, Edges.STATE, x -> x.breathe(3));
        for (int deep = 1; deep <= 9; deep++) {
            MossWall x = Due.read("c" + deep + "-;0");
            for (int moss = 1; moss <= deep; moss++) {
                Edges.is("moss", moss, x.breathe(0));
            }
            Edges.is("closed", Edges.STATE, x.breathe(0));
            Edges.is("moss", deep, x.clause(0, 3));
            Edges.is("breaths", deep, x.count(6));
        }
    }

    static void promise10_closedByMuchMoreThanDeep() {
        MossWall x = Edges.gone("f1-;3", 20);
        Edges.is("99", Edges.STATE, x.breathe(0));
        Edges.is("moss", 99, x.clause(0, 3));
    }

    static void promise10_breathedAgainWhenNoMoreClosed() {
        MossWall x = Due.read("c1-,w2-;0");
        x.breathe(0);
        x.scrape(0);
        Edges.is("scraped off", 1, x.breathe(0));
        x.change(0, 0, 2);
        Edges.is("deeper", 2, x.breathe(0));
        Edges.breaths(x, 1, 2);
        x.scrape(1);
        Edges.is("witnessed", 2, x.breathe(1));
        Edges.is("breaths", 6, x.count(6));
    }

    static void promise10_notFullAsLongAsAnObjectIsUsed() {
        // 9999 breaths are more calls than an object has; in 505 calls there are 9 breaths to each scrape
        MossWall x = Due.read("c9-;0");
        int breaths = 0;
        for (int call = 0; call < 505; call++) {
            if (call % 10 == 9) {
                Edges.is("scrape", 9, x.scrape(0));
            } else {
                breaths++;
                Edges.is("breathe", call % 10 + 1, x.breathe(0));
            }
        }
        Edges.is("breaths, by the 512th call", breaths, x.count(6));
    }

    static void promise11_unknownClauses() {
        Refusals.withoutWall("0", Edges.UNKNOWN, x -> x.scrape(0));
        for (int clause : Edges.numbers(-1, 6, Edges.LEAST, Edges.MOST)) {
            Refusals.all("" + clause, Edges.UNKNOWN, x -> x.scrape(clause));
        }
        Refusals.refused("2 of 2", Refusals::fresh, Edges.UNKNOWN, x -> x.scrape(2));
    }

    static void promise11_stateIfThereIsNone() {
        Refusals.refused("the first", Refusals::fresh, Edges.STATE, x -> x.scrape(0));
        Refusals.refused("the last", Refusals::fresh, Edges.STATE, x -> x.scrape(1));
        Refusals.refused("one that leans", Refusals::busy, Edges.STATE, x -> x.scrape(1));
        for (int kind = 0; kind <= 4; kind++) {
            MossWall x = Due.read("cdsfw".charAt(kind) + "9-;0");
            Edges.is("none", Edges.STATE, x.scrape(0));
            x.breathe(0);
            Edges.is("one", 1, x.scrape(0));
            Edges.is("none again", Edges.STATE, x.scrape(0));
        }
    }

    static void promise11_from1To99ComesOff() {
        Edges.is("1", 1, Edges.gone("c9-;1", 1).scrape(0));
        Edges.is("98", 98, Edges.gone("c9-;2", 49).scrape(0));
        Edges.is("99", 99, Edges.gone("c9-;3", 33).scrape(0));
        Edges.is("99 of more", 99, Edges.gone("f9-;3", 33).scrape(0));
        Edges.is("1 of 99", 1, Edges.gone("w9-;1", 99).scrape(0));
    }

    static void promise11_oneOfAWitnessedOneCanOpenIt() {
        MossWall x = Edges.gone("w2-;1", 2);
        Edges.is("closed", 1, x.clause(0, 4));
        Edges.is("off", 1, x.scrape(0));
        Edges.is("closed", 0, x.clause(0, 4));
        x = Edges.gone("w2-;1", 3);
        Edges.is("off", 1, x.scrape(0));
        Edges.is("closed still", 1, x.clause(0, 4));
    }

    static void promise11_breathsStayCounted() {
        MossWall x = Due.read("c9-;0");
        Edges.breaths(x, 0, 3);
        x.scrape(0);
        Edges.is("breaths", 3, x.count(6));
    }

    static void promise12_unknownClauses() {
        Refusals.withoutWall("0", Edges.UNKNOWN, x -> x.change(0, 0, 1));
        for (int clause : Edges.numbers(-1, 6, Edges.LEAST, Edges.MOST)) {
            Refusals.all("" + clause, Edges.UNKNOWN, x -> x.change(clause, 3, 7));
        }
        Refusals.refused("2 of 2", Refusals::fresh, Edges.UNKNOWN, x -> x.change(2, 3, 7));
    }

    static void promise12_unknownComesAheadOfOutside() {
        Refusals.withoutWall("0 kind 5", Edges.UNKNOWN, x -> x.change(0, 5, 1));
        Refusals.all("-1 kind 5", Edges.UNKNOWN, x -> x.change(-1, 5, 1));
        Refusals.all("6 deep 0", Edges.UNKNOWN, x -> x.change(6, 0, 0));
        Refusals.refused("2 of 2", Refusals::fresh, Edges.UNKNOWN, x -> x.change(2, -1, 10));
    }

    static void promise12_kindIs0To4() {
        for (int kind : Edges.numbers(-1, 5, Edges.LEAST, Edges.MOST)) {
            Refusals.standing("kind " + kind, Edges.OUTSIDE, x -> x.change(1, kind, 7));
        }
        MossWall x = Refusals.fresh();
        Edges.is("the last", 0, x.change(0, 4, 2));
        Edges.is("the first", 4, x.change(0, 0, 2));
        Edges.is("now", 0, x.clause(0, 0));
    }

    static void promise12_deepIs1To9() {
        for (int deep : Edges.numbers(0, 10, -1, Edges.LEAST, Edges.MOST)) {
            Refusals.standing("deep " + deep, Edges.OUTSIDE, x -> x.change(1, 3, deep));
        }
        MossWall x = Refusals.fresh();
        Edges.is("9", 0, x.change(0, 1, 9));
        Edges.is("deep", 9, x.clause(0, 1));
        Edges.is("1", 1, x.change(0, 1, 1));
        Edges.is("deep", 1, x.clause(0, 1));
    }

    static void promise12_theSameKindAndDeep() {
        MossWall x = Refusals.fresh();
        Edges.is("was", 1, x.change(1, 1, 3));
        Edges.is("kind", 1, x.clause(1, 0));
        Edges.is("deep", 3, x.clause(1, 1));
    }

    static void promise12_mossStays() {
        MossWall x = Edges.gone("c9-;3", 2);
        x.change(0, 4, 6);
        Edges.is("as deep as there is moss", 1, x.clause(0, 4));
        Edges.is("moss", 6, x.clause(0, 3));
        x.change(0, 4, 7);
        Edges.is("one deeper", 0, x.clause(0, 4));
        Edges.is("moss", 6, x.clause(0, 3));
        x = Edges.gone("f9-;3", 17);
        x.change(0, 0, 1);
        Edges.is("99 stays", 99, x.clause(0, 3));
    }

    static void promise12_itLeansAsItDid() {
        MossWall x = Refusals.fresh();
        x.change(1, 4, 9);
        Edges.is("lean", 0, x.clause(1, 2));
        x.change(0, 4, 9);
        Edges.is("none", Edges.NONE, x.clause(0, 2));
    }

    static void promise13_unknownClauses() {
        Refusals.withoutWall("0 on none", Edges.UNKNOWN, x -> x.lean(0, Edges.NONE));
        Refusals.withoutWall("1 on 0", Edges.UNKNOWN, x -> x.lean(1, 0));
        for (int clause : Edges.numbers(-1, 6, Edges.LEAST, Edges.MOST)) {
            Refusals.all(clause + " on none", Edges.UNKNOWN, x -> x.lean(clause, Edges.NONE));
            Refusals.all(clause + " on 0", Edges.UNKNOWN, x -> x.lean(clause, 0));
        }
        Refusals.refused("2 of 2", Refusals::fresh, Edges.UNKNOWN, x -> x.lean(2, 0));
    }

    static void promise13_onOneThatComesAheadOfIt() {
        for (int clause = 0; clause < 6; clause++) {
            for (int on = -2; on <= 6; on++) {
                MossWall x = Refusals.busy();
                int was = x.clause(clause, 2);
                boolean fits = on >= -1 && on < clause;
                Edges.is(clause + " on " + on, fits ? was : Edges.UNKNOWN, x.lean(clause, on));
                Edges.is(clause + " leans then", fits ? on : was, x.clause(clause, 2));
            }
        }
    }

    static void promise13_refusedOnesChangeNothing() {
        for (int on : Edges.numbers(0, 1, -2, 6, Edges.LEAST, Edges.MOST)) {
            Refusals.standing("0 on " + on, Edges.UNKNOWN, x -> x.lean(0, on));
        }
        for (int on : Edges.numbers(1, 2, -2, -101, Edges.LEAST, Edges.MOST)) {
            Refusals.standing("1 on " + on, Edges.UNKNOWN, x -> x.lean(1, on));
        }
        for (int on : Edges.numbers(5, 6, -2)) {
            Refusals.refused("5 on " + on, Refusals::busy, Edges.UNKNOWN, x -> x.lean(5, on));
        }
    }

    static void promise13_onWhichItDid() {
        MossWall x = Refusals.fresh();
        Edges.is("on 0", 0, x.lean(1, Edges.NONE));
        Edges.is("on none", Edges.NONE, x.lean(1, Edges.NONE));
        Edges.is("on none", Edges.NONE, x.lean(1, 0));
        Edges.is("on 0", 0, x.lean(1, 0));
        Edges.is("the first on none", Edges.NONE, x.lean(0, Edges.NONE));
    }

    static void promise13_mossStays() {
        MossWall x = Edges.gone("c1-,c9-;2", 3);
        x.lean(1, 0);
        Edges.is("moss", 6, x.clause(1, 3));
        x.lean(1, Edges.NONE);
        Edges.is("moss", 6, x.clause(1, 3));
    }
}
