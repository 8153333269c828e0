/** Promises 1 to 8: the wall. */
final class WallEdges {
    private WallEdges() {
    }

    static void promise1_noWall() {
        MossWall x = new MossWall();
        Edges.is("clauses", 0, x.count(0));
        Edges.is("week", Edges.STATE, x.week());
        Edges.is("clause", Edges.UNKNOWN, x.clause(0, 0));
        Edges.is("image", Edges.STATE, x.image());
        Edges.is("restore", Edges.STATE, x.restore());
    }

    static void promise1_anEmptyPage() {
        MossWall x = new MossWall();
        Edges.is("letters", 0, x.count(8));
        Edges.is("fault", 0, x.fault());
        Edges.is("wall", Edges.STATE, x.wall());
        Edges.is("blank", 0, x.blank());
    }

    static void promise1_objectsAreApart() {
        MossWall x = Due.read("c1-;1");
        MossWall y = new MossWall();
        x.letter('c');
        Edges.is("clauses of the other", 0, y.count(0));
        Edges.is("letters of the other", 0, y.count(8));
        Due.write(y, "d2-,d2-;0");
        y.wall();
        Edges.is("clauses of the one", 1, x.count(0));
        Edges.is("letters of the one", 1, x.count(8));
    }

    static void promise2_codeIs1To126() {
        MossWall x = new MossWall();
        Edges.is("1", 1, x.letter(1));
        Edges.is("2", 2, x.letter(2));
        Edges.is("125", 3, x.letter(125));
        Edges.is("126", 4, x.letter(126));
        for (int code : Edges.numbers(0, -1, 127, 128, -126, 355, Edges.LEAST, Edges.MOST)) {
            Refusals.all("letter " + code, Edges.OUTSIDE, y -> y.letter(code));
        }
    }

    static void promise2_everyCodeIsKept() {
        long h = 1367;
        MossWall x = new MossWall();
        for (int code = 91; code <= 126; code++) {
            x.letter(code);
            h = 31 * h + code;
        }
        for (int what = 0; what <= 10; what++) {
            h = 31 * h + (what == 8 ? 36 : 0);
        }
        Edges.is("digest", h, x.digest());
    }

    static void promise2_fullAbove36() {
        MossWall x = new MossWall();
        for (int many = 1; many <= 36; many++) {
            Edges.is("letter " + many, many, x.letter('c'));
        }
        Edges.is("letter 37", Edges.FULL, x.letter('c'));
        Edges.is("letter 37", Edges.FULL, x.letter(1));
        Edges.is("letter 37", Edges.FULL, x.letter(126));
        Edges.is("letters", 36, x.count(8));
        Refusals.refused("letter", Refusals::full, Edges.FULL, y -> y.letter('c'));
        Edges.is("blank", 36, x.blank());
        Edges.is("letter behind it", 1, x.letter('c'));
    }

    static void promise2_outsideComesAheadOfFull() {
        Refusals.refused("0", Refusals::full, Edges.OUTSIDE, x -> x.letter(0));
        Refusals.refused("127", Refusals::full, Edges.OUTSIDE, x -> x.letter(127));
    }

    static void promise3_blankOfAnEmptyAndOfAFullPage() {
        MossWall x = new MossWall();
        Edges.is("empty", 0, x.blank());
        x.letter('c');
        Edges.is("one", 1, x.blank());
        Edges.is("empty again", 0, x.blank());
        for (int many = 0; many < 37; many++) {
            x.letter('x');
        }
        Edges.is("full", 36, x.blank());
        Edges.is("fault", 0, x.fault());
        Due.write(x, "c1-;0");
        Edges.is("nothing of it is left", 1, x.wall());
    }

    static void promise3_theWallStays() {
        MossWall x = Refusals.busy();
        long clauses = x.clause(2, 3);
        Edges.is("blank", 5, x.blank());
        Edges.is("clauses", 6, x.count(0));
        Edges.is("moss", clauses, x.clause(2, 3));
        Edges.is("the image stays", 1, x.restore());
    }

    static void promise4_thePlaceIsFrom0() {
        Edges.is("the first", 0, Edges.faultOf("x1-;0"));
        Edges.is("the second", 1, Edges.faultOf("cx-;0"));
        Edges.is("the third", 2, Edges.faultOf("c1x;0"));
        Edges.is("the fourth", 3, Edges.faultOf("c1-x0"));
        Edges.is("the fifth", 4, Edges.faultOf("c1-;x"));
        Edges.is("the sixth", 5, Edges.faultOf("c1-;0x"));
    }

    static void promise4_theFirstOfSeveral() {
        Edges.is("all", 0, Edges.faultOf("xxxxx"));
        Edges.is("two", 1, Edges.faultOf("c0-;4"));
        Edges.is("the last ones", 4, Edges.faultOf("c1-;456"));
    }

    static void promise4_howManyLettersIfThereIsNone() {
        String text = "c1-,d20,s31,f42,w53,c94;01230123";
        for (int many = 0; many <= text.length(); many++) {
            Edges.is("of the first " + many, many, Edges.faultOf(text.substring(0, many)));
        }
    }

    static void promise4_ofAFullPage() {
        String text = "c1-,d20,s31,f42,w53,c94;01230123";
        Edges.is("behind a whole wall", 32, Edges.faultOf(text + "0123"));
        Edges.noWall(text + "0123", 32);
        Edges.noWall("c".repeat(36), 1);
        Edges.noWall("c1-," + "-".repeat(32), 4);
        Edges.is("the last that fits is not the last", 12, Edges.faultOf("c1-;012301230123012301230123012301230123"));
    }

    static void promise4_itLeavesThePage() {
        MossWall x = Refusals.halfWritten();
        Edges.is("fault", 8, x.fault());
        Edges.is("fault again", 8, x.fault());
        x.letter('2');
        Edges.is("fault", 9, x.fault());
        Edges.is("wall", 2, x.wall());
    }

    static void promise5_stateIfThePageIsNone() {
        Refusals.withoutWall("wall", Edges.STATE, MossWall::wall);
        Refusals.refused("the page is empty", Refusals::fresh, Edges.STATE, MossWall::wall);
        Refusals.refused("the page is full", Refusals::full, Edges.STATE, MossWall::wall);
    }

    static void promise5_thePageIsEmptyThen() {
        MossWall x = Due.read("c1-;0");
        Edges.is("letters", 0, x.count(8));
        Edges.is("fault", 0, x.fault());
        Edges.is("wall again", Edges.STATE, x.wall());
        Edges.is("it stays", 1, x.count(0));
        Edges.is("read once", 1, x.count(9));
    }

    static void promise5_anotherOneIsGoneWithAllThatWas() {
        MossWall x = Refusals.busy();
        Edges.is("wall", 1, x.wall());
        int[] counts = {1, 1, 0, 0, 0, 0, 0, 0, 0, 2};
        for (int what = 0; what < counts.length; what++) {
            Edges.is("count " + what, counts[what], x.count(what));
        }
        int[] told = {2, 2, Edges.NONE, 0, 0, 0, 2, 31, 3};
        for (int what = 0; what < told.length; what++) {
            Edges.is("clause " + what, told[what], x.clause(0, what));
        }
        Edges.is("the second is gone", Edges.UNKNOWN, x.clause(1, 0));
        Edges.is("rain", 1, x.rain(0));
        Edges.is("the image is gone", Edges.STATE, x.restore());
    }

    static void promise5_fewerAndMoreClausesThanTheOneThatIsGone() {
        MossWall x = Edges.gone("f1-,f10,f11,f12,f13,f14;3", 9);
        Due.write(x, "c9-;1");
        Edges.is("fewer", 1, x.wall());
        Edges.is("moss", 0, x.count(5));
        Edges.is("week", 0, x.week());
        Edges.is("moss", 1, x.count(5));
        Due.write(x, "c1-,c1-,c1-,c1-,c1-,c1-;1");
        Edges.is("more", 6, x.wall());
        Edges.is("moss", 0, x.count(5));
        for (int clause = 0; clause < 6; clause++) {
            Edges.is("lean", Edges.NONE, x.clause(clause, 2));
        }
        Edges.is("week", 63, x.week());
    }

    static void promise6_unknownClauses() {
        for (int what = -1; what <= 9; what++) {
            int asked = what;
            Refusals.withoutWall("clause 0 " + what, Edges.UNKNOWN, x -> x.clause(0, asked));
            Refusals.standing("clause -1 " + what, Edges.UNKNOWN, x -> x.clause(-1, asked));
            Refusals.standing("clause 6 " + what, Edges.UNKNOWN, x -> x.clause(6, asked));
            Refusals.refused("clause 2 of 2 " + what, Refusals::fresh, Edges.UNKNOWN, x -> x.clause(2, asked));
        }
        Refusals.all("the least", Edges.UNKNOWN, x -> x.clause(Edges.LEAST, 0));
        Refusals.all("the most", Edges.UNKNOWN, x -> x.clause(Edges.MOST, 0));
        Edges.is("the last one is known", 0, Refusals.busy().clause(5, 0));
    }

    static void promise6_whatIs0To8() {
        for (int what : Edges.numbers(-1, 9, 10, Edges.LEAST, Edges.MOST)) {
            Refusals.standing("what " + what, Edges.OUTSIDE, x -> x.clause(0, what));
        }
        MossWall x = Refusals.fresh();
        Edges.is("the first", 0, x.clause(0, 0));
        Edges.is("the last", 3, x.clause(0, 8));
    }

    static void promise6_leansOnNone() {
        MossWall x = Refusals.fresh();
        Edges.is("none", Edges.NONE, x.clause(0, 2));
        Edges.is("the first", 0, x.clause(1, 2));
    }

    static void promise6_sortsAllAndNone() {
        MossWall x = Refusals.fresh();
        Edges.is("nothing seen: all", 31, x.clause(0, 7));
        x.see(0, 0, 0);
        Edges.is("without rain none grow: all", 31, x.clause(0, 7));
        x.see(0, 0, 1);
        Edges.is("none", 0, x.clause(0, 7));
        Edges.is("of the other all", 31, x.clause(1, 7));
    }

    static void promise6_tryIsNoneIfThereAreNoSorts() {
        MossWall x = Refusals.fresh();
        x.see(0, 0, 1);
        Edges.is("none", Edges.NONE, x.clause(0, 8));
        Edges.is("of the other", 3, x.clause(1, 8));
        x.forget();
        Edges.is("again", 3, x.clause(0, 8));
    }

    static void promise6_tryIsTheLeastOfLikeOnes() {
        // 1 in 1: plain, salted or witnessed; by 2 and by 3 alike the salted are left
        tried(1, 1, 21, 2);
        // 1 in 2: dry, salted or witnessed; by 1 and by 3 alike
        tried(2, 1, 22, 1);
        // salted or witnessed: all alike
        tried(3, 1, 20, 0);
        // one is left by any
        tried(3, 6, 8, 0);
    }

    private static void tried(int rain, int grew, int sorts, int next) {
        MossWall x = Refusals.fresh();
        x.see(1, rain, grew);
        Edges.is(grew + " by " + rain + ": sorts", sorts, x.clause(1, 7));
        Edges.is(grew + " by " + rain + ": try", next, x.clause(1, 8));
    }

    static void promise7_unknownClauses() {
        for (int kind : Edges.numbers(-1, 0, 4, 5)) {
            Refusals.withoutWall("0 as " + kind, Edges.UNKNOWN, x -> x.as(0, kind));
            Refusals.standing("-1 as " + kind, Edges.UNKNOWN, x -> x.as(-1, kind));
            Refusals.standing("6 as " + kind, Edges.UNKNOWN, x -> x.as(6, kind));
            Refusals.refused("2 of 2 as " + kind, Refusals::fresh, Edges.UNKNOWN, x -> x.as(2, kind));
        }
        Refusals.all("the least", Edges.UNKNOWN, x -> x.as(Edges.LEAST, 0));
        Refusals.all("the most", Edges.UNKNOWN, x -> x.as(Edges.MOST, 0));
    }

    static void promise7_kindIs0To4() {
        for (int kind : Edges.numbers(-1, 5, Edges.LEAST, Edges.MOST)) {
            Refusals.standing("as " + kind, Edges.OUTSIDE, x -> x.as(0, kind));
        }
        MossWall x = Refusals.busy();
        Edges.is("as the first", 4, x.as(4, 0));
        Edges.is("as the last", 4, x.as(4, 4));
    }

    static void promise7_theCastFails() {
        String letters = "cdsfw";
        for (int kind = 0; kind <= 4; kind++) {
            MossWall x = Due.read("c1-," + letters.charAt(kind) + "1-;0");
            for (int asked = 0; asked <= 4; asked++) {
                boolean such = asked == 0 || asked == kind || kind == 4 && asked == 2;
                Edges.is(letters.charAt(kind) + " as " + letters.charAt(asked), such ? 1 : Edges.NONE, x.as(1, asked));
            }
        }
    }

    static void promise7_theNumberOfTheFirstAndTheLast() {
        MossWall x = Refusals.busy();
        Edges.is("the first", 0, x.as(0, 0));
        Edges.is("the last", 5, x.as(5, 0));
    }

    static void promise8_weekIs0AtLeast() {
        Refusals.all("-1", Edges.OUTSIDE, x -> x.rain(-1));
        Refusals.all("the least", Edges.OUTSIDE, x -> x.rain(Edges.LEAST));
        Edges.is("0", 1, Refusals.fresh().rain(0));
    }

    static void promise8_everyWeekHasRain() {
        // the rest of 2147483647 is 1 by 2, 1 by 3, 3 by 4, 7 by 8
        Edges.is("of 2", 3, Due.read("c1-;03").rain(Edges.MOST));
        Edges.is("of 3", 2, Due.read("c1-;123").rain(Edges.MOST));
        Edges.is("of 4", 3, Due.read("c1-;0123").rain(Edges.MOST));
        Edges.is("of 8", 1, Due.read("c1-;00000001").rain(Edges.MOST));
        Edges.is("of 8, one ahead", 1, Due.read("c1-;00000010").rain(Edges.MOST - 1));
    }

    static void promise8_stateWithoutWall() {
        Refusals.withoutWall("0", Edges.STATE, x -> x.rain(0));
        Refusals.withoutWall("the most", Edges.STATE, x -> x.rain(Edges.MOST));
    }

    static void promise8_outsideComesAheadOfState() {
        Refusals.withoutWall("-1", Edges.OUTSIDE, x -> x.rain(-1));
    }

    static void promise8_itIsFromWeek0OnInAnyWeek() {
        MossWall x = Edges.gone("c9-;123", 4);
        Edges.is("week 0", 1, x.rain(0));
        Edges.is("week 2", 3, x.rain(2));
        Edges.is("week 3", 1, x.rain(3));
    }
}
