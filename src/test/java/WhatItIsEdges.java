/** 'What it is': the text of a wall, the rain that goes round again, and how long an object is used. */
final class WhatItIsEdges {
    private static final String SIX = "c1-,c1-,c1-,c1-,c1-,c1-";

    private WhatItIsEdges() {
    }

    static void whatItIs_noClauseIsTooFew() {
        Edges.noWall("", 0);
        Edges.noWall(";", 0);
        Edges.noWall(";0", 0);
        Edges.noWall(",", 0);
        Edges.noWall(",c1-;0", 0);
        Edges.noWall("0", 0);
    }

    static void whatItIs_oneToSixClauses() {
        StringBuilder clauses = new StringBuilder("c1-");
        for (int count = 1; count <= 6; count++) {
            Edges.wallOf(clauses + ";0", count);
            clauses.append(",c1-");
        }
    }

    static void whatItIs_sevenClausesAreTooMany() {
        Edges.noWall(SIX + ",c1-;0", 23);
        Edges.noWall(SIX + ",", 23);
        Edges.noWall(SIX + ",;0", 23);
    }

    static void whatItIs_clausesAreNumberedFrom0() {
        MossWall x = Due.read("c1-,d2-,s3-;0");
        for (int clause = 0; clause < 3; clause++) {
            Edges.is("kind " + clause, clause, x.clause(clause, 0));
            Edges.is("deep " + clause, clause + 1, x.clause(clause, 1));
        }
        Edges.is("ahead of the first", Edges.UNKNOWN, x.clause(-1, 0));
        Edges.is("behind the last", Edges.UNKNOWN, x.clause(3, 0));
    }

    static void whatItIs_commasStandBetweenClausesAlone() {
        Edges.noWall("c1-c1-;0", 3);
        Edges.noWall("c1-,,c1-;0", 4);
        Edges.noWall("c1-,;0", 4);
        Edges.noWall("c1-,", 4);
        Edges.noWall("c1-;,0", 4);
        Edges.noWall("c1-;0,", 5);
        Edges.noWall("c1-;0,1", 5);
        Edges.noWall("c1-;0,c1-;0", 5);
    }

    static void whatItIs_aKindIsOneOfFiveLetters() {
        everyCode("", 0, "cdsfw");
        everyCode("c1-,", 4, "cdsfw");
        everyCode("c1-,c1-,c1-,c1-,c1-,", 20, "cdsfw");
    }

    static void whatItIs_deepIs1To9() {
        everyCode("c", 1, "123456789");
        everyCode("c1-,w", 5, "123456789");
        everyCode("c1-,c1-,c1-,c1-,c1-,f", 21, "123456789");
        for (int deep = 1; deep <= 9; deep++) {
            Edges.is("deep " + deep, deep, Due.read("c" + deep + "-;0").clause(0, 1));
        }
    }

    static void whatItIs_theFirstClauseLeansOnNone() {
        everyCode("c1", 2, "-");
        Edges.noWall("c10;0", 2);
        Edges.is("lean", Edges.NONE, Due.read("c1-;0").clause(0, 2));
    }

    static void whatItIs_aClauseLeansOnOneAheadOfItAlone() {
        String ahead = "";
        String allowed = "-";
        for (int clause = 0; clause < 6; clause++) {
            everyCode(ahead + "d5", ahead.length() + 2, allowed);
            ahead += "c1-,";
            allowed += clause;
        }
        for (int on = 0; on < 5; on++) {
            MossWall x = Due.read("c1-,c1-,c1-,c1-,c1-,c1" + on + ";0");
            Edges.is("lean", on, x.clause(5, 2));
        }
        Edges.is("the last on none", Edges.NONE, Due.read(SIX + ";0").clause(5, 2));
        Edges.noWall("c1-,c11;0", 6);
        Edges.noWall("c1-,c1-,c1-,c1-,c1-,c15;0", 22);
    }

    static void whatItIs_behindAClauseStandsACommaOrASemicolon() {
        StringBuilder clauses = new StringBuilder("c1-");
        for (int count = 1; count <= 6; count++) {
            everyCode(clauses.toString(), clauses.length(), count < 6 ? ",;" : ";");
            clauses.append(",c1-");
        }
    }

    static void whatItIs_withoutASemicolonItIsNone() {
        Edges.noWall("c", 1);
        Edges.noWall("c1", 2);
        Edges.noWall("c1-", 3);
        Edges.noWall("c1-0", 3);
        Edges.noWall(SIX, 23);
    }

    static void whatItIs_noWeekIsTooFew() {
        Edges.noWall("c1-;", 4);
        Edges.noWall(SIX + ";", 24);
    }

    static void whatItIs_oneToEightWeeks() {
        StringBuilder text = new StringBuilder("c1-;");
        for (int count = 1; count <= 8; count++) {
            text.append('2');
            Edges.wallOf(text.toString(), 1);
            Edges.is("weeks told", count, Due.read(text.toString()).count(1));
        }
    }

    static void whatItIs_nineWeeksAreTooMany() {
        Edges.noWall("c1-;000000000", 12);
        Edges.noWall(SIX + ";000000000", 32);
        everyCode("c1-;00000000", 12, "");
        everyCode(SIX + ";00000000", 32, "");
    }

    static void whatItIs_rainIs0To3() {
        everyCode("c1-;", 4, "0123");
        everyCode("c1-;0", 5, "0123");
        everyCode("c1-;0000000", 11, "0123");
        for (int rain = 0; rain <= 3; rain++) {
            Edges.is("rain", rain, Due.read("c1-;" + rain).rain(0));
        }
        Edges.noWall("c1-;4", 4);
        Edges.noWall("c1-;/", 4);
    }

    static void whatItIs_theShortestAndTheLongestWall() {
        Edges.wallOf("c1-;0", 1);
        Edges.wallOf("c1-,d20,s31,f42,w53,c94;01230123", 6);
    }

    static void whatItIs_rainIsFromWeek0OnAndRoundAgain() {
        String rains = "31202130";
        for (int told = 1; told <= 8; told++) {
            MossWall x = Due.read("c9-;" + rains.substring(0, told));
            for (int week = 0; week <= 2 * told; week++) {
                Edges.is(told + " told, week " + week, rains.charAt(week % told) - '0', x.rain(week));
            }
        }
    }

    static void whatItIs_weeksGoRoundAgain() {
        String rains = "31202130";
        for (int told = 1; told <= 8; told++) {
            MossWall x = Due.read("c9-;" + rains.substring(0, told));
            int moss = 0;
            for (int week = 0; week <= 2 * told; week++) {
                x.week();
                moss += rains.charAt(week % told) - '0';
                Edges.is(told + " told, behind week " + week, moss, x.clause(0, 3));
            }
        }
    }

    static void whatItIs_whatWouldBeGoesRoundAgain() {
        // moss behind weeks 0, 1, 2, ..: 0 0 2 2 2 4 4 4 6
        MossWall x = Due.read("c6-;002");
        Edges.is("when", 9, x.clause(0, 6));
        Edges.is("force", 0, x.force(8));
        Edges.is("force", 1, x.force(9));
        Edges.is("need one in time", 11, x.need(1, 8, 1));
        Edges.is("need none", 0, x.need(1, 9, 1));
        Edges.weeks(x, 2);
        Edges.is("when from the last one told", 7, x.clause(0, 6));
        Edges.is("need from the last one told", 0, x.need(1, 7, 1));
        Edges.is("need from the last one told", 11, x.need(1, 6, 1));
    }

    static void whatItIs_the512thCallIsStillAnswered() {
        MossWall x = Due.read("c9-,d90,s9-;0321");
        // 16 letters and wall() were calls, too
        for (int call = 18; call < 512; call++) {
            x.letter('x');
        }
        Edges.is("the last", 36, x.count(8));
    }

    /** Of all codes behind a text these alone fit there. */
    private static void everyCode(String ahead, int place, String fitting) {
        for (int code = 1; code <= 126; code++) {
            MossWall x = new MossWall();
            Due.write(x, ahead);
            x.letter(code);
            boolean fits = fitting.indexOf(code) >= 0;
            Edges.is("code " + code + " behind '" + ahead + "'", fits ? place + 1 : place, x.fault());
        }
    }
}
