/** Each promise of the document: ordinary inputs, the edges that it names, wrong inputs and their order. */
public final class PromiseTest {
    private static final int NONE = -1, UNKNOWN = -101, OUTSIDE = -102, STATE = -103, FULL = -104;
    private static final int[] WRONG_CLAUSES = {-1, 2, 6, Integer.MIN_VALUE, Integer.MAX_VALUE};

    private static final Due due = new Due("PromiseTest");

    public static void main(String[] args) {
        newObject();
        letter();
        blank();
        fault();
        faultOfCounts();
        wall();
        wallAnew();
        clause();
        clauseWhen();
        as();
        rain();
        week();
        weekOfLeaning();
        mossIsAtMost99();
        breathe();
        scrape();
        change();
        lean();
        force();
        order();
        need();
        needWithoutWallAndTooOften();
        race();
        odds();
        see();
        sortsAndTry();
        forget();
        drawn();
        image();
        restore();
        imageIsWhole();
        count();
        digest();
        due.end();
    }

    // promise 1
    private static void newObject() {
        MossWall x = new MossWall();
        due.is("1 clause", UNKNOWN, x.clause(0, 0));
        due.is("1 as", UNKNOWN, x.as(0, 0));
        due.is("1 rain", STATE, x.rain(0));
        due.is("1 rain of a wrong week", OUTSIDE, x.rain(-1));
        due.is("1 week", STATE, x.week());
        due.is("1 breathe", UNKNOWN, x.breathe(0));
        due.is("1 scrape", UNKNOWN, x.scrape(0));
        due.is("1 change", UNKNOWN, x.change(0, 9, 0));
        due.is("1 lean", UNKNOWN, x.lean(0, NONE));
        due.is("1 force", STATE, x.force(0));
        due.is("1 order", STATE, x.order());
        due.is("1 race", STATE, x.race(0));
        due.is("1 odds", UNKNOWN, x.odds(0, 0, 0));
        due.is("1 see", UNKNOWN, x.see(0, 0, 0));
        due.is("1 forget", 0, x.forget());
        due.is("1 drawn", STATE, x.drawn(1, 0, 0));
        due.is("1 image", STATE, x.image());
        due.is("1 restore", STATE, x.restore());
        due.is("1 wall", STATE, x.wall());
        due.is("1 fault", 0, x.fault());
        due.is("1 blank", 0, x.blank());
        for (int what = 0; what <= 10; what++) {
            due.is("1 count " + what, 0, x.count(what));
        }
    }

    // promise 2
    private static void letter() {
        MossWall x = new MossWall();
        int[] outside = {0, -1, 127, Integer.MIN_VALUE, Integer.MAX_VALUE};
        for (int code : outside) {
            due.is("2 letter " + code, OUTSIDE, x.letter(code));
        }
        due.is("2 first", 1, x.letter(1));
        due.is("2 last", 2, x.letter(126));
        for (int place = 3; place <= 36; place++) {
            due.is("2 letter at " + place, place, x.letter('c'));
        }
        due.is("2 full", FULL, x.letter('c'));
        due.is("2 outside ahead of full", OUTSIDE, x.letter(0));
        due.is("2 outside ahead of full", OUTSIDE, x.letter(127));
        due.is("2 refusals change nothing", 36, x.count(8));
    }

    // promise 3
    private static void blank() {
        MossWall x = Due.read("c1-;1");
        Due.write(x, "xyz");
        due.is("3 blank", 3, x.blank());
        due.is("3 blank again", 0, x.blank());
        due.is("3 the wall stays", 1, x.count(0));
        due.is("3 letter behind it", 1, x.letter('c'));
        for (int more = 0; more < 40; more++) {
            x.letter('c');
        }
        due.is("3 a full page", 36, x.blank());
        due.is("3 empty", 0, x.count(8));
    }

    // promise 4
    private static void fault() {
        Object[][] pages = {
            {"", 0}, {"c", 1}, {"d1", 2}, {"s9-", 3}, {"f5-;", 4}, {"w1-;0", 5}, {"w1-,", 4},
            {"x", 0}, {"C", 0}, {"cc", 1}, {"c0-", 1}, {"c:-", 1}, {"c1,", 2}, {"c10", 2}, {"c11", 2},
            {"c1--", 3}, {"c1-:", 3}, {"c1-;;", 4}, {"c1-;,", 4}, {"c1-;4", 4}, {"c1-;/", 4}, {"c1-;3", 5},
            {"c1-,,", 4}, {"c1-,d20", 7}, {"c1-,d21", 6}, {"c1-,d2-;01x", 10}, {"c1-;0,", 5}, {"c1-;1;", 5},
            {"c1-,c10,c10,c12;0", 17}, {"c1-,c10,c10,c13;0", 14}, {"c1-,c10,c11,c1/;0", 14},
            {"c1-;1c", 5}, {" c1-;1", 0}, {"c1-;1 ", 5}, {";", 0}, {",", 0}, {"c;", 1}, {"c1;", 2}, {"-", 0},
        };
        for (Object[] row : pages) {
            MossWall x = new MossWall();
            Due.write(x, (String) row[0]);
            due.is("4 fault of '" + row[0] + "'", (Integer) row[1], x.fault());
            due.is("4 the page stays", ((String) row[0]).length(), x.count(8));
        }
    }

    private static void faultOfCounts() {
        String five = "c1-,d10,s11,f12,w13,";
        Object[][] pages = {
            {five + "c14;01230123", 32}, {five + "c14;012301230", 32}, {five + "c15;0", 22},
            {five + "c14,", 23}, {five + "c14,c1-;0", 23}, {"c1-;00000000", 12}, {"c1-;000000000", 12},
        };
        for (Object[] row : pages) {
            MossWall x = new MossWall();
            Due.write(x, (String) row[0]);
            due.is("4 fault of '" + row[0] + "'", (Integer) row[1], x.fault());
        }
    }

    // promise 5
    private static void wall() {
        String[] none = {"", "c", "c1", "c1-", "c1-;", "c1-,", "c1-,;0", "c1-;4", "c1-;000000000", "c10;0", "c1-;0,"};
        for (String text : none) {
            MossWall x = new MossWall();
            Due.write(x, text);
            due.is("5 no wall '" + text + "'", STATE, x.wall());
            due.is("5 the page stays", text.length(), x.count(8));
            due.is("5 nothing was read", 0, x.count(9));
            due.is("5 no clause", 0, x.count(0));
        }
        MossWall x = new MossWall();
        Due.write(x, "c1-,d20,s31,f42,w53,c64;01230123");
        due.is("5 six clauses", 6, x.wall());
        due.is("5 the page is empty", 0, x.count(8));
        due.is("5 eight weeks", 8, x.count(1));
        due.is("5 the empty page is none", STATE, x.wall());
        due.is("5 it stays", 6, x.count(0));
        for (int clause = 0; clause < 6; clause++) {
            due.is("5 kind", clause % 5, x.clause(clause, 0));
            due.is("5 deep", clause + 1, x.clause(clause, 1));
            due.is("5 lean", clause - 1, x.clause(clause, 2));
            due.is("5 moss", 0, x.clause(clause, 3));
        }
        for (int week = 0; week < 8; week++) {
            due.is("5 rain", week % 4, x.rain(week));
        }
    }

    private static void wallAnew() {
        MossWall x = Due.read("c9-,c9-,c90;321");
        x.week();
        x.week();
        x.breathe(1);
        x.see(0, 1, 2);
        x.need(1, 1, 0);
        x.image();
        Due.write(x, "d2-;1");
        due.is("5 anew", 1, x.wall());
        int[] counts = {1, 1, 0, 0, 0, 0, 0, 0, 0, 2, 1};
        for (int what = 0; what <= 10; what++) {
            due.is("5 anew count " + what, counts[what], x.count(what));
        }
        due.is("5 anew kind", 1, x.clause(0, 0));
        due.is("5 anew deep", 2, x.clause(0, 1));
        due.is("5 anew moss", 0, x.clause(0, 3));
        due.is("5 anew sorts", 31, x.clause(0, 7));
        due.is("5 the others are gone", UNKNOWN, x.clause(1, 0));
        due.is("5 anew rain", 1, x.rain(2));
        due.is("5 the image is gone", STATE, x.restore());
    }

    // promise 6
    private static void clause() {
        MossWall x = Due.read("f2-,w30;12");
        int[] first = {3, 2, NONE, 0, 0, 0, 1, 31, 3};
        int[] second = {4, 3, 0, 0, 0, 0, 4, 31, 3};
        for (int what = 0; what <= 8; what++) {
            due.is("6 first " + what, first[what], x.clause(0, what));
            due.is("6 second " + what, second[what], x.clause(1, what));
        }
        for (int week = 0; week < 4; week++) {
            x.week();
        }
        int[] firstThen = {3, 2, NONE, 12, 1, 0, 0};
        int[] secondThen = {4, 3, 0, 3, 1, 0, 0};
        for (int what = 0; what <= 6; what++) {
            due.is("6 first then " + what, firstThen[what], x.clause(0, what));
            due.is("6 second then " + what, secondThen[what], x.clause(1, what));
        }
        x.change(0, 0, 9);
        due.is("6 in force when no more forged", 1, x.clause(0, 5));
        due.is("6 in force with what it leans on", 1, x.clause(1, 5));
        for (int wrong : WRONG_CLAUSES) {
            due.is("6 unknown " + wrong, UNKNOWN, x.clause(wrong, 0));
            due.is("6 unknown ahead of outside", UNKNOWN, x.clause(wrong, 9));
        }
        int[] whats = {-1, 9, Integer.MIN_VALUE, Integer.MAX_VALUE};
        for (int what : whats) {
            due.is("6 outside " + what, OUTSIDE, x.clause(0, what));
        }
    }

    private static void clauseWhen() {
        due.is("6 when at once behind 1", 1, Due.read("c3-;3").clause(0, 6));
        due.is("6 when 9 of 1", 9, Due.read("c9-;1").clause(0, 6));
        due.is("6 when of a dry one", NONE, Due.read("d1-;1").clause(0, 6));
        due.is("6 when without rain", NONE, Due.read("f1-;0").clause(0, 6));
        // one rain in eight weeks, in the last of them: the fifth time is week 39, behind 40 weeks
        due.is("6 when behind 40", 40, Due.read("c5-;00000001").clause(0, 6));
        due.is("6 when not within 40", NONE, Due.read("c6-;00000001").clause(0, 6));
        due.is("6 when behind 33", 33, Due.read("c5-;10000000").clause(0, 6));
        MossWall x = Due.read("c6-;10000000");
        due.is("6 when behind 41", NONE, x.clause(0, 6));
        x.week();
        due.is("6 when from now on", 40, x.clause(0, 6));
        x.week();
        due.is("6 when from now on", 39, x.clause(0, 6));
        due.is("6 when leaves the week", 2, x.count(2));
        due.is("6 when leaves the moss", 1, x.clause(0, 3));
    }

    // promise 7
    private static void as() {
        MossWall x = Due.read("c1-,d1-,s1-,f1-,w1-;0");
        int[][] such = {
            {0, NONE, NONE, NONE, NONE}, {1, 1, NONE, NONE, NONE}, {2, NONE, 2, NONE, NONE},
            {3, NONE, NONE, 3, NONE}, {4, NONE, 4, NONE, 4},
        };
        for (int clause = 0; clause < 5; clause++) {
            for (int kind = 0; kind < 5; kind++) {
                due.is("7 " + clause + " as " + kind, such[clause][kind], x.as(clause, kind));
            }
            due.is("7 outside", OUTSIDE, x.as(clause, 5));
            due.is("7 outside", OUTSIDE, x.as(clause, -1));
        }
        due.is("7 unknown", UNKNOWN, x.as(5, 0));
        due.is("7 unknown", UNKNOWN, x.as(-1, 0));
        due.is("7 unknown ahead of outside", UNKNOWN, x.as(5, 5));
        x.change(0, 4, 1);
        due.is("7 by its kind now", 0, x.as(0, 2));
    }

    // promise 8
    private static void rain() {
        MossWall x = Due.read("c1-;302");
        int[] told = {3, 0, 2};
        for (int week = 0; week < 12; week++) {
            due.is("8 rain " + week, told[week % 3], x.rain(week));
        }
        due.is("8 the last week", told[Integer.MAX_VALUE % 3], x.rain(Integer.MAX_VALUE));
        due.is("8 outside", OUTSIDE, x.rain(-1));
        due.is("8 outside", OUTSIDE, x.rain(Integer.MIN_VALUE));
        x.week();
        due.is("8 from week 0 on", 3, x.rain(0));
    }

    // promise 9
    private static void week() {
        MossWall x = Due.read("c3-,d3-,s3-,f3-,w3-;0123");
        int[][] moss = {{0, 0, 0, 0, 0}, {1, 0, 1, 2, 1}, {3, 1, 2, 6, 2}, {6, 3, 3, 12, 3}, {6, 3, 3, 12, 3}};
        int[] closed = {0, 0, 9, 31, 31};
        for (int week = 0; week < 5; week++) {
            due.is("9 week " + week, closed[week], x.week());
            for (int clause = 0; clause < 5; clause++) {
                due.is("9 moss", moss[week][clause], x.clause(clause, 3));
            }
            due.is("9 next", week + 1, x.count(2));
        }
        due.is("9 round again", 31, x.week());
        due.is("9 round again", 7, x.clause(0, 3));
    }

    private static void weekOfLeaning() {
        MossWall x = Due.read("c2-,c10,c11,c5-;1");
        due.is("9 not yet closed", 0, x.week());
        due.is("9 what it leans on is not closed as it begins", 1, x.week());
        due.is("9 no moss yet", 0, x.clause(1, 3));
        due.is("9 then it grows", 3, x.week());
        due.is("9 then the next", 7, x.week());
        x.scrape(0);
        due.is("9 closed ones stay so", 14, x.week());
        due.is("9 but take no moss", 2, x.clause(1, 3));
        due.is("9 those on them do", 2, x.clause(2, 3));
        due.is("9 not in force", 8, x.force(0));
    }

    private static void mossIsAtMost99() {
        MossWall x = Due.read("f9-,c9-;3");
        for (int week = 0; week < 16; week++) {
            x.week();
        }
        due.is("9 moss 96", 96, x.clause(0, 3));
        x.week();
        due.is("9 moss 99", 99, x.clause(0, 3));
        x.week();
        due.is("9 moss 99 still", 99, x.clause(0, 3));
        due.is("24 moss of all", 99 + 54, x.count(5));
        due.is("21 moss of all drawn", 99 + 99, x.drawn(60, 1, 1));
        due.is("11 all of it", 99, x.scrape(0));
    }

    // promise 10
    private static void breathe() {
        MossWall x = Due.read("c3-,c20;1");
        due.is("10 breath", 1, x.breathe(0));
        due.is("10 breath", 2, x.breathe(0));
        due.is("10 breath", 3, x.breathe(0));
        due.is("10 closed", STATE, x.breathe(0));
        due.is("10 unchanged", 3, x.clause(0, 3));
        x.scrape(0);
        due.is("10 one that leans", 1, x.breathe(1));
        due.is("10 count", 4, x.count(6));
        for (int wrong : WRONG_CLAUSES) {
            due.is("10 unknown", UNKNOWN, x.breathe(wrong));
        }
        due.is("10 refusals do not count", 4, x.count(6));
    }

    // promise 11
    private static void scrape() {
        MossWall x = Due.read("c2-,w2-,s2-,f2-,d2-;2");
        due.is("11 none", STATE, x.scrape(0));
        due.is("11 none of a witnessed one", STATE, x.scrape(1));
        x.week();
        x.week();
        x.week();
        due.is("11 plain", 6, x.scrape(0));
        due.is("11 plain again", STATE, x.scrape(0));
        due.is("11 witnessed", 1, x.scrape(1));
        due.is("11 witnessed", 2, x.clause(1, 3));
        due.is("11 witnessed", 1, x.scrape(1));
        due.is("11 witnessed", 1, x.scrape(1));
        due.is("11 witnessed", STATE, x.scrape(1));
        due.is("11 salted", 3, x.scrape(2));
        due.is("11 forged", 12, x.scrape(3));
        due.is("11 dry", 3, x.scrape(4));
        due.is("11 bare", 0, x.count(5));
        due.is("11 unknown", UNKNOWN, x.scrape(5));
        due.is("11 unknown", UNKNOWN, x.scrape(-1));
    }

    // promise 12
    private static void change() {
        MossWall x = Due.read("c2-,d40;2");
        x.week();
        due.is("12 was", 0, x.change(0, 3, 9));
        due.is("12 kind", 3, x.clause(0, 0));
        due.is("12 deep", 9, x.clause(0, 1));
        due.is("12 moss stays", 2, x.clause(0, 3));
        due.is("12 no more closed", 0, x.clause(0, 4));
        due.is("12 was", 3, x.change(0, 4, 1));
        due.is("12 closed", 1, x.clause(0, 4));
        due.is("12 was", 1, x.change(1, 1, 4));
        due.is("12 it leans still", 0, x.clause(1, 2));
        int[][] outside = {{-1, 1}, {5, 1}, {0, 0}, {0, 10}, {0, -1}, {Integer.MAX_VALUE, Integer.MIN_VALUE}};
        for (int[] row : outside) {
            due.is("12 outside", OUTSIDE, x.change(0, row[0], row[1]));
        }
        for (int wrong : WRONG_CLAUSES) {
            due.is("12 unknown", UNKNOWN, x.change(wrong, 0, 1));
            due.is("12 unknown ahead of outside", UNKNOWN, x.change(wrong, 5, 0));
        }
        due.is("12 unchanged", 4, x.clause(0, 0));
        due.is("12 unchanged", 1, x.clause(0, 1));
    }

    // promise 13
    private static void lean() {
        MossWall x = Due.read("c2-,c20,c1-;1");
        due.is("13 was on none", NONE, x.lean(2, 1));
        due.is("13 was on 1", 1, x.lean(2, 0));
        due.is("13 was on 0", 0, x.lean(2, NONE));
        due.is("13 none", NONE, x.clause(2, 2));
        due.is("13 the first on none", NONE, x.lean(0, NONE));
        int[][] unknown = {{0, 0}, {0, 1}, {1, 1}, {1, 2}, {2, 2}, {2, 3}, {2, -2}, {3, 0}, {3, NONE}, {-1, NONE},
            {-1, -1}, {2, Integer.MIN_VALUE}, {2, Integer.MAX_VALUE}, {Integer.MAX_VALUE, 0}};
        for (int[] row : unknown) {
            due.is("13 unknown " + row[0] + " " + row[1], UNKNOWN, x.lean(row[0], row[1]));
        }
        due.is("13 unchanged", 0, x.clause(1, 2));
        x.lean(1, NONE);
        x.week();
        due.is("13 it grows then", 1, x.clause(1, 3));
    }

    // promise 14
    private static void force() {
        MossWall x = Due.read("c3-,f2-,w20,c11;20");
        due.is("14 now", 0, x.force(0));
        due.is("14 behind 1", 0, x.force(1));
        due.is("14 behind 3", 1, x.force(3));
        due.is("14 behind 6", 1, x.force(6));
        // the first is closed behind 3, the third grows in weeks 4 and 6; what leans on a forged one is never in force
        due.is("14 behind 7", 5, x.force(7));
        due.is("14 behind 99", 5, x.force(99));
        due.is("14 outside", OUTSIDE, x.force(-1));
        due.is("14 outside", OUTSIDE, x.force(100));
        due.is("14 outside ahead of state", OUTSIDE, new MossWall().force(100));
        due.is("14 nothing is done", 0, x.count(2) + x.count(5));
        for (int week = 0; week < 7; week++) {
            x.week();
        }
        due.is("14 now then", 5, x.force(0));
        x.scrape(0);
        due.is("14 not without what it leans on", 0, x.force(0));
        due.is("14 yet again", 5, x.force(4));
    }

    // promise 15
    private static void order() {
        due.is("15 none", 0, Due.read("c9-,d1-;0").order());
        due.is("15 by their numbers", 123456, Due.read("c3-,c2-,c1-,c3-,f6-,c3-;3").order());
        due.is("15 as they close", 3421, Due.read("c9-,c5-,c1-,c2-,d1-;1").order());
        due.is("15 within 40", 12, Due.read("c1-,c5-,c6-;00000001").order());
        MossWall x = Due.read("c2-,c9-,c9-,c10;1");
        x.change(2, 0, 1);
        x.breathe(2);
        due.is("15 closed now first", 3142, x.order());
        due.is("15 nothing is done", 0, x.count(2));
    }

    // promise 16
    private static void need() {
        MossWall x = Due.read("c3-,d20,w4-;10");
        due.is("16 nothing wanted", 0, x.need(0, 0, 0));
        due.is("16 nothing wanted", 0, x.need(0, 0, 1));
        due.is("16 without any", 0, x.need(1, 5, 0));
        due.is("16 without any", 0, x.need(1, 5, 1));
        due.is("16 one", 1, x.need(1, 4, 0));
        due.is("16 one", 1, x.need(1, 4, 1));
        due.is("16 two", 11, x.need(1, 2, 1));
        due.is("16 on what leans", 22, x.need(2, 40, 1));
        due.is("16 four", 4, x.need(4, 0, 0));
        due.is("16 four", 3333, x.need(4, 0, 1));
        due.is("16 more than four", NONE, x.need(5, 0, 0));
        due.is("16 more than four", NONE, x.need(5, 0, 1));
        due.is("16 of several", 133, x.need(5, 3, 1));
        due.is("16 count", 13, x.count(10));
        due.is("16 nothing is done", 0, x.count(5) + x.count(6));
        MossWall y = Due.read("c2-,c50,c4-;1");
        // by 1 on the first, or by 1 on the second itself: the least
        due.is("16 of as many the least", 1, y.need(2, 6, 1));
        due.is("16 twice on whom it leans", 11, y.need(2, 5, 1));
        due.is("16 one that serves all", 1, y.need(6, 6, 1));
        due.is("16 on the last", 3, y.need(5, 3, 1));
        int[][] outside = {{-1, 0, 0}, {8, 0, 0}, {0, -1, 0}, {0, 41, 0}, {0, 0, -1}, {0, 0, 2},
            {Integer.MIN_VALUE, 0, 0}, {Integer.MAX_VALUE, 0, 0}};
        for (int[] row : outside) {
            due.is("16 outside", OUTSIDE, y.need(row[0], row[1], row[2]));
        }
        due.is("16 refusals do not count", 4, y.count(10));
    }

    private static void needWithoutWallAndTooOften() {
        MossWall x = new MossWall();
        due.is("16 no wall", STATE, x.need(0, 0, 0));
        due.is("16 outside ahead of no wall", OUTSIDE, x.need(1, 0, 0));
        due.is("16 outside ahead of no wall", OUTSIDE, x.need(0, 41, 0));
        x = Due.read("c9-;1");
        for (int time = 0; time < 20; time++) {
            due.is("16 each counts", NONE, x.need(1, 0, time % 2));
        }
        due.is("16 too often", STATE, x.need(1, 0, 0));
        due.is("16 outside ahead of too often", OUTSIDE, x.need(1, 0, 2));
        due.is("16 count stays", 20, x.count(10));
        Due.write(x, "c1-;1");
        x.wall();
        due.is("16 too often for another wall, too", STATE, x.need(1, 0, 0));
    }

    // promise 17
    private static void race() {
        Object[][] rows = {
            {"c1-;0", 1}, {"c2-;0", 2}, {"c3-;0", NONE}, {"c4-;0", 1}, {"c5-;0", 2}, {"c6-;0", NONE},
            {"c1-,c1-;0", NONE}, {"c1-,c2-;0", 11}, {"c2-,c1-;0", 1}, {"c1-,c2-,c3-;0", 11},
            {"c3-,c1-;0", 2}, {"c9-,c9-,c4-,c4-;0", NONE}, {"c4-,c5-;0", 2}, {"c1-,c3-;0", 1},
            {"f1-,w10,d2-;0", 22},
        };
        for (Object[] row : rows) {
            MossWall x = Due.read((String) row[0]);
            due.is("17 " + row[0], (Integer) row[1], x.race(1));
            due.is("17 " + row[0], (Integer) row[1] == NONE ? 0 : 1, x.race(0));
        }
        MossWall x = Due.read("c1-,c4-;0");
        x.breathe(0);
        due.is("17 a closed one is none", 11, x.race(1));
        x.breathe(1);
        due.is("17 lost", NONE, x.race(1));
        x.breathe(1);
        x.breathe(1);
        x.breathe(1);
        due.is("17 all closed", 0, x.race(0));
        due.is("17 all closed", NONE, x.race(1));
        due.is("17 outside", OUTSIDE, x.race(-1));
        due.is("17 outside", OUTSIDE, x.race(2));
        due.is("17 outside ahead of state", OUTSIDE, new MossWall().race(2));
    }

    // promise 18
    private static void odds() {
        // of rain 0 to 3, 3 ones close one that is 1 deep
        odds("c1-;0", 0, 1, 3, 4);
        odds("c2-;0", 0, 1, 1, 2);
        odds("c4-;0", 0, 1, 0, 1);
        odds("d2-;0", 0, 1, 1, 4);
        odds("s1-;0", 0, 2, 15, 16);
        odds("s2-;0", 0, 2, 9, 16);
        odds("f9-;0", 0, 1, 0, 1);
        odds("f6-;0", 0, 1, 1, 4);
        odds("c9-;0", 0, 3, 1, 64);
        odds("w4-;0", 0, 4, 81, 256);
        odds("c9-;3", 0, 2, 0, 1);
        // the second week counts only if the first one has closed what it leans on
        odds("c1-,c10;0", 1, 1, 0, 1);
        odds("c1-,c10;0", 1, 2, 9, 16);
        MossWall x = Due.read("c1-,c9-;0");
        x.breathe(0);
        due.is("18 certain", 1, x.odds(0, 4, 0));
        due.is("18 certain", 1, x.odds(0, 4, 1));
        int[][] outside = {{0, 0}, {5, 0}, {-1, 0}, {1, -1}, {1, 2}, {Integer.MAX_VALUE, 0}, {Integer.MIN_VALUE, 7}};
        for (int[] row : outside) {
            due.is("18 outside", OUTSIDE, x.odds(0, row[0], row[1]));
        }
        for (int wrong : WRONG_CLAUSES) {
            due.is("18 unknown ahead of outside", UNKNOWN, x.odds(wrong, 0, 2));
        }
        due.is("18 nothing is done", 1, x.count(5));
    }

    private static void odds(String text, int clause, int weeks, int above, int below) {
        MossWall x = Due.read(text);
        due.is("18 above " + text, above, x.odds(clause, weeks, 0));
        due.is("18 below " + text, below, x.odds(clause, weeks, 1));
    }

    // promise 19
    private static void see() {
        MossWall x = Due.read("c1-,c1-;0");
        int[][] outside = {{-1, 0}, {4, 0}, {0, -1}, {0, 7}, {Integer.MAX_VALUE, 0}, {0, Integer.MIN_VALUE}};
        for (int[] row : outside) {
            due.is("19 outside", OUTSIDE, x.see(0, row[0], row[1]));
        }
        for (int seen = 1; seen <= 6; seen++) {
            due.is("19 seen", seen, x.see(seen % 2, seen % 4, seen));
        }
        due.is("19 full", FULL, x.see(0, 0, 0));
        due.is("19 outside ahead of full", OUTSIDE, x.see(0, 4, 0));
        for (int wrong : WRONG_CLAUSES) {
            due.is("19 unknown ahead of outside", UNKNOWN, x.see(wrong, 4, 7));
        }
        due.is("19 refusals change nothing", 6, x.count(7));
    }

    // promise 6 for 7 and 8
    private static void sortsAndTry() {
        Object[][] rows = {
            {new int[] {}, 31, 3}, {new int[] {0, 0}, 31, 3}, {new int[] {0, 1}, 0, NONE},
            {new int[] {1, 0}, 2, 0}, {new int[] {1, 1}, 21, 2}, {new int[] {1, 2}, 8, 0},
            {new int[] {2, 0}, 0, NONE}, {new int[] {2, 1}, 22, 1}, {new int[] {2, 2}, 1, 0},
            {new int[] {2, 4}, 8, 0}, {new int[] {3, 1}, 20, 0}, {new int[] {3, 2}, 2, 0},
            {new int[] {3, 3}, 1, 0}, {new int[] {3, 6}, 8, 0}, {new int[] {3, 5}, 0, NONE},
            {new int[] {2, 1, 1, 1}, 20, 0}, {new int[] {1, 1, 2, 2}, 1, 0}, {new int[] {1, 1, 1, 0}, 0, NONE},
        };
        for (Object[] row : rows) {
            MossWall x = Due.read("f3-,d3-;1");
            int[] seen = (int[]) row[0];
            x.see(0, 0, 6);
            for (int sight = 0; sight < seen.length; sight += 2) {
                x.see(1, seen[sight], seen[sight + 1]);
            }
            due.is("6 sorts", (Integer) row[1], x.clause(1, 7));
            due.is("6 try", (Integer) row[2], x.clause(1, 8));
            due.is("6 sorts of the other", 0, x.clause(0, 7));
        }
    }

    // promise 20
    private static void forget() {
        MossWall x = Due.read("c1-;1");
        due.is("20 none", 0, x.forget());
        x.see(0, 1, 0);
        x.see(0, 1, 0);
        due.is("20 two", 2, x.forget());
        due.is("20 none left", 0, x.count(7));
        due.is("20 all sorts again", 31, x.clause(0, 7));
        due.is("20 from 1 on", 1, x.see(0, 1, 1));
    }

    // promise 21
    private static void drawn() {
        // by hand: 0 -> 12345 (0), 1406932606 (21468, rest 0), 654583775 (9988, rest 0), 1449466924 (22117, rest 1)
        MossWall x = Due.read("f2-,w10;3");
        due.is("21 seed", 12345, x.drawn(1, 0, 2));
        due.is("21 seed", 1406932606, x.drawn(2, 0, 2));
        due.is("21 seed", 654583775, x.drawn(3, 0, 2));
        due.is("21 seed", 1449466924, x.drawn(4, 0, 2));
        due.is("21 moss", 0, x.drawn(3, 0, 1));
        due.is("21 moss", 2, x.drawn(4, 0, 1));
        due.is("21 weeks", 0, x.drawn(4, 0, 0));
        due.is("21 nothing is done", 0, x.count(2) + x.count(5));
        drawnByTheLaw(x, 60, Integer.MAX_VALUE);
        drawnByTheLaw(x, 9, 1);
        drawnByTheLaw(x, 37, 77777);
        x.breathe(0);
        x.breathe(0);
        x.breathe(1);
        due.is("21 closed at the end of each", 5, x.drawn(5, 3, 0));
        int[][] outside = {{0, 0, 0}, {61, 0, 0}, {1, -1, 0}, {1, 0, -1}, {1, 0, 3}, {1, Integer.MIN_VALUE, 0}};
        for (int[] row : outside) {
            due.is("21 outside", OUTSIDE, x.drawn(row[0], row[1], row[2]));
            due.is("21 outside ahead of state", OUTSIDE, new MossWall().drawn(row[0], row[1], row[2]));
        }
    }

    /** The wall "f2-,w10" of no moss, week for week. */
    private static void drawnByTheLaw(MossWall x, int weeks, int first) {
        long seed = first;
        int forged = 0;
        int witnessed = 0;
        int all = 0;
        for (int week = 0; week < weeks; week++) {
            seed = (1103515245L * seed + 12345L) & 0x7fffffffL;
            int rain = (int) (seed >> 16 & 3);
            witnessed += forged >= 2 && rain > 0 ? 1 : 0;
            forged = Math.min(99, forged + 2 * rain);
            all += forged >= 2 && witnessed >= 1 ? 1 : 0;
        }
        due.is("21 weeks by " + first, all, x.drawn(weeks, first, 0));
        due.is("21 moss by " + first, forged + witnessed, x.drawn(weeks, first, 1));
        due.is("21 seed by " + first, seed, x.drawn(weeks, first, 2));
    }

    // promise 22
    private static void image() {
        MossWall x = Due.read("c9-;1");
        due.is("22 week 0", 0, x.image());
        x.week();
        x.week();
        due.is("22 week 2", 2, x.image());
        x.week();
        due.is("22 the latest", 2, x.restore());
    }

    // promise 23
    private static void restore() {
        MossWall x = Due.read("c9-;1");
        due.is("23 none was kept", STATE, x.restore());
        x.image();
        x.week();
        due.is("23 back", 0, x.restore());
        due.is("23 no moss", 0, x.count(5));
        x.week();
        due.is("23 as often as wanted", 0, x.restore());
        Due.write(x, "c9-;4");
        due.is("23 no other wall", STATE, x.wall());
        due.is("23 still", 0, x.restore());
        due.is("23 the page stays", 5, x.blank());
        Due.write(x, "c9-;1");
        x.wall();
        due.is("23 another wall", STATE, x.restore());
        x.week();
        due.is("22 its own image", 1, x.image());
        due.is("23 its own image", 1, x.restore());
    }

    private static void imageIsWhole() {
        MossWall x = Due.read("c9-,d50,w2-;12");
        x.week();
        x.breathe(1);
        x.see(1, 2, 1);
        x.image();
        long before = x.digest();
        x.change(0, 3, 1);
        x.lean(1, NONE);
        x.lean(2, 0);
        x.week();
        x.breathe(1);
        x.forget();
        x.see(2, 3, 3);
        x.see(0, 3, 3);
        due.holds("22 it is another one", before != x.digest());
        due.is("23 week", 1, x.restore());
        due.is("23 all as it was", before, x.digest());
        due.is("23 kind", 0, x.clause(0, 0));
        due.is("23 deep", 9, x.clause(0, 1));
        due.is("23 lean", 0, x.clause(1, 2));
        due.is("23 moss", 1, x.clause(1, 3));
        due.is("23 breaths", 1, x.count(6));
        due.is("23 sorts", 22, x.clause(1, 7));
        due.is("23 sorts", 31, x.clause(2, 7));
        x.need(1, 1, 1);
        x.restore();
        due.is("23 need() stays done", 1, x.count(10));
    }

    // promise 24
    private static void count() {
        MossWall x = Due.read("c2-,f2-,w2-;201");
        x.week();
        x.breathe(2);
        x.see(1, 1, 1);
        x.see(1, 1, 1);
        x.need(1, 1, 1);
        Due.write(x, "c9-;");
        int[] counts = {3, 3, 1, 3, 2, 8, 1, 2, 4, 1, 1};
        for (int what = 0; what <= 10; what++) {
            due.is("24 count " + what, counts[what], x.count(what));
        }
        int[] outside = {-1, 11, Integer.MIN_VALUE, Integer.MAX_VALUE};
        for (int what : outside) {
            due.is("24 outside", OUTSIDE, x.count(what));
        }
    }

    // promise 25
    private static void digest() {
        long empty = 1367;
        for (int what = 0; what <= 10; what++) {
            empty = 31 * empty;
        }
        MossWall x = new MossWall();
        due.is("25 of a new one", empty, x.digest());
        Due.write(x, "zy");
        long page = (1367L * 31 + 'z') * 31 + 'y';
        int[] pageCounts = {0, 0, 0, 0, 0, 0, 0, 0, 2, 0, 0};
        for (int count : pageCounts) {
            page = 31 * page + count;
        }
        due.is("25 of a page", page, x.digest());
        // of each clause: kind, deep, lean, moss, closed, in force, when, sorts, try, odds above and below;
        // then force, order, race, race, rain; page; counts
        x = Due.read("d2-;03");
        x.week();
        Due.write(x, "~");
        // odds of 2 weeks: growth 0, 0, 1, 2 in each makes 2 or more in 8 of 16
        digest(x, 1, 2, -1, 0, 0, 0, 1, 31, 3, 1, 2, 1, 1, 1, 2, 3, '~', 1, 2, 1, 0, 0, 0, 0, 0, 1, 1, 0);
        x = Due.read("w2-,c10;1011");
        Due.write(x, "~c");
        digest(x, 4, 2, -1, 0, 0, 0, 3, 31, 3, 9, 16, 0, 1, 0, 0, 0, 0, 4, 31, 3, 0, 1,
                1, 12, 1, 1, 1, '~', 'c', 2, 4, 0, 0, 0, 0, 0, 0, 2, 1, 0);
    }

    private static void digest(MossWall x, int... numbers) {
        long h = 1367;
        for (int number : numbers) {
            h = 31 * h + number;
        }
        due.is("25 of a wall", h, x.digest());
        due.is("25 again the same", h, x.digest());
    }
}
