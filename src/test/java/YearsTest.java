/** STEPS, promises 5, 8, 19, 20, 34 to 37: what years, work, work undone and images do. */
public final class YearsTest {
    private static final Check CHECK = new Check();

    public static void main(String[] args) {
        votes();
        rulers();
        draws();
        moves();
        counts();
        agains();
        lastYear();
        undone();
        sixteenWorks();
        images();
        fullImages();
        reigns();
        rounds();
        times();
        spans();
        CHECK.end();
    }

    private static void work(WinnerDraws x, String text, int done, int refused) {
        CHECK.due("work " + text, done, () -> Check.work(x, text));
        CHECK.due("refused in " + text, refused, () -> x.told(10));
    }

    private static void rule(WinnerDraws x, int ruler, int reign, int year) {
        CHECK.due("ruler", ruler, () -> x.told(5));
        CHECK.due("reign", reign, () -> x.told(6));
        CHECK.due("year", year, () -> x.told(4));
    }

    private static void votesOf(WinnerDraws x, int parish, int first, int second) {
        CHECK.due("votes of 0 in " + parish, first, () -> x.parish(parish, 1));
        CHECK.due("votes of 1 in " + parish, second, () -> x.parish(parish, 2));
    }

    private static void votes() {
        WinnerDraws x = Check.of(CountyTest.CHAIN + "tide 1 20;tide 0 15;");
        work(x, "vote;", 1, 0);
        votesOf(x, 0, 5, 3);
        votesOf(x, 1, 1, 4);
        votesOf(x, 2, 3, 3);
        votesOf(x, 3, 0, 5);
        votesOf(x, 4, 6, 2);
        rule(x, 1, 1, 1);
        // The second tide takes 15 of 100 of 3, 4, 3, 5 and 2: nothing, since each is cut.
        work(x, "vote;", 1, 0);
        votesOf(x, 0, 5, 3);
        rule(x, 1, 2, 2);
        WinnerDraws much = Check.of("parish 0 99 99;parish 1 50 49;tide 0 20;");
        work(much, "vote;vote;", 2, 0);
        votesOf(much, 0, 99 + 19 + 16, 99 - 19 - 16);
        votesOf(much, 1, 50 + 9 + 8, 49 - 9 - 8);
    }

    private static void rulers() {
        WinnerDraws seats = Check.of("parish 0 1 0;parish 1 1 0;parish 2 0 9;");
        work(seats, "vote;", 1, 0);
        rule(seats, 0, 1, 1);
        WinnerDraws votes = Check.of("parish 0 1 0;parish 2 0 9;");
        work(votes, "vote;", 1, 0);
        rule(votes, 1, 1, 1);
        WinnerDraws alike = Check.of("parish 0 5 0;parish 2 0 5;");
        work(alike, "vote;vote;", 2, 0);
        rule(alike, -1, 0, 2);
        work(alike, "count 0 6 0;vote;count 0 5 0;vote;vote;", 5, 0);
        rule(alike, 0, 3, 5);
        work(alike, "count 0 0 0;vote;", 2, 0);
        rule(alike, 1, 1, 6);
        WinnerDraws none = Check.of("");
        work(none, "vote;", 1, 0);
        rule(none, -1, 0, 1);
    }

    private static void draws() {
        WinnerDraws x = Check.of(CountyTest.CHAIN);
        work(x, "draw;", 0, 1);
        work(x, "vote;draw;", 2, 0);
        CHECK.due("3 was moved to ward 3", 24, () -> x.ward(3, 0));
        CHECK.due("moved once", 1, () -> x.told(12));
        CHECK.due("margin", 2, () -> x.side(0, 2));
        Check.law(x, "99");
        CHECK.due("none is paid for", -1, () -> x.best(1, 0));
        work(x, "draw;", 0, 1);
    }

    private static void moves() {
        WinnerDraws x = Check.of(CountyTest.CHAIN + "purse 5;");
        work(x, "move 0 0;move 0 2;move 4 1;move 0 3;", 0, 4);
        Check.law(x, "6");
        work(x, "move 0 1;", 0, 1);
        Check.law(x, "5");
        work(x, "move 0 1;move 1 1;move 0 0;", 2, 1);
        CHECK.due("ward 0", 3, () -> x.ward(0, 0));
        CHECK.due("moved twice", 2, () -> x.told(12));
        CHECK.due("nothing else is changed", 0, () -> x.told(4));
    }

    private static void counts() {
        WinnerDraws x = Check.of(CountyTest.CHAIN);
        work(x, "count 0 6 2;count 0 2 6;count 0 2 6;count 4 99 0;", 2, 2);
        votesOf(x, 0, 2, 6);
        CHECK.due("ward 0 is won by 1", 1, () -> x.ward(0, 3));
        votesOf(x, 4, 99, 0);
        CHECK.due("a count of one side alone", 1, () -> Check.work(x, "count 4 99 1;"));
    }

    private static void agains() {
        WinnerDraws x = new WinnerDraws();
        work(x, "again 0[vote;];", 0, 0);
        work(x, "again 3[vote;draw;];vote;", 4, 3);
        // 1 for the outer one, then 41 each round: the fifth inner one is the 166th, 34 votes are left.
        work(x, "again 40[again 40[vote;];];", 194, 0);
        CHECK.due("year", 198, () -> x.told(4));
        work(x, "again 40[again 40[];];vote;", 1, 0);
        work(x, "again 40[again 40[again 40[];];];vote;", 0, 0);
        work(x, "again 40[draw;again 4[];];again 39[draw;draw;draw;];", 0, 157);
        work(x, "again 40[draw;again 4[];];again 40[draw;draw;draw;];", 0, 158);
        work(x, "again 5[again 39[draw;];];vote;", 0, 194);
        work(x, "again 4[again 39[draw;];];again 34[draw;];vote;vote;vote;vote;", 4, 190);
        work(x, "again 1[again 1[again 1[again 1[again 1[again 40[vote;draw;];];];];];];", 40, 40);
    }

    private static void lastYear() {
        WinnerDraws x = Check.of("parish 0 1 0;tide 1 0;tide 0 1;");
        work(x, "again 5[again 40[vote;];];", 194, 0);
        work(x, "again 5[again 40[vote;];];", 194, 0);
        rule(x, 0, 388, 388);
        work(x, "again 40[vote;];", 12, 28);
        rule(x, 0, 400, 400);
        work(x, "vote;draw;", 0, 2);
        CHECK.due("reigns beyond", 0, () -> x.reigns(60, 0));
        CHECK.due("tide to come in year 400", 1, () -> x.tide(0));
        CHECK.due("a round beyond", 2, () -> x.round(1));
    }

    private static void undone() {
        WinnerDraws x = Check.of(CountyTest.CHAIN + "tide 1 20;");
        work(x, "vote;", 1, 0);
        work(x, "count 2 9 9;move 0 1;draw;draw;", 2, 2);
        work(x, "", 0, 0);
        work(x, "move 0 0;move 0 2;", 1, 1);
        CHECK.due("works", 4, () -> x.count(2));
        CHECK.due("undo the last", 3, () -> x.undo());
        CHECK.due("nothing is refused then", 0, () -> x.told(10));
        CHECK.due("0 is in ward 1 again", 1, () -> x.parish(0, 0));
        CHECK.due("moved", 1, () -> x.told(12));
        CHECK.due("undo the one of no steps", 2, () -> x.undo());
        CHECK.due("undo the second", 1, () -> x.undo());
        votesOf(x, 2, 3, 3);
        CHECK.due("0 is in ward 0 again", 0, () -> x.parish(0, 0));
        CHECK.due("moved never", 0, () -> x.told(12));
        rule(x, 1, 1, 1);
        Check.law(x, "3");
        Check.book(x, "0 1;");
        CHECK.due("undo the first", 0, () -> x.undo());
        votesOf(x, 0, 6, 2);
        rule(x, -1, 0, 0);
        CHECK.due("the law stays", 3, () -> x.cost(0, 0));
        CHECK.due("the book stays", 1, () -> x.told(11));
        CHECK.due("no more", -1, () -> x.undo());
    }

    private static void sixteenWorks() {
        WinnerDraws x = Check.of("parish 0 1 0;");
        for (int i = 0; i < 15; i++) {
            work(x, "vote;", 1, 0);
        }
        work(x, "draw;", 0, 1);
        CHECK.due("sixteen", 16, () -> x.count(2));
        CHECK.due("a fault of a law", -9, () -> Check.law(x, "2+"));
        CHECK.due("one too many", -20, () -> Check.work(x, "vote;"));
        CHECK.due("no fault", -1, () -> x.fault());
        CHECK.due("empty tape", 0, () -> x.count(1));
        CHECK.due("ahead of the fault", -20, () -> Check.work(x, "votes"));
        CHECK.due("no fault of it", -1, () -> x.fault());
        CHECK.due("refused as by the latest", 1, () -> x.told(10));
        CHECK.due("behind the exception", Check.ILLEGAL, () -> x.work(1));
        rule(x, 0, 15, 15);
        CHECK.due("undo", 15, () -> x.undo());
        CHECK.due("a fault, once there is room", -9, () -> Check.work(x, "votes"));
        work(x, "vote;", 1, 0);
        CHECK.due("sixteen again", 16, () -> x.count(2));
        for (int i = 15; i >= 0; i--) {
            CHECK.due("undo to " + i, i, () -> x.undo());
        }
        rule(x, -1, 0, 0);
    }

    private static void images() {
        WinnerDraws x = Check.of(CountyTest.CHAIN);
        work(x, "vote;move 0 1;", 2, 0);
        CHECK.due("first image", 1, () -> x.image());
        work(x, "move 0 0;count 0 1 1;draw;draw;", 3, 1);
        CHECK.due("second image", 2, () -> x.image());
        CHECK.due("undo", 1, () -> x.undo());
        CHECK.due("undo", 0, () -> x.undo());
        work(x, "count 0 50 50;", 1, 0);
        CHECK.due("third image", 3, () -> x.image());
        CHECK.due("no fourth", -1, () -> x.image());
        CHECK.due("three images", 3, () -> x.count(0));
        Check.law(x, "9");
        Check.book(x, "3 2;");
        CHECK.due("illegal", Check.ILLEGAL, () -> x.told(13));
        work(x, "draw;", 0, 1);
        CHECK.due("restore the third", 2, () -> x.restore());
        CHECK.due("nothing is refused then", 0, () -> x.told(10));
        votesOf(x, 0, 50, 50);
        CHECK.due("its works", 1, () -> x.count(2));
        work(x, "count 0 50 50;", 0, 1);
        CHECK.due("restore the second", 1, () -> x.restore());
        votesOf(x, 0, 1, 1);
        CHECK.due("its works", 2, () -> x.count(2));
        CHECK.due("moved", 3, () -> x.told(12));
        rule(x, 0, 1, 1);
        CHECK.due("undo behind restore", 1, () -> x.undo());
        votesOf(x, 0, 6, 2);
        CHECK.due("0 is in ward 1", 1, () -> x.parish(0, 0));
        CHECK.due("undo behind restore", 0, () -> x.undo());
        rule(x, -1, 0, 0);
        CHECK.due("restore the first", 0, () -> x.restore());
        CHECK.due("0 is in ward 1", 1, () -> x.parish(0, 0));
        CHECK.due("its works", 1, () -> x.count(2));
        CHECK.due("none is left", -1, () -> x.restore());
        CHECK.due("the law stays", 9, () -> x.cost(0, 0));
        CHECK.due("the book stays", 1, () -> x.told(11));
        CHECK.due("what was refused stays", 1, () -> x.status(1));
        work(x, "move 0 1;move 0 1;", 0, 2);
        CHECK.due("no image to restore", -1, () -> x.restore());
        CHECK.due("so nothing is changed", 2, () -> x.told(10));
    }

    private static void fullImages() {
        WinnerDraws x = Check.of("parish 0 0 0;");
        for (int image = 1; image <= 3; image++) {
            for (int i = 1; i <= 16; i++) {
                Check.work(x, "count 0 " + image + " " + i + ";");
            }
            x.image();
            for (int i = 0; i < 16; i++) {
                x.undo();
            }
        }
        for (int image = 3; image >= 1; image--) {
            CHECK.due("images left", image - 1, () -> x.restore());
            CHECK.due("works of an image", 16, () -> x.count(2));
            CHECK.due("one too many", -20, () -> Check.work(x, "vote;"));
            for (int i = 16; i >= 1; i--) {
                votesOf(x, 0, image, i);
                CHECK.due("works left", i - 1, () -> x.undo());
            }
            votesOf(x, 0, 0, 0);
        }
    }

    private static void reigns() {
        WinnerDraws x = Check.of(CountyTest.CHAIN);
        CHECK.due("reigns of 0", -1, () -> x.reigns(0, 0));
        CHECK.due("changes of 0", 0, () -> x.reigns(0, 1));
        CHECK.due("reigns of 1", 0, () -> x.reigns(1, 0));
        CHECK.due("none to 0 is a change", 1, () -> x.reigns(1, 1));
        CHECK.due("reigns of 60", 0, () -> x.reigns(60, 0));
        CHECK.due("changes of 60", 1, () -> x.reigns(60, 1));
        rule(x, -1, 0, 0);
        CHECK.due("nothing is moved", 0, () -> x.told(12));
        WinnerDraws swaying = Check.of("parish 0 50 50;tide 0 20;tide 1 20;");
        CHECK.due("changes by tides", 7, () -> swaying.reigns(7, 1));
        CHECK.due("odd years", 0, () -> swaying.reigns(7, 0));
        CHECK.due("even years", 1, () -> swaying.reigns(8, 0));
        votesOf(swaying, 0, 50, 50);
        // By its draw in year 1 side 0 wins ward 1, and so rules on when the second tide gives ward 2 to side 1.
        WinnerDraws drawn = Check.of("parish 0 10 0;parish 0 9 0;parish 1 0 4;parish 2 50 50;road 0 1;road 1 2;"
                + "tide 0 0;tide 1 20;purse 1;");
        CHECK.due("rules by a draw", 0, () -> drawn.reigns(2, 0));
        CHECK.due("changes by a draw", 1, () -> drawn.reigns(2, 1));
        Check.law(drawn, "2");
        CHECK.due("rules if no draw is paid for", 1, () -> drawn.reigns(2, 0));
        CHECK.due("changes if no draw is paid for", 2, () -> drawn.reigns(2, 1));
    }

    private static void round(WinnerDraws x, int start, int length) {
        CHECK.due("round a", start, () -> x.round(0));
        CHECK.due("round b", length, () -> x.round(1));
    }

    private static void rounds() {
        round(Check.of(""), 0, 1);
        round(Check.of("tide 0 3;tide 1 3;tide 1 3;"), 0, 3);
        round(Check.of("parish 0 1 1;"), 0, 1);
        round(Check.of("parish 0 1 0;"), 1, 1);
        round(Check.of("parish 0 1 0;tide 0 0;tide 1 0;"), 1, 2);
        round(Check.of(CountyTest.CHAIN), 1, 1);
        WinnerDraws x = Check.of("parish 0 1 0;tide 0 0;tide 1 0;");
        work(x, "vote;", 1, 0);
        round(x, 0, 2);
        // The law lets a move be paid for from year 40 on; what is alike ahead of it is a round already.
        WinnerDraws late = Check.of(CountyTest.CHAIN);
        Check.law(late, "least[year,1]*60-year");
        CHECK.due("a round that shows before the law turns", 1, () -> late.round(0));
        round(Check.of("parish 0 9 99;tide 0 2;"), 50, 1);
        String tides = "tide 0 0;" + "tide 0 2;".repeat(5);
        round(Check.of("parish 0 9 94;" + tides), 54, 6);
        round(Check.of("parish 0 9 95;" + tides), -1, -1);
        round(x, 0, 2);
        Check.county(x, "parish 0 9 95;" + tides);
        round(x, -1, -1);
    }

    private static void times() {
        WinnerDraws x = Check.of("parish 0 5 0;parish 0 1 0;parish 1 0 3;road 0 2;road 1 2;road 0 1;purse 1;");
        CHECK.due("a year by its draw alone, rules", 0, () -> x.time(1, 0, 1, 0));
        CHECK.due("a year by its draw alone, margin", 2, () -> x.time(1, 0, 1, 1));
        CHECK.due("a year by its draw alone, moves", 1, () -> x.time(1, 0, 1, 2));
        CHECK.due("a year by its draw alone, lines", 2, () -> x.time(1, 0, 1, 3));
        // Seed 1 draws 16838, 5758, 10113: parish 2 to ward 2 if q is above 1; no draw brings more than that.
        String text = "parish 0 0 1;parish 0 0 0;parish 0 5 0;parish 2 0 3;road 0 1;road 1 2;road 2 3;purse ";
        CHECK.due("q 1", 0, () -> Check.of(text + "1;").time(1, 1, 1, 2));
        CHECK.due("q 2", 1, () -> Check.of(text + "1;").time(1, 2, 1, 2));
        CHECK.due("q 16", 1, () -> Check.of(text + "1;").time(1, 16, 1, 2));
        CHECK.due("q 16, not paid for", 0, () -> Check.of(text + "0;").time(1, 16, 1, 2));
        // Seed 4 draws 1817, 24166, 10491: parish 1 to ward 2, which may not be.
        CHECK.due("seed 4", 0, () -> Check.of(text + "1;").time(4, 16, 1, 2));
        WinnerDraws old = Check.of("parish 0 1 0;");
        Check.work(old, "again 5[again 40[vote;];];");
        Check.work(old, "again 5[again 40[vote;];];");
        Check.work(old, "again 40[vote;];");
        Check.work(old, "count 0 0 1;");
        CHECK.due("a vote beyond year 400", 1, () -> old.time(1, 0, 1, 0));
        CHECK.due("nothing stays changed", 0, () -> x.told(4));
        WinnerDraws none = Check.of("tide 0 4;");
        CHECK.due("without parishes, rules", -1, () -> none.time(5, 16, 48, 0));
        CHECK.due("without parishes, moves", 0, () -> none.time(5, 16, 48, 2));
    }

    private static void spans() {
        WinnerDraws x = Check.of(CountyTest.CHAIN + "tide 1 20;tide 0 20;");
        int least = 9;
        int most = -9;
        int[] ruled = new int[2];
        for (int i = 0; i < 10; i++) {
            int margin = x.time(Integer.MAX_VALUE - 4 + i, 9, 5, 1);
            least = Math.min(least, margin);
            most = Math.max(most, margin);
            int ruler = x.time(Integer.MAX_VALUE - 4 + i, 9, 5, 0);
            if (ruler >= 0) {
                ruled[ruler]++;
            }
        }
        CHECK.due("least of a span that wraps", least, () -> x.span(Integer.MAX_VALUE - 4, 10, 9, 5, 0, 0));
        CHECK.due("most", most, () -> x.span(Integer.MAX_VALUE - 4, 10, 9, 5, 1, 1));
        CHECK.due("by how many 0 rules", ruled[0], () -> x.span(Integer.MAX_VALUE - 4, 10, 9, 5, 2, 0));
        CHECK.due("by how many 1 rules", ruled[1], () -> x.span(Integer.MAX_VALUE - 4, 10, 9, 5, 2, 1));
        CHECK.due("of one seed", x.time(7, 16, 3, 1), () -> x.span(7, 1, 16, 3, 0, 0));
        CHECK.due("no such side, though not asked for", Check.ILLEGAL, () -> x.span(7, 1, 16, 3, 0, 2));
        CHECK.due("nothing stays changed", 0, () -> x.told(4));
    }
}
