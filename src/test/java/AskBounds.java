/** Boundaries of what is only asked, as 'Terms' names them behind its 3. */
final class AskBounds {
    private static final int NONE = -1;

    /** Of two places there is a way from one to the other, and back: parish 1 is in ward 0 (MARGIN -1), or in 1 (0). */
    private static final String SWAYING = "parish 0 0 3;parish 0 3 0;parish 1 0 1;road 0 1;road 1 2;purse 0;";

    /** Side 0 wins ward 0 without parish 0, and has as many votes as 1 there without parish 1. */
    private static final String DEAR = "parish 0 0 5;parish 0 0 1;parish 0 5 0;parish 1 9 0;"
            + "road 0 2;road 1 2;road 0 3;road 1 3;";

    /** Four moves alike for side 0: parishes 0 and 1 to wards 1 (of three) and 2 (of one). */
    private static final String ALIKE = "parish 0 0 5;parish 0 0 5;parish 0 5 0;parish 1 9 0;parish 2 9 0;"
            + "parish 1 0 0;parish 1 0 0;road 0 2;road 1 2;road 0 3;road 0 4;road 1 3;road 1 4;road 3 5;road 3 6;";

    /** Side 1 wins ward 1 only by all three moves along the row. */
    private static final String ROW = "parish 0 9 0;parish 0 0 2;parish 0 0 2;parish 0 0 2;parish 1 5 0;"
            + "road 0 1;road 1 2;road 2 3;road 3 4;purse 0;";

    private AskBounds() {
    }

    private static void best(Check check, WinnerDraws x, int side, int parish, int ward, int margin) {
        check.due("best parish of " + side, parish, () -> x.best(side, 0));
        check.due("best ward of " + side, ward, () -> x.best(side, 1));
        check.due("best margin of " + side, margin, () -> x.best(side, 2));
    }

    private static void redrawn(Check check, WinnerDraws x, int side, int... due) {
        for (int i = 0; i < due.length; i++) {
            int k = i;
            check.due("redrawn " + side + " " + k, due[k], () -> x.redrawn(side, k));
        }
    }

    private static void turned(Check check, WinnerDraws x, int... due) {
        for (int i = 0; i < due.length; i++) {
            int k = i;
            check.due("turned " + k, due[k], () -> x.turned(k));
        }
    }

    private static void reigns(Check check, WinnerDraws x, int n, int ruler, int others) {
        check.due("who rules behind " + n, ruler, () -> x.reigns(n, 0));
        check.due("how often another one by " + n, others, () -> x.reigns(n, 1));
    }

    private static void round(Check check, String county, int a, int b) {
        round(check, Check.of(county), a, b);
    }

    private static void round(Check check, WinnerDraws x, int a, int b) {
        check.due("a", a, () -> x.round(0));
        check.due("b", b, () -> x.round(1));
    }

    private static void waste(Check check, String county, int side, int above, int below) {
        WinnerDraws x = Check.of(county);
        check.due("waste of " + side + " in " + county, above, () -> x.waste(side, 0));
        check.due("by all in " + county, below, () -> x.waste(side, 1));
    }

    private static void fits(Check check, WinnerDraws x, String book, int many, int first) {
        Check.book(x, book);
        check.due("fits by '" + book + "'", many, () -> x.fits(0));
        check.due("first by '" + book + "'", first, () -> x.fits(1));
    }

    private static void look(Check check, WinnerDraws x, String book, int ward, int left) {
        Check.book(x, book);
        check.due("look by '" + book + "'", ward, () -> x.look(0));
        check.due("left at the worst by '" + book + "'", left, () -> x.look(1));
    }

    @Says(at = "Terms", words = "Asked, nothing stays changed.")
    static void nothingStaysChanged(Check check) {
        for (String county : new String[] {"", SWAYING, DEAR, ALIKE, ROW, CountyTest.CHAIN + "tide 1 20;tide 0 10;"}) {
            WinnerDraws x = Check.of(county);
            Check.work(x, "vote;draw;vote;move 0 0;".substring(0, x.told(0) == 0 ? 15 : 24));
            Check.book(x, "0 0;x");
            Check.feed(x, "1");
            x.image();
            long refused = x.told(10);
            String before = StepBounds.state(x);
            long first = asked(x);
            StepBounds.unchanged(check, before, x);
            check.same("asked once more", first, asked(x));
            check.due("images", 1, () -> x.count(0));
            check.due("bytes of the tape", 20, () -> x.count(1));
            check.due("works", 1, () -> x.count(2));
            check.due("fault", 4, x::fault);
            check.due("refused steps", refused, () -> x.told(10));
            check.due("undo", 0, x::undo);
            check.due("year 0", 0, () -> x.told(4));
            check.due("restore", 0, x::restore);
            StepBounds.unchanged(check, before, x);
        }
    }

    private static long asked(WinnerDraws x) {
        long sum = 0;
        for (int i = 0; i <= 3; i++) {
            int k = i;
            sum = sum * 31 + x.redrawn(0, k);
            sum = sum * 31 + x.redrawn(1, k);
            sum = sum * 31 + x.turned(k);
            sum = sum * 31 + x.time(k, 16, 48, k);
            sum = sum * 31 + Check.answerOf(() -> x.cost(k, 3 - k));
            sum = sum * 31 + Check.answerOf(() -> x.may(k));
        }
        for (int i = 0; i <= 1; i++) {
            sum = sum * 31 + x.best(0, i) + x.best(1, i) + x.swing(i) + x.waste(i, i);
            sum = sum * 31 + x.reigns(60, i) + x.round(i);
            sum = sum * 31 + x.fits(i) + x.look(i);
            sum = sum * 31 + x.span(9, 10, 16, 20, i, 0) + x.recount(12, 5, 5, i);
        }
        return sum + x.would(5, 5, 5, 5, 5, 5, 5, 5);
    }

    @Says(at = "Terms", words = "MARGIN of a SIDE: its SEATS less those of the other one.")
    static void margins(Check check) {
        WinnerDraws all = Check.of("parish 0 0 1;parish 1 0 1;parish 2 0 1;parish 3 0 1;");
        check.due("the least", -4, () -> all.side(0, 2));
        check.due("the greatest", 4, () -> all.side(1, 2));
        WinnerDraws some = Check.of("parish 0 9 1;parish 1 0 1;parish 2 0 1;parish 3 5 5;");
        check.due("one less two", -1, () -> some.side(0, 2));
        check.due("two less one", 1, () -> some.side(1, 2));
        check.due("without parishes", 0, () -> new WinnerDraws().side(1, 2));
    }

    // ---- BEST ----

    @Says(at = "Terms", words = "BEST of a SIDE: of all moves that may be, of COST of no more than the purse")
    static void bestWithinThePurse(Check check) {
        WinnerDraws x = Check.of(DEAR);
        best(check, x, 0, 0, 1, 2);
        Check.law(x, "people*5-4");
        best(check, x, 0, 1, 1, 1);
        Check.law(x, "people*5-5");
        best(check, x, 0, 0, 1, 2);
        Check.law(x, "20");
        best(check, x, 0, 0, 1, 2);
        Check.law(x, "21");
        best(check, x, 0, NONE, NONE, NONE);
        WinnerDraws none = Check.of(DEAR + "purse 0;");
        best(check, none, 0, NONE, NONE, NONE);
        Check.law(none, "0");
        best(check, none, 0, 0, 1, 2);
        WinnerDraws still = Check.of("parish 0 0 5;parish 0 6 0;parish 1 9 0;");
        best(check, still, 0, NONE, NONE, NONE);
    }

    @Says(at = "Terms", words = "(\"lead\" as the SIDE that rules now)")
    static void leadOfWhoRulesNow(Check check) {
        WinnerDraws x = Check.of("parish 0 9 0;parish 0 0 5;parish 1 9 0;parish 2 9 0;"
                + "road 0 1;road 0 2;road 0 3;purse 15;");
        Check.law(x, "10+lead");
        best(check, x, 1, NONE, NONE, NONE);
        Check.work(x, "vote;");
        check.due("0 rules", 0, () -> x.told(5));
        best(check, x, 1, NONE, NONE, NONE);
        Check.work(x, "count 2 0 9;count 3 0 9;vote;count 2 9 0;count 3 9 0;");
        check.due("1 rules", 1, () -> x.told(5));
        best(check, x, 1, 0, 1, -1);
        WinnerDraws y = Check.of(DEAR + "purse 15;");
        Check.law(y, "15-lead");
        Check.work(y, "count 3 0 9;vote;count 3 9 0;");
        check.due("1 rules there", 1, () -> y.told(5));
        best(check, y, 0, 0, 1, 2);
        Check.law(y, "15+lead");
        best(check, y, 0, NONE, NONE, NONE);
    }

    @Says(at = "Terms", words = "that by which its MARGIN is greatest;")
    static void bestByMargin(Check check) {
        WinnerDraws x = Check.of(DEAR);
        Check.law(x, "people*4");
        best(check, x, 0, 0, 1, 2);
        // The better one comes last here: parishes 0 and 1 have changed their places.
        WinnerDraws y = Check.of("parish 0 0 1;parish 0 0 5;parish 0 5 0;parish 1 9 0;"
                + "road 0 2;road 1 2;road 0 3;road 1 3;");
        Check.law(y, "people*4");
        best(check, y, 0, 1, 1, 2);
    }

    @Says(at = "Terms", words = "of alike ones that of least COST;")
    static void bestByCost(Check check) {
        WinnerDraws x = Check.of(ALIKE);
        Check.law(x, "9-parish");
        best(check, x, 0, 1, 1, 2);
        Check.law(x, "room*3");
        best(check, x, 0, 0, 2, 2);
        Check.law(x, "5-room");
        best(check, x, 0, 0, 1, 2);
        Check.law(x, "15-parish*10-room");
        best(check, x, 0, 1, 1, 2);
        Check.law(x, "15-parish*10+room");
        best(check, x, 0, 1, 2, 2);
    }

    @Says(at = "Terms", words = "of alike ones the first (by PARISHES, then WARDS);")
    static void bestIsTheFirst(Check check) {
        best(check, Check.of(ALIKE), 0, 0, 1, 2);
        WinnerDraws x = Check.of(ALIKE.replace("road 0 3;", ""));
        best(check, x, 0, 0, 2, 2);
        Check.law(x, "10-room*2");
        best(check, x, 0, 1, 1, 2);
        // Costs that are alike since they are cut to 60, or to 0.
        WinnerDraws rich = Check.of(ALIKE + "purse 60;");
        Check.law(rich, "99-parish");
        best(check, rich, 0, 0, 1, 2);
        Check.law(rich, "0-parish");
        best(check, rich, 0, 0, 1, 2);
    }

    @Says(at = "Terms", words = "but none, by which MARGIN is not greater than now: NONE.")
    static void bestIsGreater(Check check) {
        WinnerDraws alike = Check.of("parish 0 2 0;parish 0 0 1;parish 1 0 1;road 0 1;road 1 2;");
        check.due("there is a move", 2, () -> alike.may(1));
        best(check, alike, 0, NONE, NONE, NONE);
        best(check, alike, 1, NONE, NONE, NONE);
        WinnerDraws worse = Check.of(SWAYING + "purse 9;");
        best(check, worse, 0, 1, 1, 0);
        best(check, worse, 1, NONE, NONE, NONE);
        Check.work(worse, "move 1 1;");
        best(check, worse, 0, NONE, NONE, NONE);
        best(check, worse, 1, 1, 0, 1);
        check.due("its margin is below 0 still", -1, () -> Check.of("parish 0 9 0;parish 0 0 5;parish 1 9 0;"
                + "parish 2 9 0;road 0 1;road 0 2;").best(1, 2));
    }

    // ---- REDRAWN, BY TURNS ----

    @Says(at = "Terms", words = "REDRAWN of a SIDE and k: the greatest MARGIN it can have behind k moves or fewer,")
    static void redrawnByFewer(Check check) {
        WinnerDraws x = Check.of(SWAYING);
        redrawn(check, x, 0, -1, 0, 0, 0);
        redrawn(check, x, 1, 1, 1, 1, 1);
        Check.law(x, "0");
        Check.work(x, "move 1 1;");
        redrawn(check, x, 0, 0, 0, 0, 0);
        redrawn(check, x, 1, 0, 1, 1, 1);
        WinnerDraws still = Check.of("parish 0 1 0;parish 1 1 0;parish 2 0 1;");
        redrawn(check, still, 0, 1, 1, 1, 1);
        redrawn(check, new WinnerDraws(), 1, 0, 0, 0, 0);
    }

    @Says(at = "Terms", words = "one behind the other, each one that MAY be then")
    static void redrawnOneBehindTheOther(Check check) {
        WinnerDraws x = Check.of(ROW);
        redrawn(check, x, 1, -2, -2, -2, 0);
        redrawn(check, x, 0, 2, 2, 2, 2);
        WinnerDraws two = Check.of("parish 0 9 0;parish 0 0 2;parish 0 0 2;parish 1 3 0;road 0 1;road 1 2;road 2 3;");
        redrawn(check, two, 1, -2, -2, 0, 0);
    }

    @Says(at = "Terms", words = "(COSTS all the same).")
    static void redrawnWhateverItCosts(Check check) {
        WinnerDraws x = Check.of(ROW);
        Check.law(x, "60");
        redrawn(check, x, 1, -2, -2, -2, 0);
        turned(check, Check.of(SWAYING), -1, 0, -1, 0);
    }

    @Says(at = "Terms", words = "BY TURNS of k: k moves are made by turns, SIDE 0 first,")
    static void byTurns(Check check) {
        WinnerDraws x = Check.of(SWAYING);
        turned(check, x, -1, 0, -1, 0);
        Check.law(x, "0");
        Check.work(x, "move 1 1;");
        turned(check, x, 0, 0, -1, 0);
        turned(check, new WinnerDraws(), 0, 0, 0, 0);
    }

    @Says(at = "Terms", words = "each one that MAY be then, or none;")
    static void byTurnsOrNone(Check check) {
        // Of the three moves side 1 needs, it has the second alone; side 0 need not move.
        turned(check, Check.of(ROW), 2, 2, 2, 2);
        turned(check, Check.of("parish 0 1 0;parish 1 1 0;parish 2 0 1;"), 1, 1, 1, 1);
        // Each move that side 1 could make here would be good for side 0: it makes none.
        WinnerDraws x = Check.of("parish 0 0 3;parish 0 3 0;parish 1 0 1;road 0 1;road 1 2;");
        check.due("by two", -1, () -> x.turned(2));
    }

    @Says(at = "Terms", words = "SIDE 0 makes its MARGIN at the end as great as it can, SIDE 1 as small: what it is.")
    static void byTurnsAtTheEnd(Check check) {
        // One move gives side 0 ward 0, one (that of parish 0) both: but side 1 moves last of two.
        WinnerDraws x = Check.of(DEAR);
        turned(check, x, 0, 2, 0);
        WinnerDraws other = Check.of("parish 0 0 9;parish 1 0 9;parish 2 1 0;");
        turned(check, other, -1, -1, -1, -1);
    }

    // ---- REIGNS, ROUND ----

    @Says(at = "Terms", words = "REIGNS of n: so many years, in each vote (beyond YEAR 400, too), then draw, if it can be:")
    static void reignsOfYears(Check check) {
        WinnerDraws late = StepBounds.inYear("parish 0 50 50;tide 0 20;tide 1 20;", 400);
        check.due("year", 400, () -> late.told(4));
        reigns(check, late, 0, 1, 0);
        reigns(check, late, 1, 0, 1);
        reigns(check, late, 2, 1, 2);
        reigns(check, late, 60, 1, 60);
        // By its draw in the first year side 0 wins ward 1, and so rules on when the second tide gives ward 2 to 1.
        WinnerDraws drawn = Check.of("parish 0 10 0;parish 0 9 0;parish 1 0 4;parish 2 50 50;road 0 1;road 1 2;"
                + "tide 0 0;tide 1 20;purse 1;");
        reigns(check, drawn, 2, 0, 1);
        Check.law(drawn, "2");
        reigns(check, drawn, 2, 1, 2);
        reigns(check, Check.of("parish 0 1 0;"), 0, NONE, 0);
        reigns(check, Check.of("parish 0 1 0;"), 60, 0, 1);
    }

    @Says(at = "Terms", words = "how often another one ruled behind a vote than ahead of it (none, too, is another one).")
    static void reignsOfAnother(Check check) {
        reigns(check, Check.of("parish 0 5 5;"), 60, NONE, 0);
        WinnerDraws x = Check.of("parish 0 50 50;tide 0 20;tide 1 20;");
        reigns(check, x, 0, NONE, 0);
        reigns(check, x, 1, 0, 1);
        reigns(check, x, 2, 1, 2);
        reigns(check, x, 7, 0, 7);
        Check.work(x, "vote;");
        reigns(check, x, 0, 0, 0);
        reigns(check, x, 1, 1, 1);
        Check.work(x, "count 0 99 0;");
        reigns(check, x, 9, 0, 0);
    }

    @Says(at = "Terms", words = "ROUND: the least a (from 0 on), then the least b (from 1 on)")
    static void leastRound(Check check) {
        round(check, "", 0, 1);
        round(check, "parish 0 5 5;", 0, 1);
        round(check, "parish 0 5 5;tide 0 0;tide 1 0;tide 0 0;", 0, 3);
        round(check, "parish 0 5 4;tide 0 0;tide 0 0;", 1, 2);
        // Each year a vote less of side 1, until 2 of 100 are none of 49.
        round(check, "parish 0 9 99;tide 0 2;", 50, 1);
    }

    @Says(at = "Terms", words = "all WARDS and VOTES, the SIDE that rules, and the number of the TIDE to come are alike")
    static void whatIsAlikeInARound(Check check) {
        // Who rules: none ahead of the first vote.
        WinnerDraws ruler = Check.of("parish 0 1 0;");
        round(check, ruler, 1, 1);
        Check.work(ruler, "vote;");
        round(check, ruler, 0, 1);
        // WARDS alone: side 0 rules already, and draws once.
        WinnerDraws wards = Check.of("parish 0 4 3;parish 0 0 1;parish 1 2 0;road 0 1;road 1 2;");
        Check.work(wards, "vote;");
        round(check, wards, 1, 1);
        Check.work(wards, "draw;");
        round(check, wards, 0, 1);
        // It is parish 0 that is moved, and the last of ten.
        WinnerDraws first = Check.of("parish 0 0 1;parish 0 4 3;parish 1 2 0;road 0 1;road 0 2;");
        Check.work(first, "vote;");
        round(check, first, 1, 1);
        WinnerDraws tenth = Check.of("parish 0 4 3;parish 1 2 0;" + "parish 2 0 0;".repeat(7)
                + "parish 0 0 1;road 0 9;road 9 1;");
        Check.work(tenth, "vote;");
        round(check, tenth, 1, 1);
        // VOTES of one side are all that the second tide leaves unlike.
        WinnerDraws votes = Check.of("parish 0 99 10;tide 0 10;");
        Check.work(votes, "vote;count 0 99 10;");
        round(check, votes, 1, 1);
        // The TIDE to come: its number counts, not what it is.
        round(check, "tide 0 3;tide 0 3;", 0, 2);
        WinnerDraws sixth = Check.of("tide 0 3;".repeat(6));
        Check.work(sixth, "vote;");
        round(check, sixth, 0, 6);
    }

    @Says(at = "Terms", words = "(YEAR and reign all the same);")
    static void yearAndReignInARound(Check check) {
        WinnerDraws x = StepBounds.inYear("parish 0 1 0;tide 0 1;tide 0 2;", 400);
        round(check, x, 0, 2);
        Check.law(x, "year+reign");
        round(check, x, 0, 2);
    }

    @Says(at = "Terms", words = "a and b together 60 at most; NONE.")
    static void roundOfSixtyYears(Check check) {
        // Of six tides one turns nothing; the others take a vote a year each until 49 are left.
        String last = "tide 0 2;".repeat(5) + "tide 0 0;";
        String first = "tide 0 0;" + "tide 0 2;".repeat(5);
        round(check, "parish 0 9 94;" + last, 53, 6);
        round(check, "parish 0 9 94;" + first, 54, 6);
        round(check, "parish 0 9 95;" + last, NONE, NONE);
        round(check, "parish 0 9 95;" + first, NONE, NONE);
    }

    // ---- SWING, WASTE ----

    @Says(at = "Terms", words = "SWING to a SIDE: the least N (0 to 100)")
    static void swings(Check check) {
        check.due("it is above 0 now", 0, () -> Check.of("parish 0 1 0;").swing(0));
        check.due("all of one vote", 100, () -> Check.of("parish 0 1 0;").swing(1));
        check.due("one of 100 is none of 99", 2, () -> Check.of("parish 0 99 99;").swing(0));
        check.due("margin 0", 50, () -> Check.of("parish 0 2 0;parish 1 0 2;parish 2 1 1;").swing(1));
    }

    @Says(at = "Terms", words = "by which, had N of 100 (cut) of the VOTES of the other SIDE in each PARISH come to it,")
    static void swingsAreCutInEachParish(Check check) {
        check.due("a vote of each", 20, () -> Check.of("parish 0 0 5;parish 0 0 5;parish 0 9 0;").swing(0));
        check.due("a vote of the whole", 10, () -> Check.of("parish 0 0 10;parish 0 9 0;").swing(0));
        check.due("two of three", 67, () -> Check.of("parish 0 0 3;").swing(0));
        check.due("to the other side", 67, () -> Check.of("parish 0 3 0;").swing(1));
    }

    @Says(at = "Terms", words = "its MARGIN would be above 0; NONE.")
    static void swingsThatAreNone(Check check) {
        check.due("no votes", NONE, () -> Check.of("parish 0 0 0;parish 1 0 0;").swing(0));
        check.due("no parishes", NONE, () -> new WinnerDraws().swing(1));
        check.due("a margin of 0 is not above it", 100, () -> Check.of("parish 0 9 0;parish 1 0 1;").swing(0));
        check.due("nor is this one", 56, () -> Check.of("parish 0 9 0;parish 1 0 1;").swing(1));
    }

    @Says(at = "Terms", words = "WASTE of a SIDE: its VOTES in WARDS it does not win, and those above what it needs"
            + " (one more than the other one; so its VOTES less those of the other one, less 1) in those it wins,")
    static void wastes(Check check) {
        String county = "parish 0 5 2;parish 1 3 3;parish 2 0 4;";
        waste(check, county, 0, 5, 17);
        waste(check, county, 1, 8, 17);
        waste(check, "parish 0 3 2;", 0, 0, 1);
        waste(check, "parish 0 4 2;", 0, 1, 6);
        waste(check, "parish 0 0 1;parish 0 1 1;", 1, 0, 1);
        waste(check, "parish 0 0 1;parish 0 1 1;", 0, 1, 3);
        waste(check, "parish 3 1 1;parish 2 0 9;", 1, 9, 11);
    }

    @Says(at = "Terms", words = "by all VOTES of both.")
    static void wastesByAllVotes(Check check) {
        waste(check, "parish 0 4 4;", 0, 1, 2);
        waste(check, "parish 0 4 4;", 1, 1, 2);
        waste(check, "parish 0 9 0;parish 1 2 1;", 0, 2, 3);
        waste(check, "parish 0 0 0;", 1, 0, 1);
        waste(check, "parish 0 99 98;", 0, 0, 1);
    }

    // ---- FITS, LOOK ----

    @Says(at = "Terms", words = "FITS by BOOK: moves that MAY be (COST all the same), single ones, done now,")
    static void fitsWhateverTheyCost(Check check) {
        WinnerDraws x = Check.of(ALIKE + "purse 0;");
        fits(check, x, "", 4, 1);
        Check.law(x, "60");
        fits(check, x, "", 4, 1);
        fits(check, Check.of("parish 0 1 0;parish 0 1 0;parish 1 1 0;"), "", 0, NONE);
        fits(check, new WinnerDraws(), "0 2;", 0, NONE);
        // It takes three moves that side 1 wins ward 1: single ones are asked for.
        fits(check, Check.of(ROW), "1 1;", 0, NONE);
    }

    @Says(at = "Terms", words = "by which all lines are right:")
    static void fitsByAllLines(Check check) {
        WinnerDraws x = Check.of(CountyTest.CHAIN);
        fits(check, x, "0 0;", 3, 11);
        fits(check, x, "0 1;", 1, 1);
        fits(check, x, "0 2;", 0, NONE);
        fits(check, x, "0 0;1 1;", 2, 11);
        fits(check, x, "0 0;1 2;", 1, 33);
        fits(check, x, "0 1;1 2;", 0, NONE);
        fits(check, x, "3 0;2 2;1 1;0 0;", 2, 11);
        fits(check, x, "3 0;2 1;1 1;0 0;", 0, NONE);
        // What is right now, ahead of any move, does not count.
        fits(check, Check.of("parish 0 1 0;"), "0 0;", 0, NONE);
    }

    @Says(at = "Terms", words = "how many, the first (by PARISHES, then WARDS; 10 times the PARISH, and the WARD).")
    static void firstThatFits(Check check) {
        fits(check, Check.of(ALIKE.replace("road 0 3;", "")), "", 3, 2);
        fits(check, Check.of(ALIKE.replace("road 0 3;road 0 4;", "")), "", 2, 11);
        WinnerDraws last = Check.of("parish 3 0 0;" + "parish 1 0 0;".repeat(7) + "parish 2 0 0;parish 2 0 0;road 9 0;");
        fits(check, last, "", 1, 93);
        WinnerDraws zero = Check.of("parish 1 0 0;parish 1 0 0;parish 0 0 0;road 0 2;");
        fits(check, zero, "", 1, 0);
    }

    @Says(at = "Terms", words = "LOOK: the WARD in no line by which, whoever wins it then (or none),"
            + " fewest such moves are left at the worst, of these the first.")
    static void looks(Check check) {
        // Behind the four moves ward 0 is won by 1, 0, 0, 0; ward 1 by 1, 1, 1, none; 2 by none; 3 by 0.
        WinnerDraws x = Check.of(CountyTest.CHAIN);
        look(check, x, "", 0, 3);
        look(check, x, "3 0;", 0, 3);
        look(check, x, "0 0;", 1, 2);
        look(check, x, "1 1;", 0, 2);
        look(check, x, "0 0;1 1;", 2, 2);
        look(check, x, "0 0;1 1;2 2;", 3, 2);
        look(check, x, "3 1;", 0, 0);
        look(check, x, "0 2;", 1, 0);
        look(check, x, "0 0;1 1;2 2;3 0;", NONE, NONE);
        look(check, new WinnerDraws(), "", 0, 0);
        look(check, new WinnerDraws(), "0 1;", 1, 0);
    }

    // ---- RECOUNT, TIME ----

    private static void recount(Check check, int n, int k, int q, long above, long below) {
        WinnerDraws x = new WinnerDraws();
        check.due("above of " + n + " " + k + " " + q, above, () -> x.recount(n, k, q, 0));
        check.due("below of " + n + " " + k + " " + q, below, () -> x.recount(n, k, q, 1));
    }

    @Says(at = "Terms", words = "RECOUNT of n, k, q: each of n votes is turned by q of 16, each by itself:"
            + " how likely k or more are.")
    static void recounts(Check check) {
        recount(check, 0, 0, 0, 1, 1);
        recount(check, 0, 0, 16, 1, 1);
        recount(check, 1, 0, 0, 1, 1);
        recount(check, 1, 1, 0, 0, 1);
        recount(check, 1, 1, 1, 1, 16);
        recount(check, 1, 1, 15, 15, 16);
        recount(check, 1, 1, 16, 1, 1);
        recount(check, 2, 1, 8, 3, 4);
        recount(check, 2, 2, 4, 1, 16);
        recount(check, 3, 2, 4, 5, 32);
        recount(check, 12, 12, 16, 1, 1);
        recount(check, 12, 12, 8, 1, 4096);
        recount(check, 12, 12, 1, 1, 281474976710656L);
        recount(check, 12, 1, 15, 281474976710655L, 281474976710656L);
        recount(check, 12, 6, 8, 1255, 2048);
    }

    /** Without votes none rules and none draws: PARISHES are moved by DRAWS of the SEED alone. */
    private static final String VOTELESS = "parish 0 0 0;parish 0 0 0;parish 1 0 0;parish 1 0 0;parish 2 0 0;"
            + "parish 2 0 0;parish 3 0 0;road 0 1;road 0 2;road 0 4;road 0 5;road 1 3;road 1 4;road 1 6;road 2 3;"
            + "road 2 5;road 2 6;road 3 4;road 3 5;road 4 6;road 5 6;";

    @Says(at = "Terms", words = "A TIME by a SEED: for so many YEARS: are there PARISHES: DRAW by how many PARISHES, P,"
            + " by 4, D: DRAW by 16: is it below Q: move P D (if it can be done);")
    static void timesByDraws(Check check) {
        WinnerDraws x = Check.of(VOTELESS);
        // Seed, q, then how often a PARISH is moved, and LINES, by 1, 2, 7 and 48 years.
        int[][] due = {
            {0, 0, 0, 12, 0, 12, 0, 12, 0, 12},
            {0, 1, 0, 12, 0, 12, 1, 12, 3, 11},
            {0, 16, 0, 12, 0, 12, 1, 12, 19, 11},
            {1, 8, 1, 11, 1, 11, 4, 11, 16, 10},
            {1, 15, 1, 11, 2, 11, 4, 11, 26, 11},
            {1, 16, 1, 11, 2, 11, 5, 11, 22, 11},
            {-1, 15, 1, 11, 1, 11, 5, 10, 22, 10},
            {Integer.MAX_VALUE, 16, 1, 11, 1, 11, 5, 10, 22, 10},
            {Integer.MIN_VALUE, 8, 0, 12, 0, 12, 1, 12, 8, 10},
            {77, 1, 0, 12, 0, 12, 0, 12, 0, 12},
            {77, 16, 1, 11, 1, 11, 4, 11, 23, 11}};
        int[] years = {1, 2, 7, 48};
        for (int[] row : due) {
            for (int i = 0; i < years.length; i++) {
                int y = years[i];
                check.due("moves of seed " + row[0] + " by " + row[1] + " in " + y, row[2 + 2 * i],
                        () -> x.time(row[0], row[1], y, 2));
                check.due("lines of seed " + row[0] + " by " + row[1] + " in " + y, row[3 + 2 * i],
                        () -> x.time(row[0], row[1], y, 3));
            }
        }
        WinnerDraws poor = Check.of(VOTELESS + "purse 0;");
        check.due("what can't be paid for", 0, () -> poor.time(1, 16, 48, 2));
        WinnerDraws none = Check.of("tide 0 3;");
        check.due("without parishes", 0, () -> none.time(1, 16, 48, 2));
    }

    @Says(at = "Terms", words = "then vote, then draw (if it can be done; a vote beyond YEAR 400, too).")
    static void timesByVotes(Check check) {
        // None rules ahead of the vote, so what is drawn in the first year is drawn behind it.
        WinnerDraws x = Check.of("parish 0 4 3;parish 0 0 1;parish 1 2 0;road 0 1;road 1 2;");
        check.due("moves by its draw", 1, () -> x.time(1, 0, 1, 2));
        check.due("margin by its draw", 2, () -> x.time(1, 0, 1, 1));
        check.due("who rules", 0, () -> x.time(1, 0, 1, 0));
        check.due("lines", 1, () -> x.time(1, 0, 1, 3));
        // Seed 42 draws 19081, 17033, 15269: parish 1 comes to ward 1, if q is above 5, and so side 0 wins the vote.
        WinnerDraws y = Check.of("parish 0 0 3;parish 0 3 0;parish 1 0 2;parish 2 1 0;road 0 1;road 1 2;");
        check.due("moved ahead of the vote", 0, () -> y.time(42, 6, 1, 0));
        check.due("moved once", 1, () -> y.time(42, 6, 1, 2));
        check.due("not moved", 1, () -> y.time(42, 5, 1, 0));
        check.due("never", 0, () -> y.time(42, 5, 1, 2));
        WinnerDraws late = StepBounds.inYear("parish 0 50 50;tide 0 20;tide 1 20;", 400);
        check.due("ahead of it", 1, () -> late.told(5));
        check.due("beyond 400", 0, () -> late.time(1, 0, 1, 0));
        check.due("and more", 1, () -> late.time(1, 0, 48, 0));
        check.due("its year stays", 400, () -> late.told(4));
    }

    @Says(at = "Terms", words = "DRAW: the SEED (32 bits) becomes itself times 1,103,515,245, and 12,345 (it wraps);"
            + " its bits 16 to 30, what is left of them.")
    static void draws(Check check) {
        // Seed 1 draws 16838, 5758, 10113: of 4 parishes number 2, to ward 2, if q is above 1.
        String text = "parish 0 0 0;parish 0 0 0;parish 0 0 0;parish 2 0 0;road 0 1;road 1 2;road 2 3;";
        WinnerDraws x = Check.of(text);
        check.due("q 1", 0, () -> x.time(1, 1, 1, 2));
        check.due("q 2", 1, () -> x.time(1, 2, 1, 2));
        // Seed 4 draws 1817, 24166, 10491: number 1, to ward 2, to which it may not come.
        check.due("seed 4", 0, () -> x.time(4, 16, 1, 2));
        WinnerDraws y = Check.of(text.replace("road 2 3;", "road 1 3;road 0 2;"));
        check.due("seed 4, where it may", 1, () -> y.time(4, 16, 1, 2));
        check.due("seed 4 by 11", 0, () -> y.time(4, 11, 1, 2));
        check.due("seed 4 by 12", 1, () -> y.time(4, 12, 1, 2));
    }
}
