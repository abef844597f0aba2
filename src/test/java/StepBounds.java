/** Boundaries of WARDS, STEPS and moves, as 'Terms' names them behind its 2. */
final class StepBounds {
    private static final int NONE = -1;

    private StepBounds() {
    }

    static void work(Check check, WinnerDraws x, String text, int done, int refused) {
        check.due("done of '" + text + "'", done, () -> Check.work(x, text));
        check.due("refused of '" + text + "'", refused, () -> x.told(10));
    }

    static void votes(Check check, WinnerDraws x, int parish, int first, int second) {
        check.due("votes of 0 in " + parish, first, () -> x.parish(parish, 1));
        check.due("votes of 1 in " + parish, second, () -> x.parish(parish, 2));
    }

    static void rule(Check check, WinnerDraws x, int ruler, int reign, int year) {
        check.due("who rules", ruler, () -> x.told(5));
        check.due("reign", reign, () -> x.told(6));
        check.due("year", year, () -> x.told(4));
    }

    /** What STEPS change, as far as it can be asked for one by one. */
    static String state(WinnerDraws x) {
        StringBuilder state = new StringBuilder();
        for (int what : new int[] {0, 1, 2, 3, 4, 5, 6, 7, 8, 9, 12}) {
            state.append(x.told(what)).append(' ');
        }
        for (int parish = 0; parish < x.told(0); parish++) {
            for (int what = 0; what <= 3; what++) {
                state.append(x.parish(parish, what)).append(' ');
            }
        }
        for (int ward = 0; ward < 4; ward++) {
            for (int what = 0; what <= 4; what++) {
                state.append(x.ward(ward, what)).append(' ');
            }
        }
        return state.toString();
    }

    static void unchanged(Check check, String before, WinnerDraws x) {
        String now = state(x);
        check.same("as before: " + before + "became " + now, 1, now.equals(before) ? 1 : 0);
    }

    /** An object in a YEAR from 0 to 400, all of its WORKS still to undo. */
    static WinnerDraws inYear(String county, int year) {
        WinnerDraws x = Check.of(county);
        for (int left = year; left > 0; left -= 160) {
            int rounds = Math.min(left, 160);
            Check.work(x, "again " + rounds / 4 + "[vote;vote;vote;vote;];again " + rounds % 4 + "[vote;];");
        }
        return x;
    }

    // ---- WARDS ----

    @Says(at = "Terms", words = "There are four WARDS.")
    static void fourWards(Check check) {
        WinnerDraws x = new WinnerDraws();
        check.due("the first", 0, () -> x.ward(0, 0));
        check.due("the last", 0, () -> x.ward(3, 0));
        check.due("a fifth", Check.NO_SUCH, () -> x.ward(4, 0));
        check.due("one below", Check.NO_SUCH, () -> x.ward(-1, 0));
    }

    @Says(at = "Terms", words = "Who has more VOTES in a WARD wins it; as many: none does.")
    static void whoWins(Check check) {
        WinnerDraws x = Check.of("parish 0 5 4;parish 1 4 5;parish 2 6 3;parish 2 3 6;");
        check.due("one vote more of 0", 0, () -> x.ward(0, 3));
        check.due("one vote more of 1", 1, () -> x.ward(1, 3));
        check.due("as many", NONE, () -> x.ward(2, 3));
        check.due("no votes", NONE, () -> x.ward(3, 3));
    }

    @Says(at = "Terms", words = "SEATS of a SIDE: WARDS it wins.")
    static void seats(Check check) {
        WinnerDraws all = Check.of("parish 0 0 1;parish 1 0 1;parish 2 0 1;parish 3 0 1;");
        check.due("all of them", 4, () -> all.side(1, 0));
        check.due("none", 0, () -> all.side(0, 0));
        WinnerDraws some = Check.of("parish 0 1 1;parish 1 9 0;parish 2 0 1;parish 2 0 1;");
        check.due("one ward of 0", 1, () -> some.side(0, 0));
        check.due("one ward of 1, by two parishes", 1, () -> some.side(1, 0));
    }

    @Says(at = "Terms", words = "It is YEAR 0 at first, no SIDE rules (its reign is 0).")
    static void atFirst(Check check) {
        rule(check, new WinnerDraws(), NONE, 0, 0);
        WinnerDraws x = Check.of("parish 0 1 0;");
        rule(check, x, NONE, 0, 0);
        Check.work(x, "vote;vote;");
        rule(check, x, 0, 2, 2);
        Check.county(x, "parish 0 1 0;");
        rule(check, x, NONE, 0, 0);
    }

    @Says(at = "Terms", words = "LINES: ROADS between PARISHES of unlike WARDS.")
    static void lines(Check check) {
        WinnerDraws x = Check.of("parish 0 0 0;parish 0 0 0;parish 1 0 0;parish 2 0 0;"
                + "road 0 1;road 1 2;road 2 3;road 2 1;road 3 0;");
        check.due("roads", 4, () -> x.told(1));
        check.due("lines", 3, () -> x.told(7));
        WinnerDraws one = Check.of("parish 3 0 0;parish 3 0 0;road 0 1;");
        check.due("none in one ward", 0, () -> one.told(7));
        StringBuilder all = new StringBuilder();
        for (int i = 0; i < 10; i++) {
            all.append("parish ").append(i % 4).append(" 0 0;");
        }
        for (int a = 0; a < 10; a++) {
            for (int b = a + 1; b < 10; b++) {
                if (a % 4 != b % 4) {
                    all.append("road ").append(a).append(' ').append(b).append(';');
                }
            }
        }
        WinnerDraws many = Check.of(all.toString());
        check.due("a road from each parish to all of unlike wards", 37, () -> many.told(1));
        check.due("all of them lines", 37, () -> many.told(7));
        check.due("at all parishes", 1023, () -> many.border());
    }

    // ---- STEPS ----

    @Says(at = "Terms", words = "STEPS are done in order;")
    static void inOrder(Check check) {
        WinnerDraws x = Check.of("parish 0 0 0;");
        work(check, x, "count 0 1 0;vote;count 0 0 1;", 3, 0);
        rule(check, x, 0, 1, 1);
        work(check, x, "count 0 1 0;count 0 0 1;vote;", 3, 0);
        rule(check, x, 1, 1, 2);
        work(check, x, "again 2[vote;count 0 1 0;];", 3, 1);
        rule(check, x, 0, 1, 4);
    }

    @Says(at = "Terms", words = "one that can't be done is REFUSED, and changes nothing;")
    static void refusedStepsChangeNothing(Check check) {
        WinnerDraws x = inYear("parish 0 3 0;parish 0 0 2;parish 1 0 9;road 0 1;road 1 2;tide 0 20;purse 0;", 400);
        String before = state(x);
        work(check, x, "vote;draw;move 0 0;move 1 1;move 2 0;move 0 3;", 0, 6);
        unchanged(check, before, x);
        int first = x.parish(0, 1);
        int second = x.parish(0, 2);
        work(check, x, "count 0 " + first + " " + second + ";", 0, 1);
        unchanged(check, before, x);
        check.due("the works are kept, though", 5, () -> x.count(2));
        work(check, x, "draw;count 0 99 0;draw;count 1 0 99;", 2, 2);
    }

    @Says(at = "Terms", words = "200 STEPS at most are begun by one WORK")
    static void twoHundredSteps(Check check) {
        WinnerDraws x = Check.of("parish 0 1 0;");
        // 1 again and 160 votes, 1 again and 37 votes: 199 STEPS; one more may be begun.
        work(check, x, "again 40[vote;vote;vote;vote;];again 37[vote;];vote;vote;", 198, 0);
        check.due("the 201st is not done", 198, () -> x.told(4));
        WinnerDraws y = Check.of("parish 0 1 0;");
        work(check, y, "again 40[vote;vote;vote;vote;];again 38[vote;];vote;", 198, 0);
        WinnerDraws z = Check.of("parish 0 1 0;");
        work(check, z, "again 40[vote;vote;vote;vote;];again 36[vote;];vote;vote;", 198, 0);
        work(check, z, "again 40[draw;draw;draw;draw;];again 39[draw;];", 0, 198);
        work(check, z, "vote;vote;", 2, 0);
        check.due("each work has its own", 200, () -> z.told(4));
    }

    @Says(at = "Terms", words = "(an again, too, each time it is come to;")
    static void againsAreSteps(Check check) {
        WinnerDraws x = Check.of("parish 0 1 0;");
        // The inner again is come to 40 times: 1 and 80 are begun, then 41, 41, and 1 with the 36 that are left.
        work(check, x, "again 40[again 1[draw;];];again 40[vote;];again 40[vote;];again 40[vote;];", 116, 40);
        // 1 and 39 times 5 are 196; of the 40th round an again and three draws are begun, not the fourth.
        WinnerDraws y = Check.of("parish 0 1 0;");
        work(check, y, "again 40[again 3[draw;];draw;];vote;", 0, 159);
        // What is said no time is a STEP as well: 1 and 160 and 1, so 38 are left.
        WinnerDraws z = Check.of("parish 0 1 0;");
        work(check, z, "again 40[again 0[];again 0[];again 0[];again 0[];];again 40[vote;];", 38, 0);
        // The 200th is an again: what it holds is left out.
        work(check, z, "again 40[draw;draw;draw;draw;];again 37[draw;];again 9[vote;];", 0, 197);
        work(check, z, "again 40[draw;draw;draw;draw;];again 36[draw;];again 9[vote;];", 1, 196);
    }

    @Says(at = "Terms", words = "REFUSED ones, too), what would come behind is left out.")
    static void refusedStepsAreBegun(Check check) {
        WinnerDraws x = Check.of("");
        work(check, x, "again 40[draw;draw;draw;draw;];again 38[draw;];vote;", 0, 198);
        work(check, x, "again 40[draw;draw;draw;draw;];again 37[draw;];vote;", 1, 197);
        work(check, x, "again 40[again 40[again 40[again 40[again 40[again 40[draw;vote;];];];];];];", 96, 96);
    }

    @Says(at = "Terms", words = "vote (REFUSED from YEAR 400 on):")
    static void noVotesFromYear400On(Check check) {
        WinnerDraws x = inYear("parish 0 0 0;parish 1 9 0;parish 1 9 0;road 0 1;tide 0 20;tide 0 10;", 399);
        rule(check, x, 0, 399, 399);
        work(check, x, "vote;", 1, 0);
        rule(check, x, 0, 400, 400);
        work(check, x, "count 0 0 50;vote;again 3[vote;];", 1, 4);
        votes(check, x, 0, 0, 50);
        rule(check, x, 0, 400, 400);
        work(check, x, "vote;count 0 0 99;move 1 0;", 2, 1);
        rule(check, x, 0, 400, 400);
        check.due("moved once", 1, () -> x.told(12));
    }

    @Says(at = "Terms", words = "are there TIDES, the TIDE whose number is what is left of the YEAR by how many TIDES there are comes:")
    static void tidesComeByTurns(Check check) {
        WinnerDraws none = Check.of("parish 0 50 50;");
        work(check, none, "vote;vote;", 2, 0);
        votes(check, none, 0, 50, 50);
        WinnerDraws x = Check.of("parish 0 50 50;tide 0 20;tide 1 20;tide 1 0;");
        int[][] due = {{60, 40}, {48, 52}, {48, 52}, {58, 42}, {47, 53}};
        for (int[] each : due) {
            work(check, x, "vote;", 1, 0);
            votes(check, x, 0, each[0], each[1]);
        }
        Check.county(x, "parish 0 50 50;");
        work(check, x, "vote;", 1, 0);
        votes(check, x, 0, 50, 50);
        WinnerDraws one = Check.of("parish 0 0 50;tide 0 10;");
        work(check, one, "vote;", 1, 0);
        votes(check, one, 0, 5, 45);
        work(check, one, "vote;", 1, 0);
        votes(check, one, 0, 9, 41);
    }

    @Says(at = "Terms", words = "in each PARISH N of 100 (cut) of the VOTES of the other SIDE are its SIDE's from now on;")
    static void tidesAreCut(Check check) {
        WinnerDraws x = Check.of("parish 0 0 9;parish 0 3 10;parish 1 99 99;parish 2 0 19;parish 3 0 0;tide 0 10;");
        work(check, x, "vote;", 1, 0);
        int[][] due = {{0, 9}, {4, 9}, {108, 90}, {1, 18}, {0, 0}};
        for (int parish = 0; parish < 5; parish++) {
            votes(check, x, parish, due[parish][0], due[parish][1]);
        }
        WinnerDraws other = Check.of("parish 0 5 0;parish 0 4 7;tide 1 20;");
        work(check, other, "vote;", 1, 0);
        votes(check, other, 0, 4, 1);
        votes(check, other, 1, 4, 7);
        WinnerDraws still = Check.of("parish 0 99 99;tide 1 0;");
        work(check, still, "vote;", 1, 0);
        votes(check, still, 0, 99, 99);
    }

    @Says(at = "Terms", words = "then that SIDE rules that has more SEATS;")
    static void moreSeatsRule(Check check) {
        WinnerDraws x = Check.of("parish 0 1 0;parish 1 1 0;parish 2 0 99;");
        work(check, x, "vote;", 1, 0);
        rule(check, x, 0, 1, 1);
        WinnerDraws other = Check.of("parish 0 0 1;parish 1 50 50;parish 2 0 1;parish 3 99 0;");
        work(check, other, "vote;", 1, 0);
        rule(check, other, 1, 1, 1);
        // It is behind the TIDE that SEATS are counted.
        WinnerDraws turned = Check.of("parish 0 10 9;tide 1 10;");
        work(check, turned, "vote;", 1, 0);
        rule(check, turned, 1, 1, 1);
    }

    @Says(at = "Terms", words = "if both have as many, that one that has more VOTES in all;")
    static void moreVotesRule(Check check) {
        WinnerDraws x = Check.of("parish 0 9 8;parish 1 0 1;parish 2 0 1;parish 3 1 0;");
        work(check, x, "vote;", 1, 0);
        rule(check, x, NONE, 0, 1);
        work(check, x, "count 0 10 8;vote;", 2, 0);
        rule(check, x, 0, 1, 2);
        work(check, x, "count 0 9 7;count 1 0 2;vote;", 3, 0);
        rule(check, x, 0, 2, 3);
        work(check, x, "count 1 0 3;vote;", 2, 0);
        rule(check, x, 1, 1, 4);
    }

    @Says(at = "Terms", words = "if these are alike, too, who ruled rules on (if none did, none does);")
    static void whoRuledRulesOn(Check check) {
        WinnerDraws x = Check.of("parish 0 5 5;");
        work(check, x, "vote;vote;", 2, 0);
        rule(check, x, NONE, 0, 2);
        work(check, x, "count 0 5 6;vote;count 0 5 5;vote;vote;", 5, 0);
        rule(check, x, 1, 3, 5);
        work(check, x, "count 0 6 5;vote;count 0 0 0;vote;", 4, 0);
        rule(check, x, 0, 2, 7);
    }

    @Says(at = "Terms", words = "its reign is one more, if it did, else 1 (0, if none rules);")
    static void reigns(Check check) {
        WinnerDraws x = Check.of("parish 0 0 0;");
        work(check, x, "vote;", 1, 0);
        rule(check, x, NONE, 0, 1);
        work(check, x, "count 0 1 0;vote;", 2, 0);
        rule(check, x, 0, 1, 2);
        work(check, x, "vote;", 1, 0);
        rule(check, x, 0, 2, 3);
        work(check, x, "count 0 0 1;vote;", 2, 0);
        rule(check, x, 1, 1, 4);
        work(check, x, "again 7[vote;];count 0 1 0;vote;", 9, 0);
        rule(check, x, 0, 1, 12);
    }

    @Says(at = "Terms", words = "the YEAR is one more.")
    static void yearIsOneMore(Check check) {
        WinnerDraws x = Check.of("parish 0 0 1;");
        for (int year = 1; year <= 7; year++) {
            work(check, x, "count 0 0 " + (year + 1) + ";draw;vote;", 2, 1);
            rule(check, x, 1, year, year);
        }
    }

    // ---- moves ----

    @Says(at = "Terms", words = "move: PARISH P comes to WARD D (REFUSED, if it may not, or COST is more than N of purse).")
    static void movesThatArePaidFor(Check check) {
        String county = "parish 0 0 0;parish 0 0 0;parish 1 0 0;road 0 1;road 1 2;";
        for (int purse : new int[] {0, 5, 60, 99}) {
            WinnerDraws x = Check.of(county + "purse " + purse + ";");
            Check.law(x, Integer.toString(purse + 1));
            work(check, x, "move 1 1;", purse >= 60 ? 1 : 0, purse >= 60 ? 0 : 1);
            WinnerDraws y = Check.of(county + "purse " + purse + ";");
            Check.law(y, Integer.toString(purse));
            work(check, y, "move 1 1;", 1, 0);
            check.due("it came there", 1, () -> y.parish(1, 0));
            check.due("the one it left", 1, () -> y.ward(0, 0));
            check.due("the one to which it came", 6, () -> y.ward(1, 0));
        }
        WinnerDraws none = Check.of(county + "purse 0;");
        work(check, none, "move 1 1;", 0, 1);
        Check.law(none, "0");
        work(check, none, "move 1 2;move 0 1;move 2 0;move 1 0;move 1 1;", 1, 4);
    }

    private static void may(Check check, String county, int... due) {
        WinnerDraws x = Check.of(county);
        for (int i = 0; i < due.length; i++) {
            int parish = i;
            check.due("may " + i + " in " + county, due[i], () -> x.may(parish));
        }
    }

    @Says(at = "Terms", words = "A PARISH MAY come to a WARD, if it is not in it,")
    static void notToItsOwnWard(Check check) {
        may(check, "parish 2 0 0;parish 2 0 0;parish 2 0 0;road 0 1;road 1 2;road 0 2;", 0, 0, 0);
        may(check, "parish 2 0 0;parish 2 0 0;parish 3 0 0;road 0 1;road 1 2;road 0 2;", 8, 8, 0);
    }

    @Says(at = "Terms", words = "and a ROAD goes from it to a PARISH of that WARD,")
    static void onlyByARoad(Check check) {
        may(check, "parish 0 0 0;parish 0 0 0;parish 1 0 0;parish 2 0 0;parish 3 0 0;"
                + "road 0 1;road 1 2;road 2 3;road 0 4;road 3 4;", 8, 2, 0, 0, 0);
        may(check, "parish 0 0 0;parish 0 0 0;parish 1 0 0;parish 2 0 0;parish 3 0 0;"
                + "road 0 1;road 2 1;road 1 3;road 1 4;", 0, 14, 0, 0, 0);
        may(check, "parish 0 0 0;parish 0 0 0;parish 1 0 0;road 0 1;", 0, 0, 0);
    }

    @Says(at = "Terms", words = "and there are others in the WARD it leaves,")
    static void notTheLastOfItsWard(Check check) {
        may(check, "parish 0 0 0;parish 1 0 0;parish 2 0 0;road 0 1;road 1 2;road 0 2;", 0, 0, 0);
        may(check, "parish 0 0 0;parish 1 0 0;parish 1 0 0;road 0 1;road 1 2;road 0 2;", 0, 1, 1);
    }

    @Says(at = "Terms", words = "and these hang together by ROADS among themselves.")
    static void notIfTheOthersFallApart(Check check) {
        // Parish 1 holds 0 and 2 together; they have a way by 3 of another ward as well, which does not count.
        may(check, "parish 0 0 0;parish 0 0 0;parish 0 0 0;parish 1 0 0;"
                + "road 0 1;road 1 2;road 0 3;road 1 3;road 2 3;", 2, 0, 2, 0);
        may(check, "parish 0 0 0;parish 0 0 0;parish 0 0 0;parish 1 0 0;"
                + "road 0 1;road 1 2;road 0 3;road 1 3;road 2 3;road 0 2;", 2, 2, 2, 0);
        // They did not all hang together before: only what is left counts.
        may(check, "parish 0 0 0;parish 0 0 0;parish 0 0 0;parish 1 0 0;road 0 1;road 2 3;road 0 3;", 0, 0, 2, 0);
        // A long way round: 0 by 8, 2, 7, 3, 6, 4 and 5 to 1; without 9 all others hang together.
        may(check, "parish 0 0 0;parish 0 0 0;parish 0 0 0;parish 0 0 0;parish 0 0 0;parish 0 0 0;parish 0 0 0;"
                + "parish 0 0 0;parish 0 0 0;parish 1 0 0;road 0 8;road 8 2;road 2 7;road 7 3;road 3 6;road 6 4;"
                + "road 4 5;road 5 1;road 1 9;road 0 9;road 6 9;", 2, 2, 0, 0, 0, 0, 0, 0, 0, 0);
    }

    @Says(at = "Terms", words = "draw: the SIDE that rules makes its BEST move (REFUSED, if none rules, or there is none).")
    static void draws(Check check) {
        WinnerDraws x = Check.of("parish 0 0 5;parish 0 3 0;parish 1 1 0;road 0 1;road 1 2;");
        work(check, x, "draw;", 0, 1);
        // Now 0 rules; moved to ward 1, parish 1 would leave it as many WARDS as before.
        work(check, x, "count 2 4 0;vote;", 2, 0);
        rule(check, x, 0, 1, 1);
        work(check, x, "draw;", 0, 1);
        WinnerDraws y = Check.of("parish 0 4 3;parish 0 0 1;parish 1 2 0;road 0 1;road 1 2;");
        work(check, y, "draw;", 0, 1);
        work(check, y, "vote;draw;draw;", 2, 1);
        check.due("1 was moved to ward 1", 1, () -> y.parish(1, 0));
        check.due("once", 1, () -> y.told(12));
        check.due("side 0 has both", 2, () -> y.side(0, 2));
    }

    @Says(at = "Terms", words = "count: the VOTES in P are A, B from now on (REFUSED, if they are).")
    static void counts(Check check) {
        WinnerDraws x = Check.of("parish 0 5 6;parish 1 5 6;");
        work(check, x, "count 0 5 6;", 0, 1);
        work(check, x, "count 0 6 5;count 1 5 7;", 2, 0);
        votes(check, x, 0, 6, 5);
        votes(check, x, 1, 5, 7);
        work(check, x, "count 0 6 6;count 0 6 6;count 0 7 6;", 2, 1);
        votes(check, x, 0, 7, 6);
        check.due("who wins the ward then", 0, () -> x.ward(0, 3));
        check.due("and the other", 1, () -> x.ward(1, 3));
    }
}
