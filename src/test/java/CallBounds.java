/** Boundaries of the calls, as the promises name them. */
final class CallBounds {
    private static final int NONE = -1;
    private static final int[] OTHERS = {-1, Integer.MIN_VALUE, Integer.MAX_VALUE};

    /** Three PARISHES in a row, of two WARDS, and the votes of TIDES to come. */
    private static final String THREE = "parish 0 10 4;parish 0 3 5;parish 1 2 9;road 0 1;road 1 2;tide 1 10;purse 9;";

    private CallBounds() {
    }

    interface Asked {
        long of(int what);
    }

    private static void illegal(Check check, String what, Check.Call call) {
        check.due(what, Check.ILLEGAL, call);
    }

    private static void noSuch(Check check, String what, Check.Call call) {
        check.due(what, Check.NO_SUCH, call);
    }

    /** All from the least to the most are answered, what lies outside is illegal. */
    private static void range(Check check, String name, int least, int most, Asked asked) {
        for (int i = least; i <= most; i++) {
            int what = i;
            long answer = Check.answerOf(() -> asked.of(what));
            check.same(name + " " + what + " is answered", 1, answer != Check.ILLEGAL && answer != Check.NO_SUCH ? 1 : 0);
        }
        outside(check, name, least, most, asked, Check.ILLEGAL);
    }

    private static void outside(Check check, String name, int least, int most, Asked asked, long due) {
        for (int wrong : new int[] {least - 1, most + 1, Integer.MIN_VALUE, Integer.MAX_VALUE}) {
            check.due(name + " " + wrong, due, () -> asked.of(wrong));
        }
    }

    /** There is no such PARISH, WARD or SIDE outside, whatever else is asked. */
    private static void there(Check check, String name, int least, int most, Asked asked) {
        outside(check, name, least, most, asked, Check.NO_SUCH);
    }

    private static void row(Check check, String name, Asked asked, long... due) {
        for (int i = 0; i < due.length; i++) {
            int what = i;
            check.due(name + " " + what, due[i], () -> asked.of(what));
        }
    }

    // ---- promise 1, 2 ----

    @Says(at = "Promise 1", words = "A COUNTY without CLAUSES.")
    static void newObject(Check check) {
        WinnerDraws x = new WinnerDraws();
        row(check, "told", x::told, 0, 0, 0, 20, 0, -1, 0, 0, 0, 0, 0, 0, 0);
        row(check, "count", x::count, 0, 0, 0, -1);
        row(check, "status", x::status, 0, 0, -1);
        check.due("fault", NONE, x::fault);
        check.due("undo", NONE, x::undo);
        check.due("restore", NONE, x::restore);
        for (int i = 0; i < 4; i++) {
            int ward = i;
            row(check, "ward " + ward, what -> x.ward(ward, what), 0, 0, 0, -1, 1);
            check.due("flip " + ward, 0, () -> x.flip(ward));
        }
        for (int i = 0; i < 2; i++) {
            int side = i;
            row(check, "side " + side, what -> x.side(side, what), 0, 0, 0, 0);
            row(check, "best " + side, what -> x.best(side, what), -1, -1, -1);
            row(check, "strongest " + side, what -> x.strongest(side, what), -1, -1);
            row(check, "waste " + side, what -> x.waste(side, what), 0, 1);
        }
        row(check, "tide", x::tide, -1, -1);
        noSuch(check, "a parish", () -> x.parish(0, 0));
    }

    @Says(at = "Promise 2", words = "Twenty bytes come on the TAPE, of each number the highest first:")
    static void bytesOfNumbers(Check check) {
        WinnerDraws x = new WinnerDraws();
        x.feed(0x70757273, 0x65203137, 0x3b202020, 0x20202020, 0x2070753b);
        check.due("the last bytes are those of the last number", -9, () -> x.county(20));
        check.due("their place", 17, x::fault);
        x.feed(0x70757273, 0x65203137, 0x3b202020, 0x20202020, 0x20202020);
        check.due("purse 17;", 0, () -> x.county(20));
        check.due("purse", 17, () -> x.told(3));
        x.feed(0xff000000, 0, 0, 0, 0);
        check.due("a byte that is no sign", -9, () -> x.county(1));
        check.due("at its place", 0, x::fault);
    }

    @Says(at = "Promise 2", words = "how many there are; NONE, doing nothing, if there would be more than 600.")
    static void sixHundredBytes(Check check) {
        WinnerDraws x = new WinnerDraws();
        for (int i = 1; i <= 30; i++) {
            check.due("feed " + i, 20 * i, () -> x.feed(0x20202020, 0x20202020, 0x20202020, 0x20202020, 0x20202020));
        }
        for (int i = 0; i < 3; i++) {
            check.due("one more", NONE, () -> x.feed(-1, -1, -1, -1, -1));
            check.due("does nothing", 600, () -> x.count(1));
        }
        check.due("blanks as before", 0, () -> x.county(600));
        check.due("from 0 again", 20, () -> x.feed(-1, -1, -1, -1, -1));
    }

    // ---- promises 3 to 7 ----

    @Says(at = "Promise 3", words = "The first n bytes of the TAPE (empty then) are the COUNTY")
    static void firstBytesOfTheTape(Check check) {
        WinnerDraws x = new WinnerDraws();
        Check.feed(x, "purse 1;purse 22;");
        check.due("8 of 20 bytes", 0, () -> x.county(8));
        check.due("no more of it", 1, () -> x.told(3));
        check.due("the tape is empty", 0, () -> x.count(1));
        Check.feed(x, "purse 1;purse 22;");
        check.due("15 bytes", -9, () -> x.county(15));
        check.due("ends too early", 15, x::fault);
        check.due("the tape is empty behind a fault", 0, () -> x.count(1));
        Check.feed(x, "purse 1;purse 22;");
        check.due("17 bytes", 0, () -> x.county(17));
        check.due("all of them", 22, () -> x.told(3));
        Check.feed(x, "purse         99999;");
        check.due("what stands behind is no part of it, though it is blank", -9, () -> x.county(5));
        check.due("at the length", 5, x::fault);
        Check.feed(x, "years");
        check.due("nor if it is a letter", 1, () -> x.law(4));
        Check.feed(x, "purse 123;");
        check.due("nor if it is a digit", -9, () -> x.county(8));
        check.due("at the length again", 8, x::fault);
        Check.feed(x, "purse 12;");
        check.due("nor if it is what is missing", -9, () -> x.county(8));
        check.due("at the length once more", 8, x::fault);
        Check.feed(x, "purse 1;");
        check.due("no bytes", 0, () -> x.county(0));
        check.due("tape is empty", 0, () -> x.count(1));
        check.due("no purse told", 20, () -> x.told(3));
    }

    @Says(at = "Promise 3", words = "(no LAW, BOOK, IMAGES, nothing to undo): how many PARISHES;")
    static void countyTakesAllElseAway(Check check) {
        WinnerDraws x = Check.of(THREE);
        Check.law(x, "5");
        Check.book(x, "0 0;1 1;");
        Check.work(x, "vote;draw;move 1 1;vote;");
        x.image();
        x.image();
        check.due("three parishes", 3, () -> Check.county(x, THREE));
        row(check, "told", x::told, 3, 2, 1, 9, 0, -1, 0, 1, 33, 3, 0, 0, 0);
        row(check, "count", x::count, 0, 0, 0);
        check.due("no law", 1, () -> x.cost(0, 0));
        check.due("no image", NONE, x::restore);
        check.due("nothing to undo", NONE, x::undo);
        check.due("all moves fit", 1, () -> x.fits(0));
        check.due("ward of 1", 0, () -> x.parish(1, 0));
    }

    @Says(at = "Promise 3", words = "or the FAULT less 10 (all but the TAPE stays).")
    static void faultyCountyChangesNothing(Check check) {
        WinnerDraws x = Check.of(THREE);
        Check.law(x, "5");
        Check.book(x, "0 0;1 1;");
        Check.work(x, "vote;draw;move 1 1;vote;");
        x.image();
        long refused = x.told(10);
        check.same("some are refused", 1, refused > 0 ? 1 : 0);
        String before = StepBounds.state(x);
        String[] texts = {"parish 3 9 9;road 0 0;", "parish 0 0 0;".repeat(11), "purse 3;tide 0 3;x", "vote;"};
        int[] due = {-8, -7, -9, -9};
        for (int i = 0; i < texts.length; i++) {
            String text = texts[i];
            check.due(text, due[i], () -> Check.county(x, text));
            StepBounds.unchanged(check, before, x);
            check.due("law", 5, () -> x.cost(0, 0));
            check.due("lines of the book", 2, () -> x.told(11));
            check.due("refused", refused, () -> x.told(10));
            row(check, "count", x::count, 1, 0, 1);
        }
    }

    @Says(at = "Promise 3", words = "IllegalArgumentException: n is not 0 to the TAPE's bytes (it stays).")
    static void countyOfNoSuchLength(Check check) {
        WinnerDraws x = new WinnerDraws();
        illegal(check, "1 of none", () -> x.county(1));
        Check.county(x, "purse");
        check.due("a fault", 5, x::fault);
        Check.feed(x, " ".repeat(40));
        for (int n : new int[] {-1, 41, 600, 601, Integer.MIN_VALUE, Integer.MAX_VALUE}) {
            illegal(check, "county of " + n, () -> x.county(n));
            check.due("the tape stays", 40, () -> x.count(1));
            check.due("the fault stays", 5, x::fault);
        }
        check.due("all of it", 0, () -> x.county(40));
    }

    @Says(at = "Promise 4", words = "Likewise the LAW (n to 150): 1.")
    static void lawByNumber(Check check) {
        WinnerDraws x = Check.of(THREE);
        check.due("a law", 1, () -> Check.law(x, "5"));
        Check.feed(x, "77" + " ".repeat(158));
        for (int n : new int[] {-1, 151, 160, 161, Integer.MIN_VALUE, Integer.MAX_VALUE}) {
            illegal(check, "law of " + n, () -> x.law(n));
            check.due("the tape stays", 160, () -> x.count(1));
        }
        check.due("the law stays", 5, () -> x.cost(0, 0));
        check.due("of 1 byte", 1, () -> x.law(1));
        check.due("it is 7", 7, () -> x.cost(0, 0));
        check.due("the tape is empty", 0, () -> x.count(1));
        illegal(check, "1 of none", () -> x.law(1));
        check.due("a fault", -9, () -> Check.law(x, "8+"));
        check.due("the law stays behind a fault", 7, () -> x.cost(0, 0));
        check.due("the tape is empty behind a fault", 0, () -> x.count(1));
        check.due("of no bytes", -9, () -> x.law(0));
        check.due("no law told stays", 7, () -> x.cost(0, 0));
        Check.feed(x, " ".repeat(148) + "31");
        check.due("of 150", 1, () -> x.law(150));
        check.due("it is 31", 31, () -> x.cost(0, 0));
        row(check, "told", x::told, 3, 2, 1, 9, 0, -1, 0, 1, 33, 3, 0, 0, 0);
    }

    @Says(at = "Promise 5", words = "Likewise WORK (n to 150), which is done: how many STEPS were done"
            + " (agains not counted, nor REFUSED ones);")
    static void workByNumber(Check check) {
        WinnerDraws x = Check.of(THREE);
        Check.feed(x, "vote;" + " ".repeat(155));
        for (int n : new int[] {-1, 151, 160, 161, Integer.MIN_VALUE, Integer.MAX_VALUE}) {
            illegal(check, "work of " + n, () -> x.work(n));
            check.due("the tape stays", 160, () -> x.count(1));
            check.due("nothing is done", 0, () -> x.told(4));
        }
        check.due("of 5 bytes", 1, () -> x.work(5));
        check.due("the tape is empty", 0, () -> x.count(1));
        check.due("of none", 0, () -> x.work(0));
        Check.feed(x, " ".repeat(145) + "vote;");
        check.due("of 150", 1, () -> x.work(150));
        check.due("two votes", 2, () -> x.told(4));
        StepBounds.work(check, x, "again 3[again 0[];vote;move 0 0;];move 1 1;again 1[];", 4, 3);
    }

    @Says(at = "Promise 5", words = "or the FAULT less 10 (none is);")
    static void faultyWorkIsNotDone(Check check) {
        WinnerDraws x = Check.of(THREE);
        StepBounds.work(check, x, "vote;move 0 0;", 1, 1);
        String before = StepBounds.state(x);
        int[] due = {-9, -8, -7};
        String[] texts = {"vote;count 0 1 1;vote", "vote;count 0 1 1;count 0 1 100;", "vote;" + "again 1[".repeat(7)};
        for (int i = 0; i < 3; i++) {
            String text = texts[i];
            check.due(text, due[i], () -> Check.work(x, text));
            check.due("the tape is empty", 0, () -> x.count(1));
            check.due("refused, as before", 1, () -> x.told(10));
            check.due("works, as before", 1, () -> x.count(2));
            StepBounds.unchanged(check, before, x);
        }
    }

    @Says(at = "Promise 5", words = "-20 behind the exception, ahead of the FAULT (nothing is read, there is no FAULT,"
            + " the TAPE is empty then): 16 WORKS are there that were not undone.")
    static void sixteenWorks(Check check) {
        WinnerDraws x = Check.of(THREE);
        for (int i = 1; i <= 16; i++) {
            StepBounds.work(check, x, i == 16 ? "move 0 0;" : "vote;", i == 16 ? 0 : 1, i == 16 ? 1 : 0);
            int works = i;
            check.due("works", works, () -> x.count(2));
        }
        Check.law(x, "1+");
        check.due("a fault of a law", 2, x::fault);
        illegal(check, "behind the exception", () -> x.work(1));
        illegal(check, "below 0", () -> x.work(-1));
        check.due("the fault stays", 2, x::fault);
        for (String text : new String[] {"vote;", "votes;", "", "move 9 9;"}) {
            Check.law(x, "1+");
            check.due("-20 for '" + text + "'", -20, () -> Check.work(x, text));
            check.due("no fault", NONE, x::fault);
            check.due("the tape is empty", 0, () -> x.count(1));
            check.due("works", 16, () -> x.count(2));
            check.due("year", 15, () -> x.told(4));
            check.due("refused, as before", 1, () -> x.told(10));
        }
        check.due("undo", 15, x::undo);
        check.due("a fault again", -9, () -> Check.work(x, "votes;"));
        StepBounds.work(check, x, "vote;", 1, 0);
        check.due("and full again", -20, () -> Check.work(x, "vote;"));
    }

    @Says(at = "Promise 6", words = "Likewise the BOOK (n to 60): how many lines.")
    static void bookByNumber(Check check) {
        WinnerDraws x = Check.of(THREE);
        check.due("one line", 1, () -> Check.book(x, "3 2;"));
        Check.feed(x, "0 0;1 1;" + " ".repeat(72));
        for (int n : new int[] {-1, 61, 80, 81, Integer.MIN_VALUE, Integer.MAX_VALUE}) {
            illegal(check, "book of " + n, () -> x.book(n));
            check.due("the tape stays", 80, () -> x.count(1));
        }
        check.due("the book stays", 1, () -> x.told(11));
        check.due("of 60", 2, () -> x.book(60));
        check.due("two lines", 2, () -> x.told(11));
        check.due("the tape is empty", 0, () -> x.count(1));
        illegal(check, "1 of none", () -> x.book(1));
        check.due("a fault", -8, () -> Check.book(x, "3 2;2 2;1 2;0 2;0 1;"));
        check.due("the book stays behind a fault", 2, () -> x.told(11));
        check.due("the tape is empty behind a fault", 0, () -> x.count(1));
        check.due("four lines", 4, () -> Check.book(x, "3 2;2 2;1 2;0 2;"));
        check.due("of no bytes", 0, () -> x.book(0));
        check.due("no lines", 0, () -> x.told(11));
    }

    @Says(at = "Promise 7", words = "The place of the FAULT of the latest text; NONE without.")
    static void faultOfTheLatestText(Check check) {
        WinnerDraws x = new WinnerDraws();
        check.due("no text", NONE, x::fault);
        Check.county(x, "purse 100;");
        check.due("of the county", 6, x::fault);
        check.due("asked again", 6, x::fault);
        Check.law(x, "1");
        check.due("a law without", NONE, x::fault);
        Check.law(x, "1+1+");
        check.due("of the law", 4, x::fault);
        x.told(0);
        Check.answerOf(() -> x.told(99));
        x.image();
        x.restore();
        x.undo();
        Check.feed(x, "7");
        Check.answerOf(() -> x.law(151));
        check.due("it stays till the next text", 4, x::fault);
        x.law(1);
        check.due("that has none", NONE, x::fault);
        Check.work(x, "vote;vote");
        check.due("of the work", 9, x::fault);
        Check.book(x, "0 0;0 0;");
        check.due("of the book", 4, x::fault);
        Check.book(x, "");
        check.due("an empty book has none", NONE, x::fault);
        Check.law(x, "");
        check.due("an empty law has one", 0, x::fault);
        Check.county(x, "");
        check.due("an empty county has none", NONE, x::fault);
    }

    // ---- promise 8, 9 ----

    @Says(at = "Promise 8", words = "The latest WORK that was done (of no STEPS, or with all of them REFUSED, too) is undone:"
            + " how many are left; -1: there is none.")
    static void undo(Check check) {
        WinnerDraws x = Check.of(THREE);
        check.due("none", NONE, x::undo);
        String[] states = new String[5];
        String[] works = {"vote;draw;", "", "move 0 0;count 0 0 0;move 1 1;", "move 0 0;move 2 0;move 2 0;"};
        for (int i = 0; i < works.length; i++) {
            states[i] = StepBounds.state(x);
            Check.work(x, works[i]);
        }
        check.due("a faulty one is none", -9, () -> Check.work(x, "vote;vote"));
        Check.law(x, "5");
        for (int i = works.length - 1; i >= 0; i--) {
            check.due("left", i, x::undo);
            check.due("refused", 0, () -> x.told(10));
            StepBounds.unchanged(check, states[i], x);
        }
        check.due("none is left", NONE, x::undo);
        StepBounds.unchanged(check, states[0], x);
        check.due("the law stays", 5, () -> x.cost(0, 0));
    }

    @Says(at = "Promise 9", words = "0 PARISHES, 1 ROADS (unlike ones), 2 TIDES, 3 N of purse, 4 the YEAR,"
            + " 5 the SIDE that rules (NONE), 6 its reign, 7 LINES, 8 VOTES of both SIDES,"
            + " 9 WARDS in which there are PARISHES (bits),")
    static void toldOfTheCounty(Check check) {
        WinnerDraws x = Check.of("parish 3 99 99;parish 1 2 0;parish 3 0 1;road 0 1;road 1 0;road 0 2;tide 0 0;tide 0 0;");
        row(check, "told", x::told, 3, 2, 2, 20, 0, -1, 0, 1, 201, 10);
        Check.work(x, "vote;vote;move 0 1;count 1 0 0;");
        row(check, "told", x::told, 3, 2, 2, 20, 2, 0, 2, 1, 199, 10);
        WinnerDraws all = Check.of("parish 0 0 0;parish 1 0 0;parish 2 0 0;parish 3 0 0;");
        check.due("all wards", 15, () -> all.told(9));
    }

    @Says(at = "Promise 9", words = "10 STEPS REFUSED by the latest WORK (0 ahead of any, behind county() without a FAULT,"
            + " undo(), restore()),")
    static void refusedByTheLatestWork(Check check) {
        WinnerDraws x = Check.of(THREE);
        check.due("ahead of any", 0, () -> x.told(10));
        StepBounds.work(check, x, "move 0 0;move 0 0;vote;", 1, 2);
        StepBounds.work(check, x, "", 0, 0);
        StepBounds.work(check, x, "again 40[again 1[move 0 0;];];", 0, 40);
        check.due("a faulty work", -9, () -> Check.work(x, "move 0 0;x"));
        check.due("does not count", 40, () -> x.told(10));
        check.due("a faulty county", -9, () -> Check.county(x, "x"));
        check.due("neither", 40, () -> x.told(10));
        check.due("undo", 2, x::undo);
        check.due("behind undo", 0, () -> x.told(10));
        x.image();
        StepBounds.work(check, x, "move 0 0;", 0, 1);
        x.image();
        check.due("an image leaves it", 1, () -> x.told(10));
        check.due("restore", 1, x::restore);
        check.due("behind restore", 0, () -> x.told(10));
        StepBounds.work(check, x, "move 0 0;", 0, 1);
        check.due("a county", 0, () -> Check.county(x, ""));
        check.due("behind county", 0, () -> x.told(10));
    }

    @Says(at = "Promise 9", words = "11 lines of the BOOK, 12 how often a PARISH was moved by now.")
    static void toldOfLinesAndMoves(Check check) {
        WinnerDraws x = Check.of(THREE);
        check.due("without a book", 0, () -> x.told(11));
        Check.book(x, "0 0;3 2;1 1;2 0;");
        check.due("four lines", 4, () -> x.told(11));
        check.due("moved never", 0, () -> x.told(12));
        StepBounds.work(check, x, "move 1 1;move 1 0;move 1 0;move 1 1;move 2 0;", 3, 2);
        check.due("moved by hand", 3, () -> x.told(12));
        WinnerDraws y = Check.of("parish 0 4 3;parish 0 0 1;parish 1 2 0;road 0 1;road 1 2;");
        StepBounds.work(check, y, "draw;vote;draw;draw;", 2, 2);
        check.due("moved by a draw", 1, () -> y.told(12));
    }

    @Says(at = "Promise 9", words = "IllegalArgumentException: another what (so below).")
    static void anotherWhat(Check check) {
        for (WinnerDraws x : new WinnerDraws[] {new WinnerDraws(), Check.of(THREE)}) {
            range(check, "told", 0, 12, x::told);
            range(check, "ward", 0, 4, what -> x.ward(3, what));
            range(check, "side", 0, 3, what -> x.side(1, what));
            range(check, "best", 0, 2, what -> x.best(1, what));
            range(check, "reigns", 0, 1, what -> x.reigns(3, what));
            range(check, "round", 0, 1, x::round);
            range(check, "waste", 0, 1, what -> x.waste(1, what));
            range(check, "fits", 0, 1, x::fits);
            range(check, "look", 0, 1, x::look);
            range(check, "recount", 0, 1, what -> x.recount(1, 1, 1, what));
            range(check, "recount, k above n", 0, 1, what -> x.recount(1, 2, 1, what));
            range(check, "smallest", 0, 1, x::smallest);
            range(check, "closest", 0, 1, x::closest);
            range(check, "tide", 0, 1, x::tide);
            range(check, "strongest", 0, 1, what -> x.strongest(1, what));
            range(check, "time", 0, 3, what -> x.time(1, 1, 1, what));
            range(check, "span", 0, 2, what -> x.span(1, 1, 1, 1, what, 1));
        }
        WinnerDraws x = Check.of(THREE);
        range(check, "parish", 0, 3, what -> x.parish(2, what));
    }

    // ---- promises 10 to 12 ----

    @Says(at = "Promise 10", words = "Of a PARISH: 0 its WARD, 1 VOTES of SIDE 0, 2 of SIDE 1,"
            + " 3 PARISHES to which a ROAD goes from it (bits).")
    static void parishes(Check check) {
        WinnerDraws x = Check.of("parish 3 99 0;" + "parish 0 0 0;".repeat(8) + "parish 1 7 8;road 0 9;road 8 9;road 1 9;");
        row(check, "parish 0", what -> x.parish(0, what), 3, 99, 0, 512);
        row(check, "parish 9", what -> x.parish(9, what), 1, 7, 8, 259);
        row(check, "parish 2", what -> x.parish(2, what), 0, 0, 0, 0);
        StepBounds.work(check, x, "move 1 1;count 1 3 4;", 1, 1);
        row(check, "parish 1", what -> x.parish(1, what), 0, 3, 4, 512);
    }

    @Says(at = "Promise 10", words = "NoSuchElementException: no such PARISH, WARD (0 to 3), SIDE (0, 1; so below, ahead of others).")
    static void noSuchElements(Check check) {
        WinnerDraws x = Check.of(THREE);
        for (int i : new int[] {0, 9}) {
            int other = i;
            there(check, "parish", 0, 2, which -> x.parish(which, other));
            there(check, "ward", 0, 3, which -> x.ward(which, other));
            there(check, "side", 0, 1, which -> x.side(which, other));
            there(check, "best", 0, 1, which -> x.best(which, other));
            there(check, "redrawn", 0, 1, which -> x.redrawn(which, other));
            there(check, "waste", 0, 1, which -> x.waste(which, other));
            there(check, "strongest", 0, 1, which -> x.strongest(which, other));
        }
        there(check, "cost of a parish", 0, 2, which -> x.cost(which, 0));
        there(check, "cost to a ward", 0, 3, which -> x.cost(0, which));
        there(check, "may", 0, 2, x::may);
        there(check, "swing", 0, 1, x::swing);
        there(check, "flip", 0, 3, x::flip);
        there(check, "cluster", 0, 2, x::cluster);
        WinnerDraws none = new WinnerDraws();
        noSuch(check, "parish of none", () -> none.parish(0, 0));
        noSuch(check, "cost of none", () -> none.cost(0, 0));
        noSuch(check, "may of none", () -> none.may(0));
        noSuch(check, "cluster of none", () -> none.cluster(0));
        WinnerDraws ten = Check.of("parish 0 0 0;".repeat(10));
        check.due("the tenth", 0, () -> ten.parish(9, 0));
        noSuch(check, "the eleventh", () -> ten.parish(10, 0));
        Check.county(ten, "parish 0 0 0;");
        noSuch(check, "the second of one, though there were ten", () -> ten.parish(1, 0));
    }

    @Says(at = "Promise 11", words = "Of a WARD: 0 PARISHES in it (bits), 1 VOTES of SIDE 0, 2 of SIDE 1,"
            + " 3 who wins it (NONE), 4 1 its PARISHES hang together (none do, too), 0 not.")
    static void wards(Check check) {
        WinnerDraws x = Check.of("parish 0 9 1;parish 1 4 4;parish 0 1 9;parish 1 0 1;parish 2 0 3;parish 1 0 0;"
                + "road 0 1;road 1 2;road 3 5;road 5 1;");
        row(check, "apart, though by a road each to parish 1", what -> x.ward(0, what), 5, 10, 10, -1, 0);
        row(check, "together by parish 5", what -> x.ward(1, what), 42, 4, 5, 1, 1);
        row(check, "one", what -> x.ward(2, what), 16, 0, 3, 1, 1);
        row(check, "none", what -> x.ward(3, what), 0, 0, 0, -1, 1);
    }

    @Says(at = "Promise 12", words = "Of a SIDE: 0 SEATS, 1 VOTES in all, 2 MARGIN, 3 WARDS it wins (bits).")
    static void sides(Check check) {
        WinnerDraws x = Check.of("parish 0 9 8;parish 1 0 1;parish 2 3 3;parish 3 0 99;");
        row(check, "side 0", what -> x.side(0, what), 1, 12, -1, 1);
        row(check, "side 1", what -> x.side(1, what), 2, 111, 1, 10);
    }

    // ---- promises 13 to 18 ----

    @Says(at = "Promise 13", words = "COST of moving a PARISH to a WARD now (whether it MAY be or not;"
            + " to its own one, too: \"size\" and \"room\" are alike then).")
    static void costs(Check check) {
        WinnerDraws x = Check.of(THREE);
        Check.law(x, "size*10+room");
        check.due("to its own", 22, () -> x.cost(0, 0));
        check.due("to its own, alone", 11, () -> x.cost(2, 1));
        check.due("to one of one", 21, () -> x.cost(0, 1));
        check.due("to one of none", 20, () -> x.cost(0, 3));
        check.due("of the last one", 12, () -> x.cost(2, 0));
        check.due("it may not be", 0, () -> x.may(0));
        Check.law(x, "60+purse");
        check.due("a faulty law", 22, () -> x.cost(0, 0));
        Check.law(x, "99");
        check.due("above the purse", 60, () -> x.cost(0, 0));
    }

    @Says(at = "Promise 14", words = "COST by the LAW for such people (0 to 198), lead (-99 to 99), size, room (0 to 10 both),"
            + " lines (0 to 60), reign, year (0 to 400 both), parish (0 to 9).")
    static void would(Check check) {
        int[] least = {0, -99, 0, 0, 0, 0, 0, 0};
        int[] most = {198, 99, 10, 10, 60, 400, 400, 9};
        String[] facts = {"people", "lead", "size", "room", "lines", "reign", "year", "parish"};
        for (int i = 0; i < facts.length; i++) {
            WinnerDraws x = new WinnerDraws();
            int fact = i;
            Asked asked = value -> {
                int[] f = least.clone();
                f[fact] = value;
                return x.would(f[0], f[1], f[2], f[3], f[4], f[5], f[6], f[7]);
            };
            range(check, facts[i], least[i], most[i], asked);
            Check.law(x, facts[i] + "-" + Math.max(0, most[i] - 7));
            check.due(facts[i] + " at the most", 7, () -> asked.of(most[fact]));
            Check.law(x, "107+" + facts[i] + "-" + (least[i] == 0 ? 99 : 0));
            check.due(facts[i] + " at the least", 8, () -> asked.of(least[fact]));
        }
        WinnerDraws without = new WinnerDraws();
        check.due("without a law", 1, () -> without.would(198, 99, 10, 10, 60, 400, 400, 9));
    }

    @Says(at = "Promise 15", words = "WARDS (bits) to which a PARISH MAY come now.")
    static void mays(Check check) {
        WinnerDraws x = Check.of("parish 1 0 0;parish 1 0 0;parish 0 0 0;parish 2 0 0;parish 3 0 0;"
                + "road 0 1;road 0 2;road 0 3;road 0 4;purse 0;");
        row(check, "may, whatever it costs", x::may, 13, 0, 0, 0, 0);
        Check.law(x, "0");
        StepBounds.work(check, x, "move 0 3;", 1, 0);
        row(check, "behind a move", x::may, 7, 0, 0, 0, 0);
    }

    @Says(at = "Promise 16", words = "BEST of a SIDE: 0 the PARISH, 1 the WARD, 2 its MARGIN then; NONE all"
            + " (MARGINS below 0: see 0 for whether there is one).")
    static void bests(Check check) {
        WinnerDraws x = Check.of("parish 0 9 0;parish 0 0 5;parish 1 9 0;parish 2 9 0;road 0 1;road 0 2;road 0 3;");
        row(check, "a margin of -1", what -> x.best(1, what), 0, 1, -1);
        row(check, "none", what -> x.best(0, what), -1, -1, -1);
        row(check, "asked again", what -> x.best(1, what), 0, 1, -1);
    }

    @Says(at = "Promise 17", words = "REDRAWN of a SIDE and k (0 to 3).")
    static void redrawns(Check check) {
        WinnerDraws x = Check.of(THREE);
        range(check, "redrawn 0", 0, 3, k -> x.redrawn(0, k));
        range(check, "redrawn 1", 0, 3, k -> x.redrawn(1, k));
        noSuch(check, "ahead of k", () -> x.redrawn(2, 4));
        check.due("of no moves", 0, () -> x.redrawn(0, 0));
    }

    @Says(at = "Promise 18", words = "BY TURNS of k (0 to 3).")
    static void turns(Check check) {
        WinnerDraws x = Check.of(THREE);
        range(check, "turned", 0, 3, x::turned);
        check.due("of no moves", 0, () -> x.turned(0));
    }

    // ---- promises 19 to 25 ----

    @Says(at = "Promise 19", words = "REIGNS of n (0 to 60): 0 the SIDE that rules then (NONE), 1 how often another one ruled.")
    static void reigns(Check check) {
        WinnerDraws x = Check.of(THREE);
        range(check, "n", 0, 60, n -> x.reigns(n, 0));
        range(check, "n, how often", 0, 60, n -> x.reigns(n, 1));
        check.due("none, of 0 years", NONE, () -> x.reigns(0, 0));
        illegal(check, "n and what", () -> x.reigns(61, 2));
    }

    @Says(at = "Promise 20", words = "ROUND: 0 a, 1 b; NONE both.")
    static void rounds(Check check) {
        WinnerDraws x = Check.of("parish 0 1 0;tide 0 0;tide 0 0;");
        row(check, "round", x::round, 1, 2);
        Check.county(x, "parish 0 9 95;tide 0 0;" + "tide 0 2;".repeat(5));
        row(check, "none", x::round, -1, -1);
        Check.county(x, "");
        row(check, "at once", x::round, 0, 1);
    }

    @Says(at = "Promise 21", words = "SWING.")
    static void swings(Check check) {
        WinnerDraws x = Check.of("parish 0 0 1;");
        row(check, "swing", x::swing, 100, 0);
        Check.county(x, "parish 0 0 0;");
        row(check, "none", x::swing, -1, -1);
    }

    @Says(at = "Promise 22", words = "WASTE of a SIDE: above (half 0), below (half 1), in least terms (0 by 1 without VOTES).")
    static void wastes(Check check) {
        WinnerDraws x = Check.of("parish 0 6 6;");
        row(check, "6 by 12", half -> x.waste(0, half), 1, 2);
        Check.county(x, "parish 0 0 0;parish 1 0 0;");
        row(check, "without votes", half -> x.waste(0, half), 0, 1);
        Check.county(x, "");
        row(check, "without parishes", half -> x.waste(1, half), 0, 1);
        Check.county(x, "parish 0 9 0;");
        row(check, "8 by 9", half -> x.waste(0, half), 8, 9);
        row(check, "0 by 9", half -> x.waste(1, half), 0, 1);
        Check.county(x, "parish 0 99 99;".repeat(10));
        row(check, "990 by 1980", half -> x.waste(1, half), 1, 2);
    }

    @Says(at = "Promise 23", words = "FITS: 0 how many, 1 the first (NONE).")
    static void fits(Check check) {
        WinnerDraws x = Check.of(THREE);
        row(check, "without a book", x::fits, 1, 11);
        Check.book(x, "3 0;");
        row(check, "none", x::fits, 0, -1);
        Check.book(x, "3 2;");
        row(check, "one again", x::fits, 1, 11);
    }

    @Says(at = "Promise 24", words = "LOOK: 0 the WARD, 1 how many are left at the worst; NONE both: all are in lines.")
    static void looks(Check check) {
        WinnerDraws x = Check.of(THREE);
        row(check, "no lines", x::look, 0, 1);
        Check.book(x, "0 2;1 2;2 2;");
        row(check, "three lines that are not right", x::look, 3, 0);
        Check.book(x, "0 0;1 1;2 2;3 2;");
        row(check, "all in lines", x::look, -1, -1);
    }

    @Says(at = "Promise 25", words = "RECOUNT of n (0 to 12), k (0 to 13), q (0 to 16): above (half 0), below (half 1),"
            + " in least terms; k above n: 0 by 1.")
    static void recounts(Check check) {
        WinnerDraws x = new WinnerDraws();
        range(check, "n", 0, 12, n -> x.recount(n, 5, 5, 0));
        range(check, "k", 0, 13, k -> x.recount(5, k, 5, 1));
        range(check, "q", 0, 16, q -> x.recount(5, 5, q, 0));
        for (int i = 0; i <= 12; i++) {
            int n = i;
            row(check, "k above " + n, half -> x.recount(n, n + 1, 16, half), 0, 1);
            row(check, "13 of " + n, half -> x.recount(n, 13, 16, half), 0, 1);
            row(check, "k 0 of " + n, half -> x.recount(n, 0, 7, half), 1, 1);
            row(check, "all of " + n + " by 16 of 16", half -> x.recount(n, n, 16, half), 1, 1);
            row(check, "all of " + n + " by 1 of 16", half -> x.recount(n, n, 1, half), 1, 1L << 4 * n);
        }
    }

    // ---- promises 26 to 33 ----

    @Says(at = "Promise 26", words = "The WARD with fewest VOTES of both (what 0), of those that have PARISHES,"
            + " of alike ones the first, by how many less than the one with most (1); NONE both: there are no PARISHES.")
    static void smallest(Check check) {
        row(check, "of three, one without parishes", Check.of("parish 0 5 5;parish 2 9 0;parish 3 1 9;")::smallest, 2, 1);
        row(check, "the first of alike ones", Check.of("parish 3 2 2;parish 1 4 0;parish 2 9 9;")::smallest, 1, 14);
        row(check, "no votes", Check.of("parish 1 0 0;parish 0 0 7;")::smallest, 1, 7);
        row(check, "one alone", Check.of("parish 3 5 5;")::smallest, 3, 0);
        row(check, "by two parishes", Check.of("parish 0 2 2;parish 0 2 2;parish 1 7 0;")::smallest, 1, 1);
        row(check, "one alone without votes", Check.of("parish 2 0 0;")::smallest, 2, 0);
        row(check, "none", new WinnerDraws()::smallest, -1, -1);
    }

    @Says(at = "Promise 27", words = "Of the WARDS that are won that one with the least lead of who wins it (what 0),"
            + " of alike ones the first, that lead (1); NONE both: none is won.")
    static void closest(Check check) {
        row(check, "a tied one is not won", Check.of("parish 0 5 5;parish 1 9 0;parish 2 0 8;")::closest, 2, 8);
        row(check, "the first of alike ones", Check.of("parish 3 0 2;parish 1 4 2;parish 0 9 0;")::closest, 1, 2);
        row(check, "by one", Check.of("parish 0 0 2;parish 3 4 5;")::closest, 3, 1);
        row(check, "the first of all", Check.of("parish 0 1 0;parish 3 4 5;")::closest, 0, 1);
        row(check, "none is won", Check.of("parish 0 5 5;parish 1 0 0;")::closest, -1, -1);
        row(check, "no parishes", new WinnerDraws()::closest, -1, -1);
    }

    @Says(at = "Promise 28", words = "PARISHES (bits) at a LINE.")
    static void border(Check check) {
        check.due("two of three", 6, () -> Check.of(THREE).border());
        check.due("no line", 0, () -> Check.of("parish 0 0 0;parish 0 0 0;parish 1 0 0;road 0 1;").border());
        check.due("none", 0, () -> new WinnerDraws().border());
        check.due("the first and the last", 513, () -> Check.of("parish 0 0 0;".repeat(9) + "parish 1 0 0;"
                + "road 0 9;road 1 2;").border());
    }

    @Says(at = "Promise 29", words = "Of the TIDE to come by the next vote: 0 its SIDE, 1 its N; NONE both: there are no TIDES.")
    static void tideToCome(Check check) {
        WinnerDraws x = Check.of("tide 1 7;tide 0 0;");
        for (int i = 0; i < 4; i++) {
            row(check, "in year " + i, x::tide, i % 2 == 0 ? 1 : 0, i % 2 == 0 ? 7 : 0);
            Check.work(x, "vote;");
        }
        x.undo();
        row(check, "behind undo", x::tide, 0, 0);
        row(check, "none", Check.of("parish 0 1 1;")::tide, -1, -1);
        row(check, "in year 400", StepBounds.inYear("tide 1 7;tide 0 3;tide 0 4;", 400)::tide, 0, 3);
        Check.county(x, "");
        row(check, "none any more", x::tide, -1, -1);
    }

    @Says(at = "Promise 30", words = "How few VOTES would have to go over from who wins a WARD to the other one"
            + " so that it does not win it any more (0: none wins it).")
    static void flips(Check check) {
        WinnerDraws x = Check.of("parish 0 5 4;parish 1 4 6;parish 2 9 6;parish 3 5 5;");
        row(check, "leads of 1, 2, 3, 0", x::flip, 1, 1, 2, 0);
        WinnerDraws y = Check.of("parish 1 0 99;parish 1 0 99;parish 2 99 1;");
        row(check, "none, 198, 98, none", y::flip, 0, 99, 49, 0);
    }

    @Says(at = "Promise 31", words = "PARISHES (bits) that are alone in their WARD.")
    static void lone(Check check) {
        check.due("one of three", 4, () -> Check.of(THREE).lone());
        check.due("all four", 15, () -> Check.of("parish 3 0 0;parish 1 0 0;parish 0 0 0;parish 2 0 0;").lone());
        check.due("none of two", 0, () -> Check.of("parish 3 0 0;parish 3 0 0;").lone());
        check.due("none", 0, () -> new WinnerDraws().lone());
        check.due("the last", 512, () -> Check.of("parish 0 0 0;".repeat(9) + "parish 1 0 0;").lone());
    }

    @Says(at = "Promise 32", words = "PARISHES (bits) of its WARD to which one comes from a PARISH by ROADS within the WARD"
            + " (itself, too).")
    static void clusters(Check check) {
        WinnerDraws x = Check.of("parish 0 0 0;parish 1 0 0;parish 0 0 0;parish 0 0 0;parish 0 0 0;"
                + "road 0 1;road 1 2;road 2 4;road 4 3;");
        row(check, "not by another ward", x::cluster, 1, 2, 28, 28, 28);
        WinnerDraws far = Check.of("parish 2 0 0;".repeat(10) + "road 0 9;road 9 1;road 1 8;road 8 2;road 2 7;road 7 3;"
                + "road 3 6;road 6 4;road 4 5;");
        row(check, "by all ten", far::cluster, 1023, 1023, 1023, 1023, 1023, 1023, 1023, 1023, 1023, 1023);
    }

    @Says(at = "Promise 33", words = "The PARISH in which a SIDE leads most, by VOTES (what 0), of alike ones the first,"
            + " that lead (1); NONE both: it leads in none.")
    static void strongest(Check check) {
        WinnerDraws x = Check.of("parish 0 5 5;parish 1 2 0;parish 1 9 7;parish 2 0 1;");
        row(check, "the first of alike ones", what -> x.strongest(0, what), 1, 2);
        row(check, "by one", what -> x.strongest(1, what), 3, 1);
        WinnerDraws y = Check.of("parish 0 5 5;parish 1 0 0;parish 2 6 3;");
        row(check, "it leads in none", what -> y.strongest(1, what), -1, -1);
        WinnerDraws z = Check.of("parish 0 0 99;parish 1 1 99;parish 2 0 99;");
        row(check, "lead, not votes", what -> z.strongest(1, what), 0, 99);
        row(check, "no parishes", what -> new WinnerDraws().strongest(0, what), -1, -1);
    }

    // ---- promises 34 to 39 ----

    @Says(at = "Promise 34", words = "A TIME of so many YEARS (1 to 48), Q (0 to 16): 0 the SIDE that rules then (NONE),"
            + " 1 MARGIN of SIDE 0 then, 2 how often a PARISH was moved in it, 3 LINES then.")
    static void times(Check check) {
        WinnerDraws x = Check.of("parish 0 4 3;parish 0 0 1;parish 1 2 0;parish 2 0 9;road 0 1;road 1 2;");
        range(check, "years", 1, 48, years -> x.time(1, 1, years, 0));
        range(check, "q", 0, 16, q -> x.time(1, q, 1, 3));
        for (int seed : new int[] {0, -1, Integer.MIN_VALUE, Integer.MAX_VALUE}) {
            long rules = x.time(seed, 16, 48, 0);
            check.same("seed " + seed + " is answered", 1, rules == 0 || rules == 1 ? 1 : 0);
        }
        // The vote goes to side 1, by votes in all; it has nothing to draw.
        row(check, "a year", what -> x.time(1, 0, 1, what), 1, 0, 0, 1);
        Check.work(x, "move 1 1;move 1 0;");
        check.due("moved already", 2, () -> x.told(12));
        row(check, "what was moved ahead is not in it", what -> x.time(1, 0, 1, what), 1, 0, 0, 1);
        Check.work(x, "count 3 0 1;");
        row(check, "a draw of side 0", what -> x.time(1, 0, 1, what), 0, 1, 1, 1);
        row(check, "none", what -> Check.of("parish 0 5 5;").time(1, 16, 48, what), -1, 0, 0, 0);
    }

    @Says(at = "Promise 35", words = "Of so many SEEDS (1 to 10; seed, seed and 1, ..): 0 the least MARGIN of SIDE 0 then,"
            + " 1 the most, 2 by how many a SIDE rules then.")
    static void spans(Check check) {
        WinnerDraws x = Check.of("parish 0 0 3;parish 0 3 0;parish 1 0 2;parish 2 1 0;road 0 1;road 1 2;");
        range(check, "many", 1, 10, many -> x.span(1, many, 8, 3, 0, 0));
        range(check, "q", 0, 16, q -> x.span(1, 1, q, 3, 1, 0));
        range(check, "years", 1, 48, years -> x.span(1, 1, 8, years, 2, 0));
        // Of the seeds 39 to 48 number 42 alone moves parish 1 to ward 1 ahead of the vote, which side 0 wins then.
        row(check, "39 to 48", what -> x.span(39, 10, 16, 1, what, 0), 0, 1, 1);
        row(check, "39 to 48, side 1", what -> x.span(39, 10, 16, 1, what, 1), 0, 1, 9);
        row(check, "39 to 41", what -> x.span(39, 3, 16, 1, what, 0), 0, 0, 0);
        row(check, "39 to 42", what -> x.span(39, 4, 16, 1, what, 0), 0, 1, 1);
        row(check, "42 alone", what -> x.span(42, 1, 16, 1, what, 0), 1, 1, 1);
        row(check, "43 on", what -> x.span(43, 6, 16, 1, what, 0), 0, 0, 0);
        int ruled = 0;
        for (int seed : new int[] {Integer.MAX_VALUE - 1, Integer.MAX_VALUE, Integer.MIN_VALUE, Integer.MIN_VALUE + 1}) {
            ruled += x.time(seed, 16, 5, 0) == 0 ? 1 : 0;
        }
        check.due("seeds that wrap", ruled, () -> x.span(Integer.MAX_VALUE - 1, 4, 16, 5, 2, 0));
        row(check, "none rules", what -> Check.of("parish 0 5 5;").span(1, 10, 16, 1, what, 1), 0, 0, 0);
    }

    @Says(at = "Promise 35", words = "(IllegalArgumentException: no such SIDE, also for 0, 1.)")
    static void spansOfNoSuchSide(Check check) {
        WinnerDraws x = Check.of(THREE);
        for (int i = 0; i <= 2; i++) {
            int what = i;
            range(check, "side for " + what, 0, 1, side -> x.span(1, 2, 3, 4, what, side));
        }
        check.due("none of them is of an element", 0, () -> x.status(0));
        check.due("all are illegal", 12, () -> x.status(1));
    }

    @Says(at = "Promise 36", words = "An IMAGE of all that WORK changes, and of the WORKS that can be undone:"
            + " how many there are; -1: there are 3.")
    static void images(Check check) {
        WinnerDraws x = Check.of(THREE);
        Check.work(x, "vote;draw;move 1 1;count 0 1 2;");
        for (int i = 1; i <= 3; i++) {
            check.due("image " + i, i, x::image);
        }
        check.due("a fourth", NONE, x::image);
        check.due("there are three", 3, () -> x.count(0));
        String before = StepBounds.state(x);
        Check.work(x, "vote;move 1 0;count 0 9 9;");
        check.due("a fourth, of another state", NONE, x::image);
        x.undo();
        x.undo();
        check.due("nothing to undo", 0, () -> x.count(2));
        check.due("restore", 2, x::restore);
        check.due("one work again", 1, () -> x.count(2));
        check.due("room for one more", 3, x::image);
        StepBounds.unchanged(check, before, x);
        check.due("undo", 0, x::undo);
        check.due("year 0", 0, () -> x.told(4));
    }

    @Says(at = "Promise 36", words = "of all that WORK changes, and of the WORKS that can be undone")
    static void imagesOfTenParishesAndSixteenWorks(Check check) {
        WinnerDraws x = Check.of("parish 0 1 2;".repeat(9) + "parish 1 3 4;road 0 1;road 1 2;road 2 3;road 3 4;"
                + "road 4 5;road 5 6;road 6 7;road 7 8;road 8 9;");
        for (int image = 1; image <= 3; image++) {
            for (int i = 0; i < 15; i++) {
                Check.work(x, "count " + i % 10 + " " + (10 * image + i) + " " + (50 + i) + ";");
            }
            Check.work(x, "vote;move 8 1;");
            check.due("image", image, x::image);
            for (int i = 0; i < 16; i++) {
                x.undo();
            }
        }
        for (int image = 3; image >= 1; image--) {
            check.due("restore", image - 1, x::restore);
            check.due("works", 16, () -> x.count(2));
            check.due("moved", 1, () -> x.told(12));
            StepBounds.rule(check, x, 1, 1, 1);
            for (int i = 5; i < 15; i++) {
                StepBounds.votes(check, x, i % 10, 10 * image + i, 50 + i);
            }
            check.due("undo", 15, x::undo);
            check.due("moved never", 0, () -> x.told(12));
            check.due("undo", 14, x::undo);
            StepBounds.votes(check, x, 4, 10 * image + 4, 54);
            for (int i = 13; i >= 0; i--) {
                int left = i;
                check.due("undo", left, x::undo);
            }
            StepBounds.votes(check, x, 0, 1, 2);
            StepBounds.votes(check, x, 9, 3, 4);
        }
    }

    @Says(at = "Promise 37", words = "All is as in the latest IMAGE, which is gone: how many are left; -1: there is none.")
    static void restores(Check check) {
        WinnerDraws x = Check.of(THREE);
        check.due("none", NONE, x::restore);
        String[] states = new String[3];
        String[] works = {"vote;draw;move 1 1;", "count 0 1 2;vote;", "move 1 0;"};
        for (int i = 0; i < 3; i++) {
            Check.work(x, works[i]);
            states[i] = StepBounds.state(x);
            x.image();
        }
        Check.work(x, "count 2 99 0;again 9[vote;];draw;");
        Check.law(x, "7");
        Check.book(x, "0 0;1 1;");
        for (int i = 2; i >= 0; i--) {
            int images = i;
            check.due("left", images, x::restore);
            check.due("images", images, () -> x.count(0));
            check.due("works", images + 1, () -> x.count(2));
            StepBounds.unchanged(check, states[i], x);
        }
        check.due("no more", NONE, x::restore);
        check.due("the law is no part of it", 7, () -> x.cost(0, 0));
        check.due("nor is the book", 2, () -> x.told(11));
        check.due("undo behind it", 0, x::undo);
    }

    @Says(at = "Promise 38", words = "How many calls were refused: 0 NoSuchElementException, 1 IllegalArgumentException;"
            + " NONE for others. (No IMAGE keeps it.)")
    static void statuses(Check check) {
        WinnerDraws x = Check.of(THREE);
        row(check, "at first", x::status, 0, 0, -1);
        x.image();
        for (int i = 1; i <= 4; i++) {
            noSuch(check, "parish", () -> x.parish(3, 9));
            illegal(check, "parish", () -> x.parish(0, 9));
            illegal(check, "law", () -> x.law(1));
            row(check, "refused", x::status, i, 2 * i, -1);
        }
        Check.law(x, "1+");
        Check.work(x, "move 0 0;");
        check.due("neither faults nor refused steps", 4, () -> x.status(0));
        check.due("are calls refused", 8, () -> x.status(1));
        x.undo();
        x.restore();
        x.restore();
        Check.county(x, "");
        row(check, "they stay", x::status, 4, 8, -1);
        for (int other : OTHERS) {
            check.due("status of " + other, NONE, () -> x.status(other));
        }
        row(check, "nor is that refused", x::status, 4, 8, -1);
    }

    @Says(at = "Promise 39", words = "0 IMAGES, 1 bytes of the TAPE, 2 WORKS that can be undone; NONE for others.")
    static void countsOfAll(Check check) {
        WinnerDraws x = Check.of(THREE);
        row(check, "at first", x::count, 0, 0, 0, -1);
        for (int i = 1; i <= 3; i++) {
            Check.work(x, "vote;");
            Check.work(x, "");
            x.image();
            x.feed(0, 0, 0, 0, 0);
            row(check, "then", x::count, i, 20, 2 * i, -1);
            x.book(0);
        }
        x.feed(0, 0, 0, 0, 0);
        x.feed(0, 0, 0, 0, 0);
        x.undo();
        row(check, "behind undo", x::count, 3, 40, 5, -1);
        x.restore();
        row(check, "behind restore", x::count, 2, 40, 6, -1);
        for (int other : OTHERS) {
            check.due("count of " + other, NONE, () -> x.count(other));
        }
        row(check, "nothing is refused", x::status, 0, 0, -1);
    }
}
