/** Promises 9 to 39 by wrong inputs: which exception, which first, and how many are counted. */
public final class RefusalsTest {
    private static final int[] FAR = {Integer.MIN_VALUE, Integer.MIN_VALUE + 1, -100, -1, 0, 1, 2, 3, 4, 5, 9, 10, 13,
        14, 16, 17, 48, 49, 60, 61, 99, 100, 198, 400, 401, 600, 601, 1 << 16, Integer.MAX_VALUE};

    private static final Check CHECK = new Check();
    private static int noSuch;
    private static int illegal;
    private static WinnerDraws x;

    public static void main(String[] args) {
        x = Check.of(CountyTest.CHAIN);
        whats();
        noSuchFirst();
        ranges();
        counted();
        extremes("");
        extremes(CountyTest.CHAIN + "tide 1 20;");
        CHECK.end();
    }

    private static void illegal(String call, Check.Call made) {
        illegal++;
        CHECK.due(call, Check.ILLEGAL, made);
    }

    private static void noSuch(String call, Check.Call made) {
        noSuch++;
        CHECK.due(call, Check.NO_SUCH, made);
    }

    private static void whats() {
        for (int wrong : new int[] {-1, Integer.MIN_VALUE, Integer.MAX_VALUE}) {
            whats(wrong, wrong, wrong, wrong, wrong);
        }
        whats(2, 3, 4, 5, 13);
        CHECK.due("status of others", -1, () -> x.status(2));
        CHECK.due("status of others", -1, () -> x.status(-1));
        CHECK.due("count of others", -1, () -> x.count(3));
        CHECK.due("count of others", -1, () -> x.count(-1));
    }

    private static void whats(int two, int three, int four, int five, int thirteen) {
        illegal("told", () -> x.told(thirteen));
        illegal("parish", () -> x.parish(0, four));
        illegal("ward", () -> x.ward(0, five));
        illegal("side", () -> x.side(0, four));
        illegal("best", () -> x.best(0, three));
        illegal("reigns", () -> x.reigns(1, two));
        illegal("round", () -> x.round(two));
        illegal("waste", () -> x.waste(0, two));
        illegal("fits", () -> x.fits(two));
        illegal("look", () -> x.look(two));
        illegal("recount", () -> x.recount(1, 1, 1, two));
        illegal("smallest", () -> x.smallest(two));
        illegal("closest", () -> x.closest(two));
        illegal("tide", () -> x.tide(two));
        illegal("strongest", () -> x.strongest(0, two));
        illegal("time", () -> x.time(1, 1, 1, four));
        illegal("span", () -> x.span(1, 1, 1, 1, three, 0));
    }

    private static void noSuchFirst() {
        for (int wrong : new int[] {-1, 99, Integer.MIN_VALUE, Integer.MAX_VALUE}) {
            noSuch("parish", () -> x.parish(wrong, 9));
            noSuch("ward", () -> x.ward(wrong, 9));
            noSuch("side", () -> x.side(wrong, 9));
            noSuch("cost", () -> x.cost(wrong, 0));
            noSuch("cost", () -> x.cost(0, wrong));
            noSuch("may", () -> x.may(wrong));
            noSuch("best", () -> x.best(wrong, 9));
            noSuch("redrawn", () -> x.redrawn(wrong, 9));
            noSuch("swing", () -> x.swing(wrong));
            noSuch("waste", () -> x.waste(wrong, 9));
            noSuch("flip", () -> x.flip(wrong));
            noSuch("cluster", () -> x.cluster(wrong));
            noSuch("strongest", () -> x.strongest(wrong, 9));
        }
        noSuch("parish 5 of 5", () -> x.parish(5, 0));
        noSuch("ward 4", () -> x.ward(4, 0));
        noSuch("side 2", () -> x.side(2, 0));
        noSuch("cost of 5 of 5", () -> x.cost(5, 0));
        noSuch("cost to 4", () -> x.cost(0, 4));
        noSuch("may 5 of 5", () -> x.may(5));
        noSuch("best 2", () -> x.best(2, 0));
        noSuch("redrawn 2", () -> x.redrawn(2, 0));
        noSuch("swing 2", () -> x.swing(2));
        noSuch("waste 2", () -> x.waste(2, 0));
        noSuch("flip 4", () -> x.flip(4));
        noSuch("cluster 5 of 5", () -> x.cluster(5));
        noSuch("strongest 2", () -> x.strongest(2, 0));
        CHECK.due("one more WARD is told, it is the last", 0, () -> x.flip(2));
    }

    private static void ranges() {
        illegal("redrawn -1", () -> x.redrawn(0, -1));
        illegal("redrawn 4", () -> x.redrawn(1, 4));
        illegal("turned -1", () -> x.turned(-1));
        illegal("turned 4", () -> x.turned(4));
        illegal("reigns -1", () -> x.reigns(-1, 0));
        illegal("reigns 61", () -> x.reigns(61, 0));
        illegal("recount n -1", () -> x.recount(-1, 0, 0, 0));
        illegal("recount n 13", () -> x.recount(13, 0, 0, 0));
        illegal("recount k -1", () -> x.recount(0, -1, 0, 0));
        illegal("recount k 14", () -> x.recount(0, 14, 0, 0));
        illegal("recount q -1", () -> x.recount(0, 0, -1, 0));
        illegal("recount q 17", () -> x.recount(0, 0, 17, 0));
        illegal("time q -1", () -> x.time(1, -1, 1, 0));
        illegal("time q 17", () -> x.time(1, 17, 1, 0));
        illegal("time of 0 years", () -> x.time(1, 0, 0, 0));
        illegal("time of 49 years", () -> x.time(1, 0, 49, 0));
        illegal("span of 0 seeds", () -> x.span(1, 0, 0, 1, 0, 0));
        illegal("span of 11 seeds", () -> x.span(1, 11, 0, 1, 0, 0));
        illegal("span q -1", () -> x.span(1, 1, -1, 1, 0, 0));
        illegal("span q 17", () -> x.span(1, 1, 17, 1, 0, 0));
        illegal("span of 0 years", () -> x.span(1, 1, 0, 0, 0, 0));
        illegal("span of 49 years", () -> x.span(1, 1, 0, 49, 0, 0));
        illegal("span side -1", () -> x.span(1, 1, 0, 1, 0, -1));
        illegal("span side 2", () -> x.span(1, 1, 0, 1, 1, 2));
        illegal("county -1", () -> x.county(-1));
        illegal("law 1", () -> x.law(1));
        illegal("work 1", () -> x.work(1));
        illegal("book 1", () -> x.book(1));
        CHECK.due("the most that may be", -1, () -> x.time(Integer.MIN_VALUE, 16, 48, 0) < 2 ? -1 : 0);
        CHECK.due("the most seeds", 0, () -> x.span(-1, 10, 16, 48, 2, 0) > 10 ? 1 : 0);
    }

    private static void counted() {
        CHECK.due("calls without such", noSuch, () -> x.status(0));
        CHECK.due("illegal calls", illegal, () -> x.status(1));
        x.image();
        x.restore();
        Check.county(x, "");
        CHECK.due("they stay counted", noSuch, () -> x.status(0));
        CHECK.due("all of them", illegal, () -> x.status(1));
    }

    /** Whatever the arguments: an answer, or an exception that the document names. */
    private static void extremes(String county) {
        int answers = 0;
        for (int a : FAR) {
            for (int b : FAR) {
                // An object is promised for 512 calls only.
                WinnerDraws y = Check.of(county);
                long sum = Check.answerOf(() -> y.told(a)) + Check.answerOf(() -> y.parish(a, b))
                        + Check.answerOf(() -> y.ward(a, b)) + Check.answerOf(() -> y.side(a, b))
                        + Check.answerOf(() -> y.cost(a, b)) + Check.answerOf(() -> y.may(a))
                        + Check.answerOf(() -> y.best(a, b)) + Check.answerOf(() -> y.redrawn(a, b))
                        + Check.answerOf(() -> y.turned(a)) + Check.answerOf(() -> y.reigns(a, b))
                        + Check.answerOf(() -> y.round(a)) + Check.answerOf(() -> y.swing(a))
                        + Check.answerOf(() -> y.waste(a, b)) + Check.answerOf(() -> y.fits(a))
                        + Check.answerOf(() -> y.look(a)) + Check.answerOf(() -> y.recount(a, b, a, b))
                        + Check.answerOf(() -> y.recount(12, a, b, 1)) + Check.answerOf(() -> y.smallest(a))
                        + Check.answerOf(() -> y.closest(a)) + Check.answerOf(() -> y.tide(a))
                        + Check.answerOf(() -> y.flip(a)) + Check.answerOf(() -> y.cluster(a))
                        + Check.answerOf(() -> y.strongest(a, b)) + Check.answerOf(() -> y.time(a, b, 3, 2))
                        + Check.answerOf(() -> y.time(b, 16, a, 1)) + Check.answerOf(() -> y.span(a, b, 9, 3, 1, 0))
                        + Check.answerOf(() -> y.span(a, 2, b, 3, 2, 1)) + Check.answerOf(() -> y.status(a))
                        + Check.answerOf(() -> y.count(a)) + Check.answerOf(() -> y.would(a, b, a, b, a, b, a, b))
                        + Check.answerOf(() -> y.feed(a, b, a, b, a)) + Check.answerOf(() -> y.law(a))
                        + Check.answerOf(() -> y.work(b)) + Check.answerOf(() -> y.book(a));
                answers += sum == 0 ? 1 : 2;
            }
        }
        CHECK.same("all answered or refused", 1, answers > 0 ? 1 : 0);
    }
}
