/** Promises 9 to 12, 22 and 26 to 33: what a COUNTY is now. */
public final class CountyTest {
    private static final Check CHECK = new Check();

    /** Wards 0 (7 by 6), 1 (3 by 8) and 3 (7 by 1); ward 2 is empty. */
    static final String CHAIN = "parish 0 6 2;parish 0 1 4;parish 1 3 3;parish 1 0 5;parish 3 7 1;"
            + "road 0 1;road 1 2;road 2 3;road 3 4;road 2 0;";

    public static void main(String[] args) {
        places();
        sides();
        waste();
        smallestAndClosest();
        linesAndClusters();
        strongestAndFlip();
        tides();
        CHECK.end();
    }

    private static void row(String name, long[] due, Row row) {
        for (int i = 0; i < due.length; i++) {
            int what = i;
            CHECK.due(name + " " + i, due[i], () -> row.answer(what));
        }
    }

    interface Row {
        long answer(int what);
    }

    private static void places() {
        WinnerDraws x = Check.of(CHAIN);
        row("told", new long[] {5, 5, 0, 20, 0, -1, 0, 3, 32, 11, 0, 0, 0}, i -> x.told(i));
        row("parish 2", new long[] {1, 3, 3, 11}, i -> x.parish(2, i));
        row("parish 4", new long[] {3, 7, 1, 8}, i -> x.parish(4, i));
        row("ward 0", new long[] {3, 7, 6, 0, 1}, i -> x.ward(0, i));
        row("ward 1", new long[] {12, 3, 8, 1, 1}, i -> x.ward(1, i));
        row("ward 2", new long[] {0, 0, 0, -1, 1}, i -> x.ward(2, i));
        row("ward 3", new long[] {16, 7, 1, 0, 1}, i -> x.ward(3, i));
        WinnerDraws torn = Check.of("parish 0 1 1;parish 1 2 0;parish 0 3 3;road 0 1;road 1 2;");
        row("torn ward", new long[] {5, 4, 4, -1, 0}, i -> torn.ward(0, i));
        WinnerDraws far = Check.of("parish 2 0 0;parish 2 0 0;parish 2 0 0;parish 2 0 0;road 0 3;road 3 1;road 1 2;");
        CHECK.due("a ward that hangs together backwards", 1, () -> far.ward(2, 4));
    }

    private static void sides() {
        WinnerDraws x = Check.of(CHAIN);
        row("side 0", new long[] {2, 17, 1, 9}, i -> x.side(0, i));
        row("side 1", new long[] {1, 15, -1, 2}, i -> x.side(1, i));
        WinnerDraws tied = Check.of("parish 0 5 5;parish 1 0 0;");
        row("tied side 0", new long[] {0, 5, 0, 0}, i -> tied.side(0, i));
    }

    private static void waste() {
        WinnerDraws x = Check.of(CHAIN);
        row("waste of 0: 8 by 32", new long[] {1, 4}, i -> x.waste(0, i));
        row("waste of 1: 11 by 32", new long[] {11, 32}, i -> x.waste(1, i));
        WinnerDraws none = Check.of("parish 0 0 0;");
        row("waste without votes", new long[] {0, 1}, i -> none.waste(1, i));
        WinnerDraws needed = Check.of("parish 0 1 0;");
        row("waste of what just wins", new long[] {0, 1}, i -> needed.waste(0, i));
        WinnerDraws tied = Check.of("parish 0 4 4;");
        row("waste of a tied ward", new long[] {1, 2}, i -> tied.waste(0, i));
        WinnerDraws all = Check.of("parish 0 0 9;parish 0 1 0;");
        row("waste of 1: 7 by 10", new long[] {7, 10}, i -> all.waste(1, i));
    }

    private static void smallestAndClosest() {
        WinnerDraws x = Check.of(CHAIN);
        row("smallest", new long[] {3, 5}, i -> x.smallest(i));
        row("closest", new long[] {0, 1}, i -> x.closest(i));
        WinnerDraws alike = Check.of("parish 3 4 1;parish 2 1 4;parish 1 9 9;");
        row("smallest of alike ones", new long[] {2, 13}, i -> alike.smallest(i));
        row("closest of alike ones", new long[] {2, 3}, i -> alike.closest(i));
        WinnerDraws one = Check.of("parish 1 0 0;");
        row("smallest of one", new long[] {1, 0}, i -> one.smallest(i));
        row("closest without a winner", new long[] {-1, -1}, i -> one.closest(i));
        WinnerDraws none = Check.of("");
        row("smallest of none", new long[] {-1, -1}, i -> none.smallest(i));
        row("closest of none", new long[] {-1, -1}, i -> none.closest(i));
    }

    private static void linesAndClusters() {
        WinnerDraws x = Check.of(CHAIN);
        CHECK.due("border", 31, () -> x.border());
        CHECK.due("lone", 16, () -> x.lone());
        row("cluster", new long[] {3, 3, 12, 12, 16}, i -> x.cluster(i));
        WinnerDraws torn = Check.of("parish 0 1 1;parish 1 2 0;parish 0 3 3;parish 0 0 0;parish 3 0 0;"
                + "road 0 1;road 1 2;road 2 3;");
        row("cluster of a torn ward", new long[] {1, 2, 12, 12, 16}, i -> torn.cluster(i));
        CHECK.due("border of a torn ward", 7, () -> torn.border());
        CHECK.due("lone of a torn ward", 18, () -> torn.lone());
        CHECK.due("lines of a torn ward", 2, () -> torn.told(7));
        WinnerDraws none = Check.of("");
        CHECK.due("border of none", 0, () -> none.border());
        CHECK.due("lone of none", 0, () -> none.lone());
    }

    private static void strongestAndFlip() {
        WinnerDraws x = Check.of(CHAIN);
        row("strongest of 0", new long[] {4, 6}, i -> x.strongest(0, i));
        row("strongest of 1", new long[] {3, 5}, i -> x.strongest(1, i));
        row("flip", new long[] {1, 3, 0, 3}, i -> x.flip(i));
        WinnerDraws alike = Check.of("parish 0 3 1;parish 0 5 3;parish 1 2 2;parish 2 0 1;parish 3 9 5;");
        row("strongest of alike ones", new long[] {4, 4}, i -> alike.strongest(0, i));
        row("flip of even and odd leads", new long[] {2, 0, 1, 2}, i -> alike.flip(i));
        WinnerDraws first = Check.of("parish 0 3 1;parish 0 5 3;");
        row("strongest, the first", new long[] {0, 2}, i -> first.strongest(0, i));
        row("strongest without a lead", new long[] {-1, -1}, i -> first.strongest(1, i));
    }

    private static void tides() {
        WinnerDraws x = Check.of("parish 0 9 9;tide 1 10;tide 0 20;tide 1 0;");
        row("tide of year 0", new long[] {1, 10}, i -> x.tide(i));
        Check.work(x, "vote;");
        row("tide of year 1", new long[] {0, 20}, i -> x.tide(i));
        Check.work(x, "vote;");
        row("tide of year 2", new long[] {1, 0}, i -> x.tide(i));
        Check.work(x, "vote;");
        row("tide of year 3", new long[] {1, 10}, i -> x.tide(i));
        WinnerDraws none = Check.of("parish 0 9 9;");
        row("no tide", new long[] {-1, -1}, i -> none.tide(i));
    }
}
