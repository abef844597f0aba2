/** Promises 13 to 18, 21, 23 and 24: what moves cost, which may be, and what they bring. */
public final class MovesTest {
    private static final Check CHECK = new Check();

    public static void main(String[] args) {
        laws();
        lawRanges();
        costs();
        mayMove();
        best();
        bestAndCost();
        several();
        swings();
        fits();
        look();
        CHECK.end();
    }

    private static void law(String text, int due) {
        WinnerDraws x = new WinnerDraws();
        Check.law(x, text);
        // people 100, lead -7, size 3, room 4, lines 11, reign 2, year 13, parish 6
        CHECK.due("law " + text, due, () -> x.would(100, -7, 3, 4, 11, 2, 13, 6));
    }

    private static void laws() {
        law("0", 0);
        law("59", 59);
        law("61", 60);
        law("999", 60);
        law("1-2", 0);
        law("people", 60);
        law("people-60", 40);
        law("lead", 0);
        law("0-lead", 7);
        law("size", 3);
        law("room", 4);
        law("lines", 11);
        law("reign", 2);
        law("year", 13);
        law("parish", 6);
        law("2+3*4", 14);
        law("(2+3)*4", 20);
        law("20-5-3", 12);
        law("40/5/2", 4);
        law("40/(5/2)", 20);
        law("17%5*3", 6);
        law("7/2", 3);
        law("10+lead/2", 7);
        law("10+lead%4", 7);
        law("10+7%(0-4)", 13);
        law("5/0+7", 7);
        law("5%0+8", 8);
        law("least[9,5]", 5);
        law("least[5,9]", 5);
        law("most[9,5]", 9);
        law("most[5,9]", 9);
        law("most[least[size,room],least[lines,reign]]", 3);
        // 999 four times wraps to -426416671.
        law("0-999*999*999*999/999/999/10", 42);
        law("0-999*999*999*999%16", 15);
        law("999*999*999*999%16", 0);
        law("(0-256*256*256*128)/(0-1)+50", 0);
        law("(256*256*256*128)%(0-1)+50", 50);
        law("256*256*256*128-1+0-2+6-256*256*256*128", 3);
        law("1+".repeat(74) + "1", 60);
        law("least[1,1]+".repeat(12) + "1", 13);
    }

    private static void lawRanges() {
        WinnerDraws x = new WinnerDraws();
        Check.law(x, "parish+1");
        CHECK.due("would at the least", 1, () -> x.would(0, -99, 0, 0, 0, 0, 0, 0));
        CHECK.due("would at the most", 10, () -> x.would(198, 99, 10, 10, 60, 400, 400, 9));
        int[] least = {0, -99, 0, 0, 0, 0, 0, 0};
        int[] most = {198, 99, 10, 10, 60, 400, 400, 9};
        for (int i = 0; i < 8; i++) {
            int[] f = least.clone();
            f[i] = least[i] - 1;
            CHECK.due("would, too small " + i, Check.ILLEGAL,
                    () -> x.would(f[0], f[1], f[2], f[3], f[4], f[5], f[6], f[7]));
            int[] g = least.clone();
            g[i] = most[i] + 1;
            CHECK.due("would, too large " + i, Check.ILLEGAL,
                    () -> x.would(g[0], g[1], g[2], g[3], g[4], g[5], g[6], g[7]));
        }
        CHECK.due("sixteen were refused", 16, () -> x.status(1));
    }

    private static void costs() {
        WinnerDraws x = Check.of(CountyTest.CHAIN);
        CHECK.due("cost without a law", 1, () -> x.cost(4, 2));
        Check.law(x, "people*people%7+10*size+room");
        CHECK.due("cost of 0 to 1", 64 % 7 + 20 + 2, () -> x.cost(0, 1));
        CHECK.due("cost of 0 to its own", 64 % 7 + 20 + 2, () -> x.cost(0, 0));
        CHECK.due("cost of 4 to 2", 64 % 7 + 10, () -> x.cost(4, 2));
        Check.law(x, "10+lead");
        CHECK.due("lead of 0, as none rules", 14, () -> x.cost(0, 1));
        Check.work(x, "count 0 0 9;vote;");
        CHECK.due("side 1 rules", 1, () -> x.told(5));
        CHECK.due("lead of 1, as it rules", 19, () -> x.cost(0, 1));
        CHECK.due("lead of 1 in 4", 4, () -> x.cost(4, 0));
        Check.law(x, "lines+10*reign+20*year+parish");
        CHECK.due("lines, reign, year, parish", 3 + 10 + 20 + 4, () -> x.cost(4, 0));
        CHECK.due("cost, no parish", Check.NO_SUCH, () -> x.cost(5, 0));
        CHECK.due("cost, no ward", Check.NO_SUCH, () -> x.cost(0, 4));
        CHECK.due("cost, no ward below", Check.NO_SUCH, () -> x.cost(0, -1));
    }

    private static void mayMove() {
        WinnerDraws x = Check.of(CountyTest.CHAIN);
        long[] due = {2, 2, 1, 8, 0};
        for (int i = 0; i < 5; i++) {
            int parish = i;
            CHECK.due("may " + i, due[i], () -> x.may(parish));
        }
        WinnerDraws torn = Check.of("parish 0 1 1;parish 0 1 1;parish 0 1 1;parish 1 1 1;parish 2 1 1;parish 3 1 1;"
                + "road 0 1;road 1 2;road 1 3;road 1 4;road 0 5;road 0 3;");
        CHECK.due("may not: the others would not hang together", 0, () -> torn.may(1));
        CHECK.due("may to two wards", 10, () -> torn.may(0));
        CHECK.due("may not: no road over a line", 0, () -> torn.may(2));
        WinnerDraws mend = Check.of("parish 0 1 1;parish 0 1 1;parish 0 1 1;parish 1 1 1;road 0 1;road 2 3;");
        CHECK.due("may: the others hang together, if not all did", 2, () -> mend.may(2));
    }

    private static void best(WinnerDraws x, int side, int parish, int ward, int margin) {
        CHECK.due("best parish of " + side, parish, () -> x.best(side, 0));
        CHECK.due("best ward of " + side, ward, () -> x.best(side, 1));
        CHECK.due("best margin of " + side, margin, () -> x.best(side, 2));
    }

    private static void best() {
        WinnerDraws x = Check.of(CountyTest.CHAIN);
        best(x, 0, 3, 3, 2);
        best(x, 1, 0, 1, 1);
        WinnerDraws none = Check.of("parish 0 1 0;");
        best(none, 0, -1, -1, -1);
        // Side 1 has none of three wards; if 0 leaves ward 0, that one is its own: margin -3 becomes -1.
        WinnerDraws below = Check.of("parish 0 9 0;parish 0 0 5;parish 1 9 0;parish 2 9 0;"
                + "road 0 1;road 0 2;road 0 3;");
        best(below, 1, 0, 1, -1);
        CHECK.due("a margin of -1 is told, though", 0, () -> below.best(1, 0));
    }

    private static void bestAndCost() {
        String text = "parish 0 9 0;parish 0 0 5;parish 1 9 0;parish 2 9 0;road 0 1;road 0 2;road 0 3;purse 8;";
        WinnerDraws x = Check.of(text);
        best(x, 1, 0, 1, -1);
        Check.law(x, "9");
        best(x, 1, -1, -1, -1);
        Check.law(x, "8");
        best(x, 1, 0, 1, -1);
        WinnerDraws cheap = Check.of("parish 0 9 0;parish 0 0 5;parish 1 9 0;parish 1 9 0;parish 2 9 0;"
                + "road 0 1;road 0 2;road 0 4;road 2 3;");
        Check.law(cheap, "room*5");
        best(cheap, 1, 0, 2, -1);
        Check.law(cheap, "11-room");
        best(cheap, 1, 0, 1, -1);
    }

    private static void several() {
        WinnerDraws x = Check.of(CountyTest.CHAIN);
        CHECK.due("redrawn 0 0", 1, () -> x.redrawn(0, 0));
        CHECK.due("redrawn 0 1", 2, () -> x.redrawn(0, 1));
        CHECK.due("redrawn 1 0", -1, () -> x.redrawn(1, 0));
        CHECK.due("redrawn 1 1", 1, () -> x.redrawn(1, 1));
        CHECK.due("turned 0", 1, () -> x.turned(0));
        CHECK.due("turned 1", 2, () -> x.turned(1));
        CHECK.due("turned 2", 1, () -> x.turned(2));
        Check.law(x, "60");
        CHECK.due("costs all the same", 2, () -> x.redrawn(0, 1));
        CHECK.due("costs all the same by turns", 2, () -> x.turned(1));
        CHECK.due("nothing was moved", 12, () -> x.ward(1, 0));
        CHECK.due("nor counted", 0, () -> x.told(12));
        // Side 1 wins ward 1 only if 2 comes to it and then 1, which borders on it by 2 alone.
        WinnerDraws chain = Check.of("parish 0 5 0;parish 0 0 2;parish 0 0 2;parish 1 3 0;"
                + "road 0 1;road 1 2;road 2 3;");
        CHECK.due("one move", 2, () -> chain.redrawn(0, 1));
        CHECK.due("one move of side 1", -2, () -> chain.redrawn(1, 1));
        CHECK.due("two moves of side 1", 0, () -> chain.redrawn(1, 2));
    }

    private static void swings() {
        WinnerDraws x = Check.of(CountyTest.CHAIN);
        CHECK.due("swing to 0", 0, () -> x.swing(0));
        CHECK.due("swing to 1", 17, () -> x.swing(1));
        WinnerDraws all = Check.of("parish 0 0 1;");
        CHECK.due("swing of all", 100, () -> all.swing(0));
        WinnerDraws none = Check.of("parish 0 0 0;");
        CHECK.due("no swing", -1, () -> none.swing(0));
        WinnerDraws each = Check.of("parish 0 0 3;parish 0 0 3;parish 0 4 0;");
        CHECK.due("cut in each parish", 34, () -> each.swing(0));
    }

    private static void fits(WinnerDraws x, int many, int first) {
        CHECK.due("fits", many, () -> x.fits(0));
        CHECK.due("first that fits", first, () -> x.fits(1));
    }

    private static void fits() {
        WinnerDraws x = Check.of(CountyTest.CHAIN);
        fits(x, 4, 1);
        Check.book(x, "0 0;");
        fits(x, 3, 11);
        Check.book(x, "1 2;");
        fits(x, 1, 33);
        Check.book(x, "2 2;3 0;1 1;");
        fits(x, 3, 1);
        Check.book(x, "2 1;");
        fits(x, 0, -1);
        Check.law(x, "60");
        Check.book(x, "");
        fits(x, 4, 1);
    }

    private static void look(WinnerDraws x, int ward, int left) {
        CHECK.due("look", ward, () -> x.look(0));
        CHECK.due("left at the worst", left, () -> x.look(1));
    }

    private static void look() {
        WinnerDraws x = Check.of(CountyTest.CHAIN);
        // Behind the four moves ward 0 is won by 1, 0, 0, 0; ward 1 by 1, 1, 1, none; 2 by none; 3 by 0.
        look(x, 0, 3);
        Check.book(x, "0 0;");
        look(x, 1, 2);
        Check.book(x, "0 0;1 1;");
        look(x, 2, 2);
        Check.book(x, "0 0;1 1;2 2;3 0;");
        look(x, -1, -1);
        Check.book(x, "2 0;");
        look(x, 0, 0);
        WinnerDraws none = Check.of("");
        look(none, 0, 0);
    }
}
