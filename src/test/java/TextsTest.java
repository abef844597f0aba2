/** Promises 1 to 7: a new object, the TAPE, the four texts and their FAULTS. */
public final class TextsTest {
    private static final Check CHECK = new Check();

    public static void main(String[] args) {
        newObject();
        tape();
        lengths();
        countyFaults();
        countyLimits();
        countyTells();
        lawFaults();
        workFaults();
        bookFaults();
        faultLeavesAll();
        CHECK.end();
    }

    private static void newObject() {
        WinnerDraws x = new WinnerDraws();
        CHECK.same("NONE", -1, WinnerDraws.NONE);
        int[] due = {0, 0, 0, 20, 0, -1, 0, 0, 0, 0, 0, 0, 0};
        for (int i = 0; i < due.length; i++) {
            int what = i;
            CHECK.due("new: told " + i, due[i], () -> x.told(what));
        }
        CHECK.due("new: fault", -1, () -> x.fault());
        CHECK.due("new: undo", -1, () -> x.undo());
        CHECK.due("new: restore", -1, () -> x.restore());
        CHECK.due("new: would", 1, () -> x.would(198, 99, 10, 10, 60, 400, 400, 9));
        for (int i = 0; i < 3; i++) {
            int what = i;
            CHECK.due("new: count " + i, 0, () -> x.count(what));
        }
        CHECK.due("new: status 0", 0, () -> x.status(0));
        CHECK.due("new: status 1", 0, () -> x.status(1));
    }

    private static void tape() {
        WinnerDraws x = new WinnerDraws();
        for (int i = 1; i <= 30; i++) {
            CHECK.due("feed " + i, 20 * i, () -> x.feed(0x20202020, 0x20202020, 0x20202020, 0x20202020, 0x20202020));
        }
        CHECK.due("feed too many", -1, () -> x.feed(0, 0, 0, 0, 0));
        CHECK.due("tape is full", 600, () -> x.count(1));
        CHECK.due("600 blanks are a county", 0, () -> x.county(600));
        CHECK.due("tape is empty", 0, () -> x.count(1));
        CHECK.due("highest byte first", -8, () -> {
            x.feed('p' << 24 | 'u' << 16 | 'r' << 8 | 's', 'e' << 24 | ' ' << 16 | '9' << 8 | '9', '9' << 24, -1, 0);
            return x.county(9);
        });
        CHECK.due("place of the number", 6, () -> x.fault());
        CHECK.due("bytes above 127", -9, () -> {
            x.feed(-1, -1, -1, -1, -1);
            return x.county(1);
        });
    }

    private static void lengths() {
        WinnerDraws x = new WinnerDraws();
        CHECK.due("county below 0", Check.ILLEGAL, () -> x.county(-1));
        CHECK.due("county beyond an empty tape", Check.ILLEGAL, () -> x.county(1));
        for (int i = 0; i < 8; i++) {
            x.feed(0, 0, 0, 0, 0);
        }
        CHECK.due("law of 151", Check.ILLEGAL, () -> x.law(151));
        CHECK.due("work of 151", Check.ILLEGAL, () -> x.work(151));
        CHECK.due("book of 61", Check.ILLEGAL, () -> x.book(61));
        CHECK.due("county of 161", Check.ILLEGAL, () -> x.county(161));
        CHECK.due("law of -1", Check.ILLEGAL, () -> x.law(-1));
        CHECK.due("work of -1", Check.ILLEGAL, () -> x.work(-1));
        CHECK.due("book of -1", Check.ILLEGAL, () -> x.book(-1));
        CHECK.due("tape stays", 160, () -> x.count(1));
        CHECK.due("no fault of what was not read", -1, () -> x.fault());
        CHECK.due("law of 150", -9, () -> x.law(150));
        CHECK.due("tape is empty behind a fault", 0, () -> x.count(1));
        CHECK.due("nine were refused", 9, () -> x.status(1));
        CHECK.due("work(0)", 0, () -> x.work(0));
        CHECK.due("no fault behind it", -1, () -> x.fault());
        CHECK.due("law(0)", -9, () -> x.law(0));
        CHECK.due("at the length", 0, () -> x.fault());
        CHECK.due("book(0)", 0, () -> x.book(0));
        CHECK.due("county(0)", 0, () -> x.county(0));
    }

    private static void county(String text, int answer, int fault) {
        WinnerDraws x = new WinnerDraws();
        CHECK.due("county '" + text + "'", answer, () -> Check.county(x, text));
        CHECK.due("fault of county '" + text + "'", fault, () -> x.fault());
    }

    private static void countyFaults() {
        county("", 0, -1);
        county("   ", 0, -1);
        county("parish 0 1 2;", 1, -1);
        county("  parish  003 99 0099  ;  purse0;  ", 1, -1);
        county("parish3 1 2;", 1, -1);
        county("parish 4 1 2;", -8, 7);
        county("parish 0 100 2;", -8, 9);
        county("parish 0 1 99999999999999999999;", -8, 11);
        county("parish 0 1;", -9, 10);
        county("parish 0 1 2", -9, 12);
        county("parish 0 1 2  ", -9, 14);
        county("parish 0 1 2 3;", -9, 13);
        county("parish -1 1 2;", -9, 7);
        county("parishes 0 1 2;", -9, 0);
        county("Parish 0 1 2;", -9, 0);
        county("pa rish 0 1 2;", -9, 0);
        county(" ;", -9, 1);
        county("purse 1;;", -9, 8);
        county("purse 1 purse 2;", -9, 8);
        county("purse 100;", -8, 6);
        county("tide 2 0;", -8, 5);
        county("tide 1 21;", -8, 7);
        county("tide 1 20;", 0, -1);
        county("road 0 1;", -8, 5);
        county("parish 0 0 0;road 0 1;", -8, 20);
        county("parish 0 0 0;parish 0 0 0;road 1 1;", -8, 33);
        county("parish 0 0 0;parish 0 0 0;road 2 1;", -8, 31);
        county("parish 0 0 0;parish 0 0 0;road 1 0;", 2, -1);
        county("parish 0 0 0;road 0 1;parish 0 0 0;", -8, 20);
        county("purse 100;foo", -8, 6);
        county("purse\t1;", -9, 5);
    }

    private static void countyLimits() {
        String ten = "parish 0 0 0;".repeat(10);
        county(ten, 10, -1);
        county(ten + "parish 9 9 9;", -7, 130);
        county(ten + "  parish", -7, 132);
        county(ten + "parishy", -9, 130);
        String six = "tide 0 0;".repeat(6);
        county(six, 0, -1);
        county(six + "tide", -7, 54);
        String sixty = "purse 1;".repeat(60);
        county(sixty, 0, -1);
        county(sixty + " ", 0, -1);
        county(sixty + "purse 1;", -7, 480);
        county(sixty + "curse 1;", -9, 480);
        county(sixty + ";", -9, 480);
        county(sixty + "7", -9, 480);
        county("purse 1;".repeat(59) + "purse 777;purse 1;", -8, 478);
        county("purse 0;" + " ".repeat(592), 0, -1);
    }

    private static void countyTells() {
        WinnerDraws x = new WinnerDraws();
        Check.county(x, "purse 7;parish 2 5 6;parish 1 0 99;road 0 1;road 1 0;road 0 1;tide 1 3;purse 8;tide 0 4;");
        int[] due = {2, 1, 2, 8, 0, -1, 0, 1, 110, 6, 0, 0, 0};
        for (int i = 0; i < due.length; i++) {
            int what = i;
            CHECK.due("county tells " + i, due[i], () -> x.told(what));
        }
        CHECK.due("tide to come", 1, () -> x.tide(0));
        CHECK.due("its share", 3, () -> x.tide(1));
        Check.law(x, "5");
        Check.book(x, "0 2;");
        Check.work(x, "vote;count 0 5 6;");
        x.image();
        CHECK.due("refused ahead of the county", 1, () -> x.told(10));
        CHECK.due("a new county", 1, () -> Check.county(x, "parish 0 1 0;"));
        int[] then = {1, 0, 0, 20, 0, -1, 0, 0, 1, 1, 0, 0, 0};
        for (int i = 0; i < then.length; i++) {
            int what = i;
            CHECK.due("new county tells " + i, then[i], () -> x.told(what));
        }
        CHECK.due("no law any more", 1, () -> x.cost(0, 0));
        CHECK.due("no images any more", -1, () -> x.restore());
        CHECK.due("nothing to undo any more", -1, () -> x.undo());
        CHECK.due("refused STEPS are forgotten", 0, () -> {
            Check.work(x, "draw;");
            Check.county(x, "");
            return x.told(10);
        });
    }

    private static void law(String text, int answer, int fault) {
        WinnerDraws x = new WinnerDraws();
        CHECK.due("law '" + text + "'", answer, () -> Check.law(x, text));
        CHECK.due("fault of law '" + text + "'", fault, () -> x.fault());
    }

    private static void lawFaults() {
        law("5", 1, -1);
        law(" 999 ", 1, -1);
        law("1000", -8, 0);
        law("", -9, 0);
        law("  ", -9, 2);
        law("1 1", -9, 2);
        law("1;", -9, 1);
        law("1+", -9, 2);
        law("+1", -9, 0);
        law("1--1", -9, 2);
        law("1 * ( 2 + people ) % 3 / lead", 1, -1);
        law("(1", -9, 2);
        law("(1]", -9, 2);
        law("1)", -9, 1);
        law("()", -9, 1);
        law("least[1,2]", 1, -1);
        law("most [ 1 , 2 ] ", 1, -1);
        law("least(1,2)", -9, 5);
        law("least[1]", -9, 7);
        law("least[1,2,3]", -9, 9);
        law("most[1,2)", -9, 8);
        law("mosts[1,2]", -9, 0);
        law("years", -9, 0);
        law("leastyear", -9, 0);
        law("people lead", -9, 7);
        law("2people", -9, 1);
        law("((((((1))))))", 1, -1);
        law("(((((((1)))))))", -7, 6);
        law("(least[(most[(least[1,2]),3]),(4)])", 1, -1);
        law("((((((1))))))+((((((2))))))", 1, -1);
        law("((((((least[1,2]))))))", -7, 6);
        law("least[1,least[1,least[1,least[1,least[1,least[1,most", -7, 48);
        law("least[".repeat(7), -7, 36);
        law("most[least[most[least[most[least[1,2],3],4],5],6],7]", 1, -1);
        law("((((((x", -9, 6);
        law("((((((1(", -9, 7);
        law("1+".repeat(74) + "1", 1, -1);
        law("1+".repeat(75), -9, 150);
    }

    private static final String THREE = "parish 0 1 2;parish 0 3 4;parish 1 5 6;road 0 1;road 1 2;";

    private static void work(String text, int answer, int fault) {
        WinnerDraws x = new WinnerDraws();
        Check.county(x, THREE);
        CHECK.due("work '" + text + "'", answer, () -> Check.work(x, text));
        CHECK.due("fault of work '" + text + "'", fault, () -> x.fault());
        CHECK.due("works behind '" + text + "'", answer < 0 ? 0 : 1, () -> x.count(2));
        CHECK.due("year behind faulty '" + text + "'", answer < 0 ? 0 : x.told(4), () -> x.told(4));
    }

    private static void workFaults() {
        work("", 0, -1);
        work("  ", 0, -1);
        work("vote;", 1, -1);
        work(" vote ; vote; ", 2, -1);
        work("vote", -9, 4);
        work("vote;draw", -9, 9);
        work("votes;", -9, 0);
        work("vote vote;", -9, 5);
        work("vote;;", -9, 5);
        work("vote;move 3 0;", -8, 10);
        work("move 0 4;", -8, 7);
        work("move 0;", -9, 6);
        work("move 1 1;", 1, -1);
        work("count 3 0 0;", -8, 6);
        work("count 2 100 0;", -8, 8);
        work("count 2 0 100;", -8, 10);
        work("count 2 99 99;", 1, -1);
        work("again 41[];", -8, 6);
        work("again 40 [ ] ;", 0, -1);
        work("again[];", -9, 5);
        work("again 1 vote;", -9, 8);
        work("again 1[vote];", -9, 12);
        work("again 1[vote;", -9, 13);
        work("again 1[vote;]", -9, 14);
        work("again 1[vote;;];", -9, 13);
        work("again 2[vote;];vote;", 3, -1);
        work("];", -9, 0);
        work("vote;]", -9, 5);
        work("again 1[".repeat(6) + "vote;" + "];".repeat(6), 1, -1);
        work("again 1[".repeat(7), -7, 48);
        work("again 1[".repeat(6) + " again 99", -7, 49);
        work("again 1[".repeat(6) + "vote;" + "];".repeat(6) + "again 1[vote;];", 2, -1);
        WinnerDraws empty = new WinnerDraws();
        CHECK.due("no parish to move", -8, () -> Check.work(empty, "move 0 0;"));
        CHECK.due("no parish to count", -8, () -> Check.work(empty, "vote;count 0 0 0;"));
        CHECK.due("its place", 11, () -> empty.fault());
    }

    private static void book(String text, int answer, int fault) {
        WinnerDraws x = new WinnerDraws();
        CHECK.due("book '" + text + "'", answer, () -> Check.book(x, text));
        CHECK.due("fault of book '" + text + "'", fault, () -> x.fault());
        CHECK.due("lines of book '" + text + "'", Math.max(0, answer), () -> x.told(11));
    }

    private static void bookFaults() {
        book("", 0, -1);
        book("  ", 0, -1);
        book("0 0;", 1, -1);
        book("3 2;1 1; 0 0 ;2 1; ", 4, -1);
        book("4 0;", -8, 0);
        book("0 3;", -8, 2);
        book("0 0;0 1;", -8, 4);
        book("0 0;1 0;2 0;3 0;1 0;", -8, 16);
        book("0;", -9, 1);
        book("0 0", -9, 3);
        book("00;", -9, 2);
        book("0 0 0;", -9, 4);
        book("a 0;", -9, 0);
        book(";", -9, 0);
        book("0 0;" + " ".repeat(56), 1, -1);
    }

    private static void faultLeavesAll() {
        WinnerDraws x = new WinnerDraws();
        Check.county(x, THREE);
        Check.law(x, "7");
        Check.book(x, "1 1;");
        Check.work(x, "vote;draw;move 0 1;");
        x.image();
        long year = x.told(4);
        long refused = x.told(10);
        CHECK.due("faulty county", -9, () -> Check.county(x, THREE + "parish 3 9 9;x"));
        CHECK.due("its place", THREE.length() + 13, () -> x.fault());
        CHECK.due("faulty law", -9, () -> Check.law(x, "9+"));
        CHECK.due("faulty book", -9, () -> Check.book(x, "0 0;2"));
        CHECK.due("faulty work", -8, () -> Check.work(x, "vote;vote;move 9 9;"));
        CHECK.due("fault stays till the next text", 15, () -> x.fault());
        CHECK.due("law stays", 7, () -> x.cost(0, 0));
        CHECK.due("book stays", 1, () -> x.told(11));
        CHECK.due("parishes stay", 3, () -> x.told(0));
        CHECK.due("roads stay", 2, () -> x.told(1));
        CHECK.due("votes stay", 21, () -> x.told(8));
        CHECK.due("year stays", year, () -> x.told(4));
        CHECK.due("refused steps stay", refused, () -> x.told(10));
        CHECK.due("works stay", 1, () -> x.count(2));
        CHECK.due("images stay", 1, () -> x.count(0));
        CHECK.due("a good text takes the fault away", 1, () -> Check.law(x, "8"));
        CHECK.due("so there is none", -1, () -> x.fault());
    }
}
