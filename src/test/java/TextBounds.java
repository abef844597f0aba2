import java.util.ArrayList;
import java.util.List;

/** Boundaries of the four texts, as 'Terms' names them. */
final class TextBounds {
    private static final int NONE = -1;
    private static final int CANT_STAND = -9;
    private static final int NO_SUCH_NUMBER = -8;
    private static final int TOO_MANY = -7;

    private TextBounds() {
    }

    interface Reader {
        int read(WinnerDraws draws, String text);
    }

    /** What the text answers on a new object with three PARISHES in a row, and the place of its FAULT. */
    private static WinnerDraws text(Check check, Reader reader, String text, int answer, int place) {
        WinnerDraws x = Check.of("parish 0 1 2;parish 0 3 4;parish 1 5 6;road 0 1;road 1 2;");
        check.due("'" + text + "'", answer, () -> reader.read(x, text));
        check.due("fault of '" + text + "'", place, x::fault);
        return x;
    }

    private static WinnerDraws county(Check check, String text, int answer, int place) {
        return text(check, Check::county, text, answer, place);
    }

    private static WinnerDraws law(Check check, String text, int answer, int place) {
        return text(check, Check::law, text, answer, place);
    }

    private static WinnerDraws work(Check check, String text, int answer, int place) {
        return text(check, Check::work, text, answer, place);
    }

    private static WinnerDraws book(Check check, String text, int answer, int place) {
        return text(check, Check::book, text, answer, place);
    }

    /** COST by a LAW where people is 100, lead -7, size 3, room 4, lines 11, reign 2, the year 13, the parish 6. */
    private static void price(Check check, String text, int due) {
        WinnerDraws x = law(check, text, 1, NONE);
        check.due("price by '" + text + "'", due, () -> x.would(100, -7, 3, 4, 11, 2, 13, 6));
    }

    /** A word with each letter in turn made another one, without its last letter, and with one more. */
    private static List<String> misspelt(String word) {
        List<String> others = new ArrayList<>();
        for (int i = 0; i < word.length(); i++) {
            others.add(word.substring(0, i) + "q" + word.substring(i + 1));
        }
        others.add(word.substring(0, word.length() - 1));
        others.add(word + "s");
        return others;
    }

    // ---- COUNTY ----

    @Says(at = "Terms", words = "A COUNTY is a text of up to 600 bytes")
    static void countyOf600Bytes(Check check) {
        WinnerDraws x = county(check, " ".repeat(592) + "purse 7;", 0, NONE);
        check.due("its last clause counts", 7, () -> x.told(3));
        county(check, " ".repeat(592) + "purse 77", CANT_STAND, 600);
        WinnerDraws y = new WinnerDraws();
        Check.feed(y, " ".repeat(600));
        check.due("601 bytes", Check.ILLEGAL, () -> y.county(601));
        check.due("none", 0, () -> new WinnerDraws().county(0));
    }

    @Says(at = "Terms", words = "{ CLAUSE \";\" }, at most 60.")
    static void sixtyClauses(Check check) {
        String clauses = "parish 0 0 0;parish 0 0 0;road 0 1;tide 0 0;" + "purse 9;".repeat(55);
        county(check, clauses, 2, NONE);
        county(check, clauses + "road 0 1;", 2, NONE);
        for (String clause : new String[] {"parish 0 0 0;", "road 0 1;", "tide 0 0;", "purse 1;"}) {
            county(check, clauses + "purse 9;" + clause, TOO_MANY, clauses.length() + 8);
        }
        county(check, clauses + "purse 9;", 2, NONE);
        county(check, clauses + "purse 9;;", CANT_STAND, clauses.length() + 8);
        county(check, ";", CANT_STAND, 0);
    }

    @Says(at = "Terms", words = "(PARISHES, numbered from 0 on, 10 at most:")
    static void tenParishes(Check check) {
        WinnerDraws x = county(check, "parish 0 1 0;".repeat(9) + "parish 3 8 9;", 10, NONE);
        check.due("the tenth is number 9", 8, () -> x.parish(9, 1));
        check.due("the first is number 0", 1, () -> x.parish(0, 1));
        check.due("there is no number 10", Check.NO_SUCH, () -> x.parish(10, 1));
        county(check, "parish 0 1 0;".repeat(11), TOO_MANY, 130);
        county(check, "parish 0 1 0;".repeat(10) + "purse 1; parish 0 1 0;", TOO_MANY, 139);
    }

    @Says(at = "Terms", words = "in WARD D, 0 to 3,")
    static void wardsOfParishes(Check check) {
        WinnerDraws x = county(check, "parish 0 0 0;parish 3 0 0;", 2, NONE);
        check.due("the least ward", 0, () -> x.parish(0, 0));
        check.due("the most", 3, () -> x.parish(1, 0));
        county(check, "parish 4 0 0;", NO_SUCH_NUMBER, 7);
    }

    @Says(at = "Terms", words = "VOTES A of SIDE 0, B of SIDE 1, 0 to 99 each)")
    static void votesOfParishes(Check check) {
        WinnerDraws x = county(check, "parish 0 99 0;parish 0 0 99;", 2, NONE);
        int[][] due = {{99, 0}, {0, 99}};
        for (int parish = 0; parish < 2; parish++) {
            for (int side = 0; side < 2; side++) {
                int p = parish;
                int s = side;
                check.due("votes of " + s + " in " + p, due[p][s], () -> x.parish(p, 1 + s));
            }
        }
        county(check, "parish 0 100 0;", NO_SUCH_NUMBER, 9);
        county(check, "parish 0 0 100;", NO_SUCH_NUMBER, 11);
    }

    @Says(at = "Terms", words = "both told ahead,")
    static void roadsBetweenParishesToldAhead(Check check) {
        county(check, "road 0 1;parish 0 0 0;parish 0 0 0;", NO_SUCH_NUMBER, 5);
        county(check, "parish 0 0 0;road 0 1;parish 0 0 0;", NO_SUCH_NUMBER, 20);
        county(check, "parish 0 0 0;road 1 0;parish 0 0 0;", NO_SUCH_NUMBER, 18);
        county(check, "parish 0 0 0;parish 0 0 0;road 2 0;", NO_SUCH_NUMBER, 31);
        WinnerDraws x = county(check, "parish 0 0 0;".repeat(10) + "road 0 9;", 10, NONE);
        check.due("to the last that may be", 512, () -> x.parish(0, 3));
        check.due("from it", 1, () -> x.parish(9, 3));
    }

    @Says(at = "Terms", words = "B not A;")
    static void noRoadToTheSameParish(Check check) {
        county(check, "parish 0 0 0;parish 0 0 0;road 0 0;", NO_SUCH_NUMBER, 33);
        county(check, "parish 0 0 0;parish 0 0 0;road 1 01;", NO_SUCH_NUMBER, 33);
        county(check, "parish 0 0 0;parish 0 0 0;road 2 2;", NO_SUCH_NUMBER, 31);
    }

    @Says(at = "Terms", words = "told once more, either way round, it is as once)")
    static void roadsToldTwice(Check check) {
        WinnerDraws x = county(check, "parish 0 0 0;parish 1 0 0;road 0 1;road 0 1;road 1 0;road 1 0;", 2, NONE);
        check.due("roads", 1, () -> x.told(1));
        check.due("lines", 1, () -> x.told(7));
        check.due("from 0", 2, () -> x.parish(0, 3));
        check.due("from 1", 1, () -> x.parish(1, 3));
    }

    @Says(at = "Terms", words = "(TIDES likewise, 6:")
    static void sixTides(Check check) {
        StringBuilder six = new StringBuilder("parish 0 0 0;");
        for (int i = 0; i < 6; i++) {
            six.append("tide 0 ").append(i + 3).append(";");
        }
        WinnerDraws x = county(check, six.toString(), 1, NONE);
        check.due("tides", 6, () -> x.told(2));
        for (int i = 0; i < 7; i++) {
            check.due("share in year " + i, i % 6 + 3, () -> x.tide(1));
            Check.work(x, "vote;");
        }
        county(check, six + "tide 0 0;", TOO_MANY, six.length());
        county(check, six + "purse 1;tide 0 0;", TOO_MANY, six.length() + 8);
    }

    @Says(at = "Terms", words = "N of 100 to SIDE S, 0 to 20)")
    static void sharesOfTides(Check check) {
        WinnerDraws x = county(check, "tide 0 20;tide 1 0;", 0, NONE);
        check.due("side of the first", 0, () -> x.tide(0));
        check.due("the most", 20, () -> x.tide(1));
        Check.work(x, "vote;");
        check.due("side of the second", 1, () -> x.tide(0));
        check.due("the least", 0, () -> x.tide(1));
        county(check, "tide 0 21;", NO_SUCH_NUMBER, 7);
        county(check, "tide 2 0;", NO_SUCH_NUMBER, 5);
    }

    @Says(at = "Terms", words = "\"purse\" N (0 to 99; 20 without; the last counts)")
    static void purses(Check check) {
        WinnerDraws least = county(check, "purse 0;", 0, NONE);
        check.due("the least", 0, () -> least.told(3));
        WinnerDraws most = county(check, "purse 99;", 0, NONE);
        check.due("the most", 99, () -> most.told(3));
        county(check, "purse 100;", NO_SUCH_NUMBER, 6);
        WinnerDraws last = county(check, "purse 99;purse 3;parish 0 0 0;purse 4;", 1, NONE);
        check.due("the last", 4, () -> last.told(3));
        check.due("without, behind one with", 0, () -> Check.county(last, ""));
        check.due("purse without", 20, () -> last.told(3));
    }

    // ---- LAW ----

    @Says(at = "Terms", words = "A LAW is a text of up to 150 bytes: E, at the end nothing more; without: 1.")
    static void lawOf150Bytes(Check check) {
        price(check, " ".repeat(148) + "17", 17);
        price(check, "17" + " ".repeat(148), 17);
        law(check, " ".repeat(149) + "(", CANT_STAND, 150);
        law(check, "1 1", CANT_STAND, 2);
        law(check, "1;", CANT_STAND, 1);
        law(check, "1)", CANT_STAND, 1);
        law(check, "1]", CANT_STAND, 1);
        law(check, "1,1", CANT_STAND, 1);
        law(check, "", CANT_STAND, 0);
        law(check, "   ", CANT_STAND, 3);
        check.due("without", 1, () -> new WinnerDraws().would(100, -7, 3, 4, 11, 2, 13, 6));
    }

    @Says(at = "Terms", words = "COST of a move: what comes out, 0 at least, 60 at most.")
    static void leastAndMostCost(Check check) {
        price(check, "0", 0);
        price(check, "1", 1);
        price(check, "59", 59);
        price(check, "60", 60);
        price(check, "61", 60);
        price(check, "999*999", 60);
        price(check, "0-1", 0);
        price(check, "0-999", 0);
        price(check, "0-61+60", 0);
        price(check, "99-61", 38);
    }

    @Says(at = "Terms", words = "E: T { + or - T }.")
    static void sums(Check check) {
        price(check, "9-4-3", 2);
        price(check, "9-(4-3)", 8);
        price(check, "9-4+3", 8);
        price(check, "1+2*3+4", 11);
        law(check, "+1", CANT_STAND, 0);
        law(check, "1+", CANT_STAND, 2);
        law(check, "1+-1", CANT_STAND, 2);
    }

    @Says(at = "Terms", words = "T: U { * or / or % U }.")
    static void products(Check check) {
        price(check, "40/4/2", 5);
        price(check, "40/(4/2)", 20);
        price(check, "7*5/3", 11);
        price(check, "7*5%4", 3);
        price(check, "7%5*4", 8);
        price(check, "2*3*4", 24);
        law(check, "*1", CANT_STAND, 0);
        law(check, "1*", CANT_STAND, 2);
        law(check, "1*%1", CANT_STAND, 2);
    }

    @Says(at = "Terms", words = "U: N (0 to 999),")
    static void numbersOfLaws(Check check) {
        price(check, "999-990", 9);
        price(check, "0", 0);
        price(check, "000999-990", 9);
        law(check, "1000", NO_SUCH_NUMBER, 0);
        law(check, "5+1000", NO_SUCH_NUMBER, 2);
        law(check, "-1", CANT_STAND, 0);
    }

    @Says(at = "Terms", words = "\"people\" (VOTES of both SIDES in the PARISH)")
    static void people(Check check) {
        WinnerDraws x = Check.of("parish 0 30 7;parish 0 0 0;");
        Check.law(x, "people");
        check.due("people of 0", 37, () -> x.cost(0, 1));
        check.due("people of 1", 0, () -> x.cost(1, 1));
        WinnerDraws most = Check.of("parish 0 99 99;");
        Check.law(most, "people-150");
        check.due("the most", 48, () -> most.cost(0, 1));
    }

    @Says(at = "Terms", words = "\"lead\" (VOTES in it of the SIDE that rules, or of SIDE 0, if none does, less those of the other one)")
    static void leads(Check check) {
        WinnerDraws x = Check.of("parish 0 2 9;parish 1 9 2;parish 2 0 0;");
        Check.law(x, "30+lead");
        check.due("of 0, as none rules", 23, () -> x.cost(0, 3));
        check.due("of 1, as none rules", 37, () -> x.cost(1, 3));
        check.due("of none's", 30, () -> x.cost(2, 3));
        Check.work(x, "count 2 1 0;vote;");
        check.due("0 rules", 23, () -> x.cost(0, 3));
        Check.work(x, "count 2 0 1;vote;");
        check.due("1 rules", 37, () -> x.cost(0, 3));
        check.due("1 rules, in 1", 23, () -> x.cost(1, 3));
    }

    @Says(at = "Terms", words = "\"size\" (how many PARISHES are in the WARD it leaves, itself, too)")
    static void sizes(Check check) {
        WinnerDraws x = Check.of("parish 0 0 0;parish 0 0 0;parish 0 0 0;parish 1 0 0;");
        Check.law(x, "size");
        check.due("of three", 3, () -> x.cost(1, 3));
        check.due("of one", 1, () -> x.cost(3, 0));
    }

    @Says(at = "Terms", words = "\"room\" (in that to which it comes)")
    static void rooms(Check check) {
        WinnerDraws x = Check.of("parish 0 0 0;parish 0 0 0;parish 0 0 0;parish 1 0 0;");
        Check.law(x, "room");
        check.due("of three", 3, () -> x.cost(3, 0));
        check.due("of one", 1, () -> x.cost(0, 1));
        check.due("of none", 0, () -> x.cost(0, 2));
    }

    @Says(at = "Terms", words = "\"lines\" (LINES by now), \"reign\" (by now), \"year\" (the YEAR), \"parish\" (its number),")
    static void factsByNow(Check check) {
        WinnerDraws x = Check.of("parish 0 1 0;parish 0 0 0;parish 1 0 9;parish 0 0 0;"
                + "road 0 1;road 1 2;road 1 3;road 0 3;");
        Check.law(x, "lines");
        check.due("lines", 1, () -> x.cost(0, 1));
        Check.work(x, "move 1 1;");
        check.due("lines behind a move", 2, () -> x.cost(0, 1));
        Check.law(x, "reign*10+year");
        check.due("at first", 0, () -> x.cost(0, 1));
        Check.work(x, "vote;vote;count 0 10 0;vote;");
        check.due("reign 1 in year 3", 13, () -> x.cost(0, 1));
        Check.work(x, "vote;");
        check.due("reign 2 in year 4", 24, () -> x.cost(0, 1));
        Check.law(x, "parish+5");
        check.due("parish 0", 5, () -> x.cost(0, 1));
        check.due("parish 3", 8, () -> x.cost(3, 1));
    }

    @Says(at = "Terms", words = "\"least\" \"[\" E \",\" E \"]\", \"most\" \"[\" E \",\" E \"]\", or \"(\" E \")\".")
    static void leastAndMost(Check check) {
        price(check, "least[3,4]", 3);
        price(check, "least[4,3]", 3);
        price(check, "most[3,4]", 4);
        price(check, "most[4,3]", 4);
        price(check, "least[4,4]", 4);
        price(check, "most[0-4,0-5]+9", 5);
        price(check, "least[0-4,0-5]+9", 4);
        price(check, "most[1+1,1*1]*(2+3)", 10);
        law(check, "least[3]", CANT_STAND, 7);
        law(check, "least[3,4,5]", CANT_STAND, 9);
        law(check, "least[,4]", CANT_STAND, 6);
        law(check, "least[3,]", CANT_STAND, 8);
        law(check, "least(3,4)", CANT_STAND, 5);
        law(check, "least[3,4)", CANT_STAND, 9);
        law(check, "most[3 4]", CANT_STAND, 7);
        law(check, "least 3", CANT_STAND, 6);
        law(check, "()", CANT_STAND, 1);
        law(check, "(1]", CANT_STAND, 2);
        law(check, "(1,2)", CANT_STAND, 2);
        law(check, "[1]", CANT_STAND, 0);
    }

    @Says(at = "Terms", words = "Values are whole numbers of 32 bits that wrap;")
    static void lawsWrap(Check check) {
        // 2 to the 31st is the least number there is; one less than it is the most.
        price(check, "256*256*256*128", 0);
        price(check, "256*256*256*128-1", 60);
        price(check, "0-256*256*256*128", 0);
        price(check, "256*256*256*128-1-(0-1)", 0);
        price(check, "256*256*256*256+7", 7);
        price(check, "256*256*256*128+256*256*256*128+8", 8);
        price(check, "least[256*256*256*128,1]+256*256*256*128+9", 9);
        price(check, "256*256*256*128/(0-1)-256*256*256*128+5", 5);
        price(check, "256*256*256*128%(0-1)+6", 6);
        price(check, "999*999*999*999-999*999*999*998-999*999*999+3", 3);
    }

    @Says(at = "Terms", words = "/ cuts, % leaves (with the sign of what is divided), by 0 both are 0.")
    static void division(Check check) {
        price(check, "7/2", 3);
        price(check, "10+(0-7)/2", 7);
        price(check, "10+7/(0-2)", 7);
        price(check, "(0-7)/(0-2)", 3);
        price(check, "7%3", 1);
        price(check, "10+(0-7)%3", 9);
        price(check, "10+7%(0-3)", 11);
        price(check, "10+(0-7)%(0-3)", 9);
        price(check, "6%3", 0);
        price(check, "5+9/0", 5);
        price(check, "5+9%0", 5);
        price(check, "5+0/0", 5);
        price(check, "5+0%0", 5);
        price(check, "5+9/(lead+7)", 5);
        price(check, "5+9%(lead+7)", 5);
    }

    // ---- WORK ----

    @Says(at = "Terms", words = "WORK is a text of up to 150 bytes: { STEP \";\" }.")
    static void workOf150Bytes(Check check) {
        work(check, "vote;".repeat(30), 30, NONE);
        WinnerDraws x = work(check, " ".repeat(145) + "vote;", 1, NONE);
        check.due("its last step is done", 1, () -> x.told(4));
        work(check, "vote;".repeat(29) + " vote", CANT_STAND, 150);
        work(check, "again1[".repeat(6) + "vote;".repeat(19) + " ];" + "];".repeat(5), 19, NONE);
        work(check, "", 0, NONE);
        work(check, ";", CANT_STAND, 0);
        work(check, "vote;;", CANT_STAND, 5);
        work(check, "vote,draw;", CANT_STAND, 4);
    }

    @Says(at = "Terms", words = "STEP: \"vote\", \"draw\", \"move\" P D,")
    static void movesOfWork(Check check) {
        work(check, "move 1 0;", 0, NONE);
        work(check, "move 1 1;", 1, NONE);
        work(check, "move 2 3;", 0, NONE);
        work(check, "move 0 0;", 0, NONE);
        work(check, "move 3 0;", NO_SUCH_NUMBER, 5);
        work(check, "move 0 4;", NO_SUCH_NUMBER, 7);
        work(check, "move 0;", CANT_STAND, 6);
        work(check, "move;", CANT_STAND, 4);
        work(check, "move 0 1 2;", CANT_STAND, 9);
        work(check, "vote 1;", CANT_STAND, 5);
        work(check, "draw 1;", CANT_STAND, 5);
        WinnerDraws none = new WinnerDraws();
        check.due("no parish at all", NO_SUCH_NUMBER, () -> Check.work(none, "move 0 0;"));
        check.due("at its number", 5, none::fault);
        WinnerDraws ten = Check.of("parish 0 0 0;".repeat(10));
        check.due("the last that may be", 0, () -> Check.work(ten, "move 9 3;"));
    }

    @Says(at = "Terms", words = "\"count\" P A B (0 to 99 both),")
    static void countsOfWork(Check check) {
        WinnerDraws x = work(check, "count 2 99 0;count 0 0 99;", 2, NONE);
        check.due("votes of 0 in 2", 99, () -> x.parish(2, 1));
        check.due("votes of 1 in 2", 0, () -> x.parish(2, 2));
        check.due("votes of 0 in 0", 0, () -> x.parish(0, 1));
        check.due("votes of 1 in 0", 99, () -> x.parish(0, 2));
        work(check, "count 3 0 0;", NO_SUCH_NUMBER, 6);
        work(check, "count 0 100 0;", NO_SUCH_NUMBER, 8);
        work(check, "count 0 0 100;", NO_SUCH_NUMBER, 10);
        work(check, "count 0 0;", CANT_STAND, 9);
    }

    @Says(at = "Terms", words = "or \"again\" N \"[\" { STEP \";\" } \"]\" (N 0 to 40).")
    static void agains(Check check) {
        work(check, "again 0[vote;];", 0, NONE);
        work(check, "again 1[vote;];", 1, NONE);
        work(check, "again 40[vote;];", 40, NONE);
        work(check, "again 40[];", 0, NONE);
        work(check, "again 41[];", NO_SUCH_NUMBER, 6);
        work(check, "again 2[again 3[vote;];draw;vote;];", 8, NONE);
        work(check, "again 1[vote];", CANT_STAND, 12);
        work(check, "again 1[vote;]", CANT_STAND, 14);
        work(check, "again 1[;];", CANT_STAND, 8);
        work(check, "again 1(vote;);", CANT_STAND, 7);
        work(check, "again [vote;];", CANT_STAND, 6);
        work(check, "];", CANT_STAND, 0);
        work(check, "again 1[]];", CANT_STAND, 9);
    }

    // ---- BOOK ----

    @Says(at = "Terms", words = "A BOOK is one of up to 60 bytes: { D S \";\" }, no D twice:")
    static void booksOf60Bytes(Check check) {
        book(check, " ".repeat(56) + "0 0;", 1, NONE);
        book(check, " ".repeat(57) + "0 0", CANT_STAND, 60);
        book(check, "3 0;2 1;1 2;0 0;", 4, NONE);
        book(check, "", 0, NONE);
        book(check, "3 0;2 1;3 1;", NO_SUCH_NUMBER, 8);
        book(check, "0 0; 00 0;", NO_SUCH_NUMBER, 5);
        book(check, "3 0;2 1;1 2;0 0;0 0;", NO_SUCH_NUMBER, 16);
        book(check, "3 0;2 1;1 2;0 0;;", CANT_STAND, 16);
        book(check, "0 0;0 3;", NO_SUCH_NUMBER, 4);
        book(check, ";", CANT_STAND, 0);
    }

    @Says(at = "Terms", words = "WARD D is won by SIDE S (0, 1), or by none (2).")
    static void linesOfBooks(Check check) {
        book(check, "4 0;", NO_SUCH_NUMBER, 0);
        book(check, "0 3;", NO_SUCH_NUMBER, 2);
        // One move only, of parish 1 to ward 1: ward 0 is won by 0 then, ward 1 by 1, the others by none.
        int[] winners = {0, 1, 2, 2};
        for (int ward = 0; ward < 4; ward++) {
            for (int side = 0; side < 3; side++) {
                WinnerDraws x = Check.of("parish 0 4 2;parish 0 3 5;parish 1 2 4;road 1 2;");
                Check.book(x, ward + " " + side + ";");
                check.due(ward + " is won by " + side, winners[ward] == side ? 1 : 0, () -> x.fits(0));
            }
        }
    }

    // ---- numbers, words, blanks ----

    @Says(at = "Terms", words = "Numbers: digits, as many as stand there;")
    static void digits(Check check) {
        WinnerDraws x = county(check, "purse " + "0".repeat(300) + "7;", 0, NONE);
        check.due("zeros ahead", 7, () -> x.told(3));
        county(check, "purse 007;", 0, NONE);
        county(check, "purse 4294967296;", NO_SUCH_NUMBER, 6);
        county(check, "purse 4294967303;", NO_SUCH_NUMBER, 6);
        county(check, "purse 18446744073709551616;", NO_SUCH_NUMBER, 6);
        county(check, "purse " + "9".repeat(500) + ";", NO_SUCH_NUMBER, 6);
        county(check, "purse 1 2;", CANT_STAND, 8);
        county(check, "parish 01 2;", CANT_STAND, 11);
        county(check, "purse 1.5;", CANT_STAND, 7);
        county(check, "purse -1;", CANT_STAND, 6);
        county(check, "purse /;", CANT_STAND, 6);
        county(check, "purse :;", CANT_STAND, 6);
    }

    @Says(at = "Terms", words = "WORDS: small letters, as many as stand there;")
    static void smallLetters(Check check) {
        county(check, "purse1;", 0, NONE);
        county(check, "purses 1;", CANT_STAND, 0);
        county(check, "purs 1;", CANT_STAND, 0);
        county(check, "Purse 1;", CANT_STAND, 0);
        county(check, "pursE 1;", CANT_STAND, 0);
        county(check, "purse`1;", CANT_STAND, 5);
        county(check, "purse{1;", CANT_STAND, 5);
        county(check, "pur se 1;", CANT_STAND, 0);
        county(check, "pursepurse 1;", CANT_STAND, 0);
        for (String word : new String[] {"parish", "road", "tide", "purse"}) {
            for (String other : misspelt(word)) {
                county(check, "parish 0 0 0;parish 0 0 0;" + other + " 0 1 2;", CANT_STAND, 26);
            }
        }
        for (String word : new String[] {"people", "lead", "size", "room", "lines", "reign", "year", "parish"}) {
            for (String other : misspelt(word)) {
                law(check, "1+" + other, CANT_STAND, 2);
            }
        }
        for (String word : new String[] {"least", "most"}) {
            for (String other : misspelt(word)) {
                law(check, other + "[1,2]", CANT_STAND, 0);
            }
        }
        for (String word : new String[] {"vote", "draw", "move", "count", "again"}) {
            for (String other : misspelt(word)) {
                work(check, "vote;" + other + " 0 0 0;", CANT_STAND, 5);
            }
        }
        law(check, "leadlead", CANT_STAND, 0);
        law(check, "lead lead", CANT_STAND, 5);
        law(check, "vote", CANT_STAND, 0);
        work(check, "people;", CANT_STAND, 0);
        work(check, "againvote", CANT_STAND, 0);
        price(check, "size+room", 7);
        price(check, "3+size", 6);
        law(check, "3size", CANT_STAND, 1);
    }

    @Says(at = "Terms", words = "blanks (32) may stand ahead of all these, and at the end.")
    static void blanks(Check check) {
        county(check, "  parish  3  1  2  ;  parish0 1 2;road 0  1 ; tide1 2; purse9  ;  ", 2, NONE);
        county(check, "    ", 0, NONE);
        county(check, "parish 3 1 2;parish0 1 2;road0 1;tide1 2;purse9;", 2, NONE);
        price(check, " ( size + 2 ) * least [ room , 9 ] - 3 % 2 ", 19);
        work(check, " again  2  [  vote  ;  draw ; ]  ; move 1  1 ; ", 3, NONE);
        book(check, "  3  1  ;  0 2 ; ", 2, NONE);
        county(check, "purse\t1;", CANT_STAND, 5);
        county(check, "purse\n1;", CANT_STAND, 5);
        county(check, "purse\u00001;", CANT_STAND, 5);
        county(check, "purse\u00a01;", CANT_STAND, 5);
        county(check, "purse 1;\n", CANT_STAND, 8);
        county(check, "purse 1;\u0000", CANT_STAND, 8);
        county(check, "purse 1 0;", CANT_STAND, 8);
        county(check, "pu rse 1;", CANT_STAND, 0);
    }

    // ---- FAULTS ----

    @Says(at = "Terms", words = "FAULTS, the first from the left, at its first byte:")
    static void firstFaultFromTheLeft(Check check) {
        county(check, "purse 100;purse;", NO_SUCH_NUMBER, 6);
        county(check, "purse;purse 100;", CANT_STAND, 5);
        county(check, "purse    100", NO_SUCH_NUMBER, 9);
        county(check, "purse 1;   purses 1;", CANT_STAND, 11);
        law(check, "1000+", NO_SUCH_NUMBER, 0);
        law(check, "1+ 1000 1", NO_SUCH_NUMBER, 3);
        law(check, "((((((1+lad(", CANT_STAND, 8);
        law(check, "1000((((((((", NO_SUCH_NUMBER, 0);
        work(check, "move 3 4;", NO_SUCH_NUMBER, 5);
        work(check, "vote;move  999 4", NO_SUCH_NUMBER, 11);
        book(check, "4 3", NO_SUCH_NUMBER, 0);
        book(check, "0 0; 123 0;", NO_SUCH_NUMBER, 5);
    }

    @Says(at = "Terms", words = "1 what can't stand there (at the length, if the text ends too early);")
    static void textsThatEndTooEarly(Check check) {
        String county = "parish 0 1 2;road";
        for (int length : new int[] {6, 7, 8, 9, 10, 11, 12, 17}) {
            county(check, county.substring(0, length), CANT_STAND, length);
        }
        county(check, "parish 0 1   ", CANT_STAND, 13);
        county(check, "paris", CANT_STAND, 0);
        String law = "least[(1+2)*3,4]";
        for (int length : new int[] {0, 5, 6, 7, 8, 9, 10, 11, 12, 13, 14, 15}) {
            law(check, law.substring(0, length), CANT_STAND, length);
        }
        law(check, "leas", CANT_STAND, 0);
        String work = "again 2[move 1 0;];";
        for (int length : new int[] {5, 6, 7, 8, 12, 13, 14, 15, 16, 17, 18}) {
            work(check, work.substring(0, length), CANT_STAND, length);
        }
        work(check, "again 2[mov", CANT_STAND, 8);
        for (int length : new int[] {1, 2, 3, 5, 7}) {
            book(check, "0 1;1 2;".substring(0, length), CANT_STAND, length);
        }
        book(check, "0 1;1   ", CANT_STAND, 8);
    }

    @Says(at = "Terms", words = "2 a number that is none such (a D twice in a BOOK);")
    static void numbersThatAreNoneSuch(Check check) {
        county(check, "parish 9 9 9;", NO_SUCH_NUMBER, 7);
        law(check, "size*1000", NO_SUCH_NUMBER, 5);
        work(check, "again 99[", NO_SUCH_NUMBER, 6);
        book(check, "2 0;2 0;", NO_SUCH_NUMBER, 4);
        book(check, "2 0;1 0; 2", NO_SUCH_NUMBER, 9);
    }

    @Says(at = "Terms", words = "3 a CLAUSE, PARISH or TIDE too many (at its word),")
    static void tooManyOfSome(Check check) {
        String parishes = "parish 0 0 0;".repeat(10);
        county(check, parishes + "parish", TOO_MANY, 130);
        county(check, parishes + "  parish 4 100 100", TOO_MANY, 132);
        String tides = "tide 0 0;".repeat(6);
        county(check, tides + "tide", TOO_MANY, 54);
        county(check, tides + " tide 2 21", TOO_MANY, 55);
        String clauses = "purse 1;".repeat(60);
        county(check, clauses + "purse", TOO_MANY, 480);
        county(check, clauses + "  road 7 7", TOO_MANY, 482);
        county(check, clauses + "  ", 0, NONE);
    }

    @Says(at = "Terms", words = "or a 7th of ( least most again that is open at one time;")
    static void seventhThatIsOpen(Check check) {
        price(check, "((((((9))))))", 9);
        law(check, "(((((((9)))))))", TOO_MANY, 6);
        law(check, "(((((( (", TOO_MANY, 7);
        price(check, "((((((9))))))-((((((1))))))", 8);
        price(check, "(((((( 1 )+( 2 ))))))", 3);
        law(check, "((((((1)+((2)))))))", TOO_MANY, 10);
        price(check, "least[most[least[most[least[most[1,2],3],4],5],6],7]", 6);
        law(check, "least[most[least[most[least[most[least[1,2],3],4],5],6],7],8]", TOO_MANY, 33);
        law(check, "least[1,least[1,least[1,least[1,least[1,least[1,(2)]]]]]]", TOO_MANY, 48);
        law(check, "(((least[((most[1,2])),3])))", TOO_MANY, 11);
        price(check, "(((least[(most[1,2]),3])))", 2);
        law(check, "((((((most", TOO_MANY, 6);
        work(check, "again 1[".repeat(6) + "vote;" + "];".repeat(6), 1, NONE);
        work(check, "again 1[".repeat(7), TOO_MANY, 48);
        work(check, "again 1[".repeat(6) + "vote; again 41", TOO_MANY, 54);
        work(check, "again 1[".repeat(5) + "again 1[];again 1[];again 1[vote;];" + "];".repeat(5), 1, NONE);
    }

    @Says(at = "Terms", words = "of one the least.")
    static void ofOneTheLeast(Check check) {
        // A 61st that is no CLAUSE at all can't stand there, and is one too many: the least of both numbers.
        String clauses = "purse 1;".repeat(60);
        county(check, clauses + "purses 1;", CANT_STAND, 480);
        county(check, clauses + "7", CANT_STAND, 480);
        county(check, clauses + " ;", CANT_STAND, 481);
        county(check, "parish 0 0 0;".repeat(10) + "parishes 0 0 0;", CANT_STAND, 130);
        county(check, "tide 0 0;".repeat(6) + "tides 0 0;", CANT_STAND, 54);
        law(check, "((((((leasts", CANT_STAND, 6);
        law(check, "((((((]", CANT_STAND, 6);
        work(check, "again 1[".repeat(6) + "agains 1[", CANT_STAND, 48);
    }
}
