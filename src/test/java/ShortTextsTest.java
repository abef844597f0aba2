import java.util.ArrayList;
import java.util.List;

/** Every text of a few tokens, on the program and on the Model: answer, FAULT, place and what was told are alike. */
public final class ShortTextsTest {
    private static final String COUNTY = "parish 0 9 1;parish 0 1 9;parish 1 3 4;road 0 1;road 1 2;";
    private static final int CALLS_AT_MOST = 500;

    private final Check check = new Check();
    private WinnerDraws draws = new WinnerDraws();
    private Model model = new Model();
    private int calls = CALLS_AT_MOST;

    private enum Kind { COUNTY, LAW, WORK, BOOK }

    public static void main(String[] args) {
        ShortTextsTest test = new ShortTextsTest();
        test.counties();
        test.laws();
        test.works();
        test.books();
        test.check.end();
    }

    private void counties() {
        each(Kind.COUNTY, "", 3, "parish", "road", "tide", "purse", ";", "0 ", "1 ", "3 ", "99", "100", " ");
        each(Kind.COUNTY, COUNTY, 3, "parish", "road", "tide", "purse", ";", "0 ", "1 ", "3 ", "20 ");
        for (int many = 4; many <= 11; many++) {
            each(Kind.COUNTY, "parish 0 1 1;".repeat(many), 1, "parish", "parish 9", "parish 1 2 3;", "parishes",
                    "tide 0 1;");
            each(Kind.COUNTY, "tide 0 1;".repeat(many), 1, "tide", " tide 9", "tide 1 2;", "tides", "parish 1 2 3;");
        }
        for (int many = 58; many <= 62; many++) {
            each(Kind.COUNTY, "purse1;".repeat(many), 2, "purse", " ", "tide", "parish 0 1 1;", "road 0 1;", "x", ";",
                    "7");
        }
    }

    private void laws() {
        each(Kind.LAW, "", 4, "7", "1000", " ", "lead", "x", "(", ")", "+", "-", "/");
        each(Kind.LAW, "", 4, "7", "least", "most", "[", "]", ",", "(", ")", "%", "year ");
        String[] opening = {"(", "least[", "most[1,", "(2*most[", "least["};
        for (int deep = 4; deep <= 8; deep++) {
            for (int turn = 0; turn < opening.length; turn++) {
                StringBuilder text = new StringBuilder();
                for (int i = 0; i < deep; i++) {
                    text.append(opening[(i + turn) % opening.length]);
                }
                each(Kind.LAW, text.toString(), 2, "1", "least", "x", "1000", ")", ",3]", "]", "(");
            }
        }
    }

    private void works() {
        each(Kind.WORK, "", 3, "vote", "draw", "move", "count", "again", ";", "[", "]", "1 ", "3", "40", "41");
        each(Kind.WORK, "again ", 4, "1", "[", "];", "vote;", "again 2", "move 1 1;", " ");
        for (int deep = 4; deep <= 7; deep++) {
            each(Kind.WORK, "again 1[".repeat(deep), 3, "again", " 41", "[", "];", "vote;", "x");
        }
        for (int deep = 1; deep <= 6; deep++) {
            String closed = "vote;" + "];".repeat(deep - 1) + "]";
            each(Kind.WORK, "again 6[".repeat(deep) + closed, 2, ";", "vote;", "move 0 1;", "]", "again 2[vote;];");
        }
    }

    private void books() {
        each(Kind.BOOK, "", 5, "0", "1", "2", "3", "4", " ", ";");
        each(Kind.BOOK, "0 0;1 1;2 2;", 4, "0 ", "3", "03 ", ";", "a", " ");
    }

    /** A start with each row of so many tokens, or fewer, behind it. */
    private void each(Kind kind, String start, int tokens, String... all) {
        List<String> level = List.of(start);
        ask(kind, start);
        for (int i = 0; i < tokens; i++) {
            List<String> next = new ArrayList<>();
            for (String text : level) {
                for (String token : all) {
                    next.add(text + token);
                }
            }
            next.forEach(text -> ask(kind, text));
            level = next;
        }
    }

    private void ask(Kind kind, String text) {
        // A text takes up to 30 feeds and some questions; one object is to answer no more than 512 calls.
        if (calls > CALLS_AT_MOST - 40) {
            startAnew();
        }
        int n = feed(text);
        switch (kind) {
            case COUNTY -> {
                alike(text, "county", model.county(n), () -> draws.county(n));
                told(text, 0, 1, 2, 3);
            }
            case LAW -> {
                alike(text, "law", model.law(n), () -> draws.law(n));
                alike(text, "would", model.would(57, -13, 3, 4, 11, 2, 30, 5),
                        () -> draws.would(57, -13, 3, 4, 11, 2, 30, 5));
            }
            case WORK -> {
                alike(text, "work", model.work(n), () -> draws.work(n));
                told(text, 4, 6, 10, 12);
                alike(text, "undo", model.undo(), () -> draws.undo());
            }
            default -> {
                alike(text, "book", model.book(n), () -> draws.book(n));
                told(text, 11);
                alike(text, "look", model.look(0), () -> draws.look(0));
            }
        }
        alike(text, "fault", model.fault(), () -> draws.fault());
    }

    private void startAnew() {
        draws = new WinnerDraws();
        model = new Model();
        calls = 0;
        int n = feed(COUNTY);
        alike(COUNTY, "county", model.county(n), () -> draws.county(n));
    }

    private int feed(String text) {
        for (int start = 0; start < text.length(); start += 20) {
            model.feed(Check.word(text, start), Check.word(text, start + 4), Check.word(text, start + 8),
                    Check.word(text, start + 12), Check.word(text, start + 16));
            calls++;
        }
        return Check.feed(draws, text);
    }

    private void told(String text, int... each) {
        for (int what : each) {
            alike(text, "told " + what, model.told(what), () -> draws.told(what));
        }
    }

    private void alike(String text, String call, long due, Check.Call asked) {
        calls++;
        long got = Check.answerOf(asked);
        check.same(got == due ? "" : "'" + text + "': " + call, due, got);
    }
}
