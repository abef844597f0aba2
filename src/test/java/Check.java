import java.util.NoSuchElementException;

/** What the tests share: texts fed to an object, answers (exceptions too) compared with those that are due. */
final class Check {
    static final long NO_SUCH = Long.MIN_VALUE;
    static final long ILLEGAL = Long.MIN_VALUE + 1;

    interface Call {
        long answer();
    }

    private String test = "";
    private int wrong;
    private int asked;

    /** The call's answer; an exception that the document names has a number of its own. */
    static long answerOf(Call call) {
        try {
            return call.answer();
        } catch (NoSuchElementException e) {
            return NO_SUCH;
        } catch (IllegalArgumentException e) {
            if (e.getClass() != IllegalArgumentException.class) {
                throw e;
            }
            return ILLEGAL;
        }
    }

    static String shown(long answer) {
        return answer == NO_SUCH ? "NoSuchElementException"
                : answer == ILLEGAL ? "IllegalArgumentException" : Long.toString(answer);
    }

    void due(String what, long due, Call call) {
        same(what, due, answerOf(call));
    }

    void same(String what, long due, long got) {
        asked++;
        if (got != due) {
            wrong++;
            System.out.println(test + what + " answered " + shown(got) + ", due is " + shown(due));
        }
    }

    /** What is asked from here on belongs to this test. */
    void open(String name) {
        test = name;
    }

    int asked() {
        return asked;
    }

    void end() {
        System.out.println(asked + " answers, " + wrong + " wrong");
        if (wrong != 0 || asked == 0) {
            System.exit(1);
        }
    }

    /** Feeds a text, filled up with zero bytes; answers its length. */
    static int feed(WinnerDraws draws, String text) {
        for (int start = 0; start < text.length(); start += 20) {
            draws.feed(word(text, start), word(text, start + 4), word(text, start + 8),
                    word(text, start + 12), word(text, start + 16));
        }
        return text.length();
    }

    static int word(String text, int start) {
        int word = 0;
        for (int i = start; i < start + 4; i++) {
            word = word << 8 | (i < text.length() ? text.charAt(i) & 255 : 0);
        }
        return word;
    }

    /** A new object with a COUNTY. */
    static WinnerDraws of(String text) {
        WinnerDraws draws = new WinnerDraws();
        county(draws, text);
        return draws;
    }

    static int county(WinnerDraws draws, String text) {
        int n = feed(draws, text);
        return draws.county(n);
    }

    static int law(WinnerDraws draws, String text) {
        int n = feed(draws, text);
        return draws.law(n);
    }

    static int work(WinnerDraws draws, String text) {
        int n = feed(draws, text);
        return draws.work(n);
    }

    static int book(WinnerDraws draws, String text) {
        int n = feed(draws, text);
        return draws.book(n);
    }
}
