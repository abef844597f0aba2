import java.util.Random;

/** Long runs of calls, drawn by fixed seeds, on the program and on the Model: each answer is to be alike. */
public final class RandomRunsTest {
    private static final String NOISE = "0123456789 ;[](),+-*/%aeoprtvdmZ\u0000\u00ff";
    private static final String[] FACTS = {"people", "lead", "size", "room", "lines", "reign", "year", "parish"};

    private final Random random;
    private final Check check;
    private final WinnerDraws draws = new WinnerDraws();
    private final Model model = new Model();
    private final String run;
    private final int most;
    private int calls;
    private int parishes;

    private RandomRunsTest(long seed, int most, Check check) {
        this.random = new Random(seed);
        this.check = check;
        this.run = "run " + seed + ", call ";
        this.most = most;
    }

    public static void main(String[] args) {
        int runs = args.length > 0 ? Integer.parseInt(args[0]) : 250;
        long first = args.length > 1 ? Long.parseLong(args[1]) : 1;
        Check check = new Check();
        for (int i = 0; i < runs; i++) {
            // Some counties are kept small: then moves and ties come more often.
            new RandomRunsTest(first + i, i % 3 == 0 ? 10 : 6, check).play();
        }
        check.end();
    }

    private void play() {
        askAll();
        while (calls < 470) {
            switch (random.nextInt(12)) {
                case 0 -> tell(random.nextInt(4) == 0 ? spoilt(county()) : county(), 0);
                case 1, 2 -> tell(random.nextInt(4) == 0 ? spoilt(law()) : law(), 1);
                case 3, 4, 5, 6 -> tell(random.nextInt(5) == 0 ? spoilt(work()) : work(), 2);
                case 7 -> tell(random.nextInt(4) == 0 ? spoilt(book()) : book(), 3);
                case 8 -> ask("undo", model.undo(), () -> draws.undo());
                case 9 -> ask("image", model.image(), () -> draws.image());
                case 10 -> ask("restore", model.restore(), () -> draws.restore());
                default -> {
                }
            }
            askSome(6);
        }
    }

    private void ask(String what, long due, Check.Call call) {
        calls++;
        check.due(run + calls + ": " + what, due, call);
    }

    private int below(int bound) {
        return random.nextInt(bound);
    }

    /** Mostly from 0 to a number, at times just outside. */
    private int about(int most) {
        int kind = below(20);
        return kind == 0 ? -1 : kind == 1 ? most + 1 : below(most + 1);
    }

    private void feed(String text) {
        for (int start = 0; start < text.length(); start += 20) {
            int[] w = new int[5];
            for (int i = 0; i < 5; i++) {
                w[i] = Check.word(text, start + 4 * i);
            }
            ask("feed", model.feed(w), () -> draws.feed(w[0], w[1], w[2], w[3], w[4]));
        }
    }

    private void tell(String text, int kind) {
        feed(text);
        int n = below(30) == 0 ? below(700) - 20 : text.length();
        switch (kind) {
            case 0 -> ask("county " + text, model.county(n), () -> draws.county(n));
            case 1 -> ask("law " + text, model.law(n), () -> draws.law(n));
            case 2 -> ask("work " + text, model.work(n), () -> draws.work(n));
            default -> ask("book " + text, model.book(n), () -> draws.book(n));
        }
        ask("fault " + text, model.fault(), () -> draws.fault());
        parishes = model.now.ward.size();
    }

    // ---- texts ----

    private String blanks() {
        return " ".repeat(below(6) == 0 ? 1 + below(2) : 0);
    }

    private String number(int most) {
        int value = below(60) == 0 ? most + 1 : below(most + 1);
        return " " + blanks() + (below(25) == 0 ? "00" : "") + value;
    }

    private String sign(String sign) {
        return blanks() + sign + blanks();
    }

    private String county() {
        StringBuilder text = new StringBuilder();
        int many = below(8) == 0 ? below(3) : 3 + below(most - 2);
        int votes = below(3) == 0 ? 99 : 12;
        int wards = 2 + below(3);
        for (int i = 0; i < many; i++) {
            text.append("parish").append(number(wards - 1)).append(number(votes)).append(number(votes))
                    .append(sign(";"));
        }
        for (int i = many < 2 ? 0 : many + below(many); i > 0; i--) {
            int a = below(many);
            int b = (a + 1 + below(many - 1)) % many;
            text.append("road ").append(a).append(" ").append(below(40) == 0 ? a : b).append(sign(";"));
        }
        for (int i = below(2) * below(7); i > 0; i--) {
            text.append("tide").append(number(1)).append(number(20)).append(sign(";"));
        }
        for (int i = below(3); i > 0; i--) {
            text.append("purse").append(number(below(2) == 0 ? 3 : 99)).append(sign(";"));
        }
        return cut(text.toString(), 600);
    }

    private String law() {
        String text = sum(1 + below(4));
        return cut(text, 150);
    }

    private String sum(int depth) {
        StringBuilder text = new StringBuilder(product(depth));
        for (int i = below(3); i > 0; i--) {
            text.append(sign(below(2) == 0 ? "+" : "-")).append(product(depth));
        }
        return text.toString();
    }

    private String product(int depth) {
        StringBuilder text = new StringBuilder(unit(depth));
        for (int i = below(3) / 2; i > 0; i--) {
            text.append(sign(String.valueOf("*/%".charAt(below(3))))).append(unit(depth));
        }
        return text.toString();
    }

    private String unit(int depth) {
        int kind = below(depth <= 0 ? 5 : 8);
        if (kind < 3) {
            return FACTS[below(FACTS.length)];
        }
        if (kind < 5) {
            return String.valueOf(below(below(4) == 0 ? 1000 : 8));
        }
        if (kind == 5) {
            return sign("(") + sum(depth - 1) + sign(")");
        }
        return (kind == 6 ? "least" : "most") + sign("[") + sum(depth - 1) + sign(",") + sum(depth - 1) + sign("]");
    }

    private String work() {
        return cut(steps(2, 1 + below(6)), 150);
    }

    private String steps(int depth, int many) {
        StringBuilder text = new StringBuilder();
        for (int i = 0; i < many; i++) {
            switch (below(depth > 0 ? 9 : 7)) {
                case 0, 1 -> text.append("vote");
                case 2, 3 -> text.append("draw");
                case 4, 5 -> text.append("move").append(number(Math.max(0, parishes - 1))).append(number(3));
                case 6 -> text.append("count").append(number(Math.max(0, parishes - 1))).append(number(20))
                        .append(number(20));
                default -> text.append("again").append(number(below(3) == 0 ? 40 : 4)).append(sign("["))
                        .append(steps(depth - 1, below(4))).append(sign("]"));
            }
            text.append(sign(";"));
        }
        return text.toString();
    }

    private String book() {
        StringBuilder text = new StringBuilder();
        int first = below(4);
        for (int i = 0; i < below(5); i++) {
            text.append(number(0).replace("0", "")).append((first + i) % 4).append(number(2)).append(sign(";"));
        }
        return cut(text.toString(), 60);
    }

    private static String cut(String text, int most) {
        return text.length() > most ? text.substring(0, most) : text;
    }

    private String spoilt(String text) {
        StringBuilder spoilt = new StringBuilder(text);
        int place = below(text.length() + 1);
        char noise = NOISE.charAt(below(NOISE.length()));
        switch (below(4)) {
            case 0 -> spoilt.setLength(place);
            case 1 -> spoilt.insert(place, noise);
            case 2 -> spoilt.insert(place, text, place / 2, place);
            default -> spoilt.replace(place, Math.min(place + 1, text.length()), String.valueOf(noise));
        }
        return cut(spoilt.toString(), 600);
    }

    // ---- questions ----

    private void askSome(int many) {
        for (int i = 0; i < many; i++) {
            askOne(below(42));
        }
    }

    private void askAll() {
        for (int i = 0; i < 42; i++) {
            askOne(i);
        }
    }

    private void askOne(int kind) {
        int what = about(kind < 14 ? 12 : 1);
        int p = about(Math.max(0, parishes - 1));
        int w = about(3);
        int s = about(1);
        int k = about(parishes > 7 ? 2 : 3);
        if (kind < 14) {
            ask("told " + what, model.told(what), () -> draws.told(what));
        } else if (kind < 22) {
            askPlace(kind, p, w, s);
        } else if (kind < 33) {
            askMoves(kind, p, w, s, k, what);
        } else {
            askYears(kind, s, what);
        }
    }

    private void askPlace(int kind, int p, int w, int s) {
        int what = about(3);
        int two = about(1);
        switch (kind) {
            case 14 -> ask("parish " + p + " " + what, model.parish(p, what), () -> draws.parish(p, what));
            case 15 -> ask("ward " + w + " " + (what + 1), model.ward(w, what + 1), () -> draws.ward(w, what + 1));
            case 16 -> ask("side " + s + " " + what, model.side(s, what), () -> draws.side(s, what));
            case 17 -> ask("flip " + w, model.flip(w), () -> draws.flip(w));
            case 18 -> ask("lone", model.lone(), () -> draws.lone());
            case 19 -> ask("cluster " + p, model.cluster(p), () -> draws.cluster(p));
            case 20 -> ask("strongest " + s + " " + two, model.strongest(s, two), () -> draws.strongest(s, two));
            default -> ask("border", model.border(), () -> draws.border());
        }
    }

    private void askMoves(int kind, int p, int w, int s, int k, int what) {
        int three = about(2);
        switch (kind) {
            case 22 -> ask("cost " + p + " " + w, model.cost(p, w), () -> draws.cost(p, w));
            case 23 -> ask("may " + p, model.may(p), () -> draws.may(p));
            case 24, 25 -> ask("best " + s + " " + three, model.best(s, three), () -> draws.best(s, three));
            case 26 -> ask("redrawn " + s + " " + k, model.redrawn(s, k), () -> draws.redrawn(s, k));
            case 27 -> ask("turned " + k, model.turned(k), () -> draws.turned(k));
            case 28 -> ask("swing " + s, model.swing(s), () -> draws.swing(s));
            case 29 -> ask("waste " + s + " " + what, model.waste(s, what), () -> draws.waste(s, what));
            case 30 -> ask("fits " + what, model.fits(what), () -> draws.fits(what));
            case 31 -> ask("look " + what, model.look(what), () -> draws.look(what));
            default -> askWould();
        }
    }

    private void askWould() {
        int[] f = {about(198), about(198) - 99, about(10), about(10), about(60), about(400), about(400), about(9)};
        ask("would", model.would(f[0], f[1], f[2], f[3], f[4], f[5], f[6], f[7]),
                () -> draws.would(f[0], f[1], f[2], f[3], f[4], f[5], f[6], f[7]));
    }

    private void askYears(int kind, int s, int what) {
        int n = about(60);
        int q = about(16);
        int seed = random.nextInt();
        int four = about(3);
        int many = about(10);
        int few = about(12);
        int least = about(13);
        int years = 1 + below(parishes > 6 ? 10 : 48);
        switch (kind) {
            case 33 -> ask("reigns " + n + " " + what, model.reigns(n, what), () -> draws.reigns(n, what));
            case 34 -> ask("round " + what, model.round(what), () -> draws.round(what));
            case 35 -> ask("recount " + few + " " + least + " " + q + " " + what, model.recount(few, least, q, what),
                    () -> draws.recount(few, least, q, what));
            case 36 -> ask("smallest " + what, model.smallest(what), () -> draws.smallest(what));
            case 37 -> ask("closest " + what, model.closest(what), () -> draws.closest(what));
            case 38 -> ask("tide " + what, model.tide(what), () -> draws.tide(what));
            case 39 -> ask("time " + seed + " " + q + " " + years + " " + four, model.time(seed, q, years, four),
                    () -> draws.time(seed, q, years, four));
            case 40 -> ask("span " + seed + " " + many + " " + q + " " + years + " " + what + " " + s,
                    model.span(seed, many, q, years, what, s), () -> draws.span(seed, many, q, years, what, s));
            default -> {
                ask("status " + what, model.status(what), () -> draws.status(what));
                ask("count " + four, model.count(four), () -> draws.count(four));
                ask("fault", model.fault(), () -> draws.fault());
            }
        }
    }
}
