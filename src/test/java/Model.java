import java.math.BigInteger;
import java.util.ArrayList;
import java.util.Arrays;
import java.util.HashMap;
import java.util.HashSet;
import java.util.List;
import java.util.Map;
import java.util.Set;
import java.util.TreeSet;

/**
 * The document once more, written another way than the program (tokens by exceptions, positions that are copied,
 * all moves listed and sorted), so that a slip in one of them shows as a difference.
 */
final class Model {
    static final int NONE = -1;

    /** A FAULT on its way out of a reader. */
    private static final class Fault extends RuntimeException {
        private static final long serialVersionUID = 1L;
        final int kind;
        final int place;

        Fault(int kind, int place) {
            this.kind = kind;
            this.place = place;
        }
    }

    /** Where all parishes are and who voted how; copied for each move that is tried. */
    static final class Position {
        List<Integer> ward = new ArrayList<>();
        List<int[]> votes = new ArrayList<>();
        int year;
        int ruler = NONE;
        int reign;
        int moved;

        Position copy() {
            Position other = new Position();
            other.ward.addAll(ward);
            for (int[] each : votes) {
                other.votes.add(each.clone());
            }
            other.year = year;
            other.ruler = ruler;
            other.reign = reign;
            other.moved = moved;
            return other;
        }
    }

    /** A move with what it costs and brings to a side. */
    private record Option(int parish, int ward, int cost, int margin) {
    }

    private record Saved(Position position, List<Position> works) {
    }

    private final StringBuilder tape = new StringBuilder();
    Position now = new Position();
    private Set<String> roads = new HashSet<>();
    private List<int[]> tides = new ArrayList<>();
    private int purse = 20;
    private String law = null;
    private Map<Integer, Integer> lines = new HashMap<>();
    private List<Position> works = new ArrayList<>();
    private List<Saved> images = new ArrayList<>();
    private int fault = NONE;
    private int refusedSteps;
    private final int[] refusedCalls = new int[2];

    // ---- reading ----

    private String source;
    private int at;
    private int from;

    private void open(int n) {
        source = tape.substring(0, n);
        at = 0;
        tape.setLength(0);
        fault = NONE;
    }

    private void blanks() {
        while (at < source.length() && source.charAt(at) == ' ') {
            at++;
        }
    }

    private boolean ended() {
        blanks();
        return at == source.length();
    }

    private boolean next(char c) {
        blanks();
        return at < source.length() && source.charAt(at) == c;
    }

    private void want(char c) {
        if (!next(c)) {
            throw new Fault(1, at);
        }
        at++;
    }

    private String run(String pattern) {
        blanks();
        from = at;
        while (at < source.length() && source.substring(at, at + 1).matches(pattern)) {
            at++;
        }
        if (from == at) {
            throw new Fault(1, at);
        }
        return source.substring(from, at);
    }

    private int number(int most) {
        BigInteger value = new BigInteger(run("[0-9]"));
        if (value.compareTo(BigInteger.valueOf(most)) > 0) {
            throw new Fault(2, from);
        }
        return value.intValue();
    }

    // ---- the texts ----

    int feed(int... numbers) {
        if (tape.length() + 20 > 600) {
            return NONE;
        }
        for (int number : numbers) {
            for (int i = 3; i >= 0; i--) {
                tape.append((char) (number >> 8 * i & 255));
            }
        }
        return tape.length();
    }

    private boolean illegalText(int n, int most) {
        return n < 0 || n > most || n > tape.length();
    }

    long county(int n) {
        if (illegalText(n, 600)) {
            return illegal();
        }
        open(n);
        Position told = new Position();
        Set<String> toldRoads = new HashSet<>();
        List<int[]> toldTides = new ArrayList<>();
        int toldPurse = 20;
        try {
            for (int clauses = 0; !ended(); clauses++) {
                String word = run("[a-z]");
                if (!List.of("parish", "road", "tide", "purse").contains(word)) {
                    throw new Fault(1, from);
                }
                if (clauses == 60 || word.equals("parish") && told.ward.size() == 10
                        || word.equals("tide") && toldTides.size() == 6) {
                    throw new Fault(3, from);
                }
                if (word.equals("parish")) {
                    int ward = number(3);
                    int[] votes = {number(99), number(99)};
                    told.ward.add(ward);
                    told.votes.add(votes);
                } else if (word.equals("road")) {
                    int a = number(told.ward.size() - 1);
                    int b = number(told.ward.size() - 1);
                    if (a == b) {
                        throw new Fault(2, from);
                    }
                    toldRoads.add(Math.min(a, b) + "-" + Math.max(a, b));
                } else if (word.equals("tide")) {
                    toldTides.add(new int[] {number(1), number(20)});
                } else {
                    toldPurse = number(99);
                }
                want(';');
            }
        } catch (Fault e) {
            fault = e.place;
            return e.kind - 10;
        }
        now = told;
        roads = toldRoads;
        tides = toldTides;
        purse = toldPurse;
        law = null;
        lines = new HashMap<>();
        works = new ArrayList<>();
        images = new ArrayList<>();
        refusedSteps = 0;
        return told.ward.size();
    }

    long law(int n) {
        if (illegalText(n, 150)) {
            return illegal();
        }
        open(n);
        try {
            sum(0, new HashMap<>());
            if (!ended()) {
                throw new Fault(1, at);
            }
        } catch (Fault e) {
            fault = e.place;
            return e.kind - 10;
        }
        law = source;
        return 1;
    }

    private int sum(int open, Map<String, Integer> facts) {
        int value = product(open, facts);
        while (next('+') || next('-')) {
            char sign = source.charAt(at++);
            int other = product(open, facts);
            value = (int) (sign == '+' ? (long) value + other : (long) value - other);
        }
        return value;
    }

    private int product(int open, Map<String, Integer> facts) {
        int value = unit(open, facts);
        while (next('*') || next('/') || next('%')) {
            char sign = source.charAt(at++);
            long left = value;
            long right = unit(open, facts);
            if (sign == '*') {
                value = (int) (left * right);
            } else if (right == 0) {
                value = 0;
            } else {
                value = (int) (sign == '/' ? left / right : left - left / right * right);
            }
        }
        return value;
    }

    private int unit(int open, Map<String, Integer> facts) {
        if (!ended() && Character.isDigit(source.charAt(at))) {
            return number(999);
        }
        if (next('(')) {
            if (open == 6) {
                throw new Fault(3, at);
            }
            at++;
            int value = sum(open + 1, facts);
            want(')');
            return value;
        }
        String word = run("[a-z]");
        if (word.equals("least") || word.equals("most")) {
            if (open == 6) {
                throw new Fault(3, from);
            }
            want('[');
            int one = sum(open + 1, facts);
            want(',');
            int other = sum(open + 1, facts);
            want(']');
            return word.equals("least") == one < other ? one : other;
        }
        if (!List.of("people", "lead", "size", "room", "lines", "reign", "year", "parish").contains(word)) {
            throw new Fault(1, from);
        }
        return facts.getOrDefault(word, 0);
    }

    private int price(Map<String, Integer> facts) {
        if (law == null) {
            return 1;
        }
        source = law;
        at = 0;
        return Math.min(60, Math.max(0, sum(0, facts)));
    }

    /** A step is read as a list: its name, its numbers; of an again the list of its steps as well. */
    private List<Object> steps(int open) {
        List<Object> steps = new ArrayList<>();
        while (open == 0 ? !ended() : !next(']')) {
            steps.add(step(open));
            want(';');
        }
        return steps;
    }

    private List<Object> step(int open) {
        String word = run("[a-z]");
        int parishes = now.ward.size();
        switch (word) {
            case "vote":
            case "draw":
                return List.of(word);
            case "move":
                return List.of(word, number(parishes - 1), number(3));
            case "count":
                return List.of(word, number(parishes - 1), number(99), number(99));
            case "again":
                if (open == 6) {
                    throw new Fault(3, from);
                }
                int times = number(40);
                want('[');
                List<Object> body = steps(open + 1);
                want(']');
                return List.of(word, times, body);
            default:
                throw new Fault(1, from);
        }
    }

    long work(int n) {
        if (illegalText(n, 150)) {
            return illegal();
        }
        open(n);
        if (works.size() == 16) {
            return -20;
        }
        List<Object> steps;
        try {
            steps = steps(0);
        } catch (Fault e) {
            fault = e.place;
            return e.kind - 10;
        }
        works.add(now.copy());
        refusedSteps = 0;
        int[] begunAndDone = new int[2];
        carryOut(steps, begunAndDone);
        return begunAndDone[1];
    }

    private void carryOut(List<?> steps, int[] begunAndDone) {
        for (Object each : steps) {
            if (begunAndDone[0] == 200) {
                return;
            }
            begunAndDone[0]++;
            List<?> step = (List<?>) each;
            if (step.get(0).equals("again")) {
                for (int i = 0; i < (Integer) step.get(1); i++) {
                    carryOut((List<?>) step.get(2), begunAndDone);
                }
            } else if (carriedOut(step)) {
                begunAndDone[1]++;
            } else {
                refusedSteps++;
            }
        }
    }

    private boolean carriedOut(List<?> step) {
        switch ((String) step.get(0)) {
            case "vote":
                if (now.year >= 400) {
                    return false;
                }
                vote(now);
                return true;
            case "draw":
                return drawn(now);
            case "move":
                return moved(now, (Integer) step.get(1), (Integer) step.get(2));
            default:
                int[] votes = now.votes.get((Integer) step.get(1));
                int[] counted = {(Integer) step.get(2), (Integer) step.get(3)};
                now.votes.set((Integer) step.get(1), counted);
                return !Arrays.equals(votes, counted);
        }
    }

    long book(int n) {
        if (illegalText(n, 60)) {
            return illegal();
        }
        open(n);
        Map<Integer, Integer> told = new HashMap<>();
        try {
            while (!ended()) {
                int ward = number(3);
                if (told.containsKey(ward)) {
                    throw new Fault(2, from);
                }
                told.put(ward, number(2));
                want(';');
            }
        } catch (Fault e) {
            fault = e.place;
            return e.kind - 10;
        }
        lines = told;
        return told.size();
    }

    // ---- positions ----

    private boolean road(int a, int b) {
        return roads.contains(Math.min(a, b) + "-" + Math.max(a, b));
    }

    private static Set<Integer> inWard(Position p, int ward) {
        Set<Integer> found = new TreeSet<>();
        for (int i = 0; i < p.ward.size(); i++) {
            if (p.ward.get(i) == ward) {
                found.add(i);
            }
        }
        return found;
    }

    private Set<Integer> grown(int start, Set<Integer> within) {
        Set<Integer> found = new TreeSet<>(Set.of(start));
        List<Integer> open = new ArrayList<>(List.of(start));
        while (!open.isEmpty()) {
            int each = open.remove(open.size() - 1);
            for (int other : within) {
                if (road(each, other) && found.add(other)) {
                    open.add(other);
                }
            }
        }
        return found;
    }

    private boolean together(Set<Integer> some) {
        return some.isEmpty() || grown(some.iterator().next(), some).size() == some.size();
    }

    private static int bits(Iterable<Integer> numbers) {
        int bits = 0;
        for (int number : numbers) {
            bits |= 1 << number;
        }
        return bits;
    }

    private static int votes(Position p, int side, int ward) {
        int sum = 0;
        for (int i : inWard(p, ward)) {
            sum += p.votes.get(i)[side];
        }
        return sum;
    }

    private static int all(Position p, int side) {
        return p.votes.stream().mapToInt(v -> v[side]).sum();
    }

    private static int winner(Position p, int ward) {
        int a = votes(p, 0, ward);
        int b = votes(p, 1, ward);
        return a > b ? 0 : b > a ? 1 : NONE;
    }

    private static Set<Integer> won(Position p, int side) {
        Set<Integer> won = new TreeSet<>();
        for (int ward = 0; ward < 4; ward++) {
            if (winner(p, ward) == side) {
                won.add(ward);
            }
        }
        return won;
    }

    private static int margin(Position p, int side) {
        return won(p, side).size() - won(p, 1 - side).size();
    }

    private Set<Integer> mayGo(Position p, int parish) {
        Set<Integer> wards = new TreeSet<>();
        Set<Integer> others = inWard(p, p.ward.get(parish));
        others.remove(parish);
        if (!others.isEmpty() && together(others)) {
            for (int other = 0; other < p.ward.size(); other++) {
                if (road(parish, other)) {
                    wards.add(p.ward.get(other));
                }
            }
            wards.remove(p.ward.get(parish));
        }
        return wards;
    }

    private int lineCount(Position p) {
        int count = 0;
        for (String road : roads) {
            int a = road.charAt(0) - '0';
            int b = road.charAt(2) - '0';
            count += p.ward.get(a).equals(p.ward.get(b)) ? 0 : 1;
        }
        return count;
    }

    private int costOf(Position p, int parish, int ward) {
        int[] v = p.votes.get(parish);
        int ruler = Math.max(0, p.ruler);
        Map<String, Integer> facts = new HashMap<>();
        facts.put("people", v[0] + v[1]);
        facts.put("lead", v[ruler] - v[1 - ruler]);
        facts.put("size", inWard(p, p.ward.get(parish)).size());
        facts.put("room", inWard(p, ward).size());
        facts.put("lines", lineCount(p));
        facts.put("reign", p.reign);
        facts.put("year", p.year);
        facts.put("parish", parish);
        return price(facts);
    }

    private List<Option> options(Position p, int side) {
        List<Option> options = new ArrayList<>();
        for (int parish = 0; parish < p.ward.size(); parish++) {
            for (int ward : mayGo(p, parish)) {
                options.add(new Option(parish, ward, costOf(p, parish, ward), margin(after(p, parish, ward), side)));
            }
        }
        return options;
    }

    private static Position after(Position p, int parish, int ward) {
        Position then = p.copy();
        then.ward.set(parish, ward);
        return then;
    }

    private Option best(Position p, int side) {
        List<Option> options = options(p, side);
        options.removeIf(o -> o.cost > purse || o.margin <= margin(p, side));
        options.sort((a, b) -> a.margin != b.margin ? b.margin - a.margin : a.cost != b.cost ? a.cost - b.cost
                : a.parish != b.parish ? a.parish - b.parish : a.ward - b.ward);
        return options.isEmpty() ? null : options.get(0);
    }

    private void vote(Position p) {
        if (!tides.isEmpty()) {
            int[] tide = tides.get(p.year % tides.size());
            for (int[] v : p.votes) {
                int turned = (int) Math.floor(v[1 - tide[0]] * tide[1] / 100.0 + 1e-9);
                v[1 - tide[0]] -= turned;
                v[tide[0]] += turned;
            }
        }
        int[] first = {won(p, 0).size(), all(p, 0)};
        int[] second = {won(p, 1).size(), all(p, 1)};
        int order = Arrays.compare(first, second);
        int ruler = order > 0 ? 0 : order < 0 ? 1 : p.ruler;
        p.reign = ruler == NONE ? 0 : ruler == p.ruler ? p.reign + 1 : 1;
        p.ruler = ruler;
        p.year++;
    }

    private boolean drawn(Position p) {
        Option best = p.ruler == NONE ? null : best(p, p.ruler);
        if (best == null) {
            return false;
        }
        p.ward.set(best.parish, best.ward);
        p.moved++;
        return true;
    }

    private boolean moved(Position p, int parish, int ward) {
        if (!mayGo(p, parish).contains(ward) || costOf(p, parish, ward) > purse) {
            return false;
        }
        p.ward.set(parish, ward);
        p.moved++;
        return true;
    }

    // ---- calls ----

    private long illegal() {
        refusedCalls[1]++;
        return Check.ILLEGAL;
    }

    private long noSuch() {
        refusedCalls[0]++;
        return Check.NO_SUCH;
    }

    private static boolean out(int value, int least, int most) {
        return value < least || value > most;
    }

    long fault() {
        return fault;
    }

    long undo() {
        if (works.isEmpty()) {
            return -1;
        }
        // An image may hold the same position, so what goes on from here is a copy.
        now = works.remove(works.size() - 1).copy();
        refusedSteps = 0;
        return works.size();
    }

    long told(int what) {
        int held = 0;
        for (int ward : now.ward) {
            held |= 1 << ward;
        }
        int[] answers = {now.ward.size(), roads.size(), tides.size(), purse, now.year, now.ruler, now.reign,
            lineCount(now), all(now, 0) + all(now, 1), held, refusedSteps, lines.size(), now.moved};
        return out(what, 0, 12) ? illegal() : answers[what];
    }

    private boolean noParish(int parish) {
        return out(parish, 0, now.ward.size() - 1);
    }

    long parish(int parish, int what) {
        if (noParish(parish)) {
            return noSuch();
        }
        Set<Integer> beside = new TreeSet<>();
        for (int other = 0; other < now.ward.size(); other++) {
            if (road(parish, other)) {
                beside.add(other);
            }
        }
        int[] v = now.votes.get(parish);
        int[] answers = {now.ward.get(parish), v[0], v[1], bits(beside)};
        return out(what, 0, 3) ? illegal() : answers[what];
    }

    long ward(int ward, int what) {
        if (out(ward, 0, 3)) {
            return noSuch();
        }
        int[] answers = {bits(inWard(now, ward)), votes(now, 0, ward), votes(now, 1, ward), winner(now, ward),
            together(inWard(now, ward)) ? 1 : 0};
        return out(what, 0, 4) ? illegal() : answers[what];
    }

    long side(int side, int what) {
        if (out(side, 0, 1)) {
            return noSuch();
        }
        int[] answers = {won(now, side).size(), all(now, side), margin(now, side), bits(won(now, side))};
        return out(what, 0, 3) ? illegal() : answers[what];
    }

    long cost(int parish, int ward) {
        return noParish(parish) || out(ward, 0, 3) ? noSuch() : costOf(now, parish, ward);
    }

    long would(int people, int lead, int size, int room, int lines, int reign, int year, int parish) {
        if (out(people, 0, 198) || out(lead, -99, 99) || out(size, 0, 10) || out(room, 0, 10) || out(lines, 0, 60)
                || out(reign, 0, 400) || out(year, 0, 400) || out(parish, 0, 9)) {
            return illegal();
        }
        return price(Map.of("people", people, "lead", lead, "size", size, "room", room, "lines", lines,
                "reign", reign, "year", year, "parish", parish));
    }

    long may(int parish) {
        return noParish(parish) ? noSuch() : bits(mayGo(now, parish));
    }

    long best(int side, int what) {
        if (out(side, 0, 1)) {
            return noSuch();
        }
        if (out(what, 0, 2)) {
            return illegal();
        }
        Option best = best(now, side);
        return best == null ? NONE : new int[] {best.parish, best.ward, best.margin}[what];
    }

    long redrawn(int side, int k) {
        if (out(side, 0, 1)) {
            return noSuch();
        }
        if (out(k, 0, 3)) {
            return illegal();
        }
        Map<List<Integer>, Position> layer = new HashMap<>(Map.of(now.ward, now));
        int most = margin(now, side);
        for (int i = 0; i < k; i++) {
            Map<List<Integer>, Position> next = new HashMap<>();
            for (Position p : layer.values()) {
                for (Position then : followers(p)) {
                    most = Math.max(most, margin(then, side));
                    next.put(then.ward, then);
                }
            }
            layer = next;
        }
        return most;
    }

    private List<Position> followers(Position p) {
        List<Position> found = new ArrayList<>();
        for (int parish = 0; parish < p.ward.size(); parish++) {
            for (int ward : mayGo(p, parish)) {
                found.add(after(p, parish, ward));
            }
        }
        return found;
    }

    long turned(int k) {
        return out(k, 0, 3) ? illegal() : turned(now, 0, k, new HashMap<>());
    }

    private int turned(Position p, int made, int k, Map<String, Integer> known) {
        if (made == k) {
            return margin(p, 0);
        }
        String key = made + ":" + p.ward;
        if (!known.containsKey(key)) {
            Set<Integer> values = new TreeSet<>();
            values.add(turned(p, made + 1, k, known));
            for (Position then : followers(p)) {
                values.add(turned(then, made + 1, k, known));
            }
            List<Integer> sorted = new ArrayList<>(values);
            known.put(key, made % 2 == 0 ? sorted.get(sorted.size() - 1) : sorted.get(0));
        }
        return known.get(key);
    }

    private List<Position> ahead(int n) {
        List<Position> found = new ArrayList<>(List.of(now.copy()));
        for (int i = 0; i < n; i++) {
            Position next = found.get(i).copy();
            vote(next);
            drawn(next);
            found.add(next);
        }
        return found;
    }

    long reigns(int n, int what) {
        if (out(n, 0, 60) || out(what, 0, 1)) {
            return illegal();
        }
        List<Position> ahead = ahead(n);
        int changes = 0;
        for (int i = 1; i <= n; i++) {
            changes += ahead.get(i).ruler == ahead.get(i - 1).ruler ? 0 : 1;
        }
        return what == 0 ? ahead.get(n).ruler : changes;
    }

    long round(int what) {
        if (out(what, 0, 1)) {
            return illegal();
        }
        List<String> keys = new ArrayList<>();
        for (Position p : ahead(60)) {
            StringBuilder key = new StringBuilder().append(p.ward).append(p.ruler);
            p.votes.forEach(v -> key.append(Arrays.toString(v)));
            keys.add(key.append(tides.isEmpty() ? "" : p.year % tides.size()).toString());
        }
        for (int a = 0; a <= 60; a++) {
            for (int b = a + 1; b <= 60; b++) {
                if (keys.get(a).equals(keys.get(b))) {
                    return what == 0 ? a : b - a;
                }
            }
        }
        return NONE;
    }

    long swing(int side) {
        if (out(side, 0, 1)) {
            return noSuch();
        }
        for (int share = 0; share <= 100; share++) {
            Position then = now.copy();
            for (int[] v : then.votes) {
                int turned = v[1 - side] * share / 100;
                v[side] += turned;
                v[1 - side] -= turned;
            }
            if (margin(then, side) > 0) {
                return share;
            }
        }
        return NONE;
    }

    private static long term(BigInteger above, BigInteger below, int half) {
        BigInteger divisor = above.gcd(below);
        if (above.signum() == 0) {
            return half;
        }
        return (half == 0 ? above : below).divide(divisor).longValueExact();
    }

    long waste(int side, int half) {
        if (out(side, 0, 1)) {
            return noSuch();
        }
        if (out(half, 0, 1)) {
            return illegal();
        }
        int wasted = 0;
        for (int ward = 0; ward < 4; ward++) {
            int own = votes(now, side, ward);
            int needed = votes(now, 1 - side, ward) + 1;
            wasted += own >= needed ? own - needed : own;
        }
        return term(BigInteger.valueOf(wasted), BigInteger.valueOf(all(now, 0) + all(now, 1)), half);
    }

    private List<Integer> fitting(int ward, int winner) {
        List<Integer> found = new ArrayList<>();
        for (int parish = 0; parish < now.ward.size(); parish++) {
            for (int to : mayGo(now, parish)) {
                Position then = after(now, parish, to);
                boolean right = ward == NONE || winner(then, ward) == winner;
                for (Map.Entry<Integer, Integer> line : lines.entrySet()) {
                    right &= (winner(then, line.getKey()) + 3) % 3 == line.getValue();
                }
                if (right) {
                    found.add(10 * parish + to);
                }
            }
        }
        return found;
    }

    long fits(int what) {
        if (out(what, 0, 1)) {
            return illegal();
        }
        List<Integer> found = fitting(NONE, NONE);
        return what == 0 ? found.size() : found.isEmpty() ? NONE : found.get(0);
    }

    long look(int what) {
        if (out(what, 0, 1)) {
            return illegal();
        }
        int found = NONE;
        int fewest = 1000;
        for (int ward = 0; ward < 4; ward++) {
            int worst = 0;
            for (int winner = -1; winner <= 1; winner++) {
                worst = Math.max(worst, fitting(ward, winner).size());
            }
            if (!lines.containsKey(ward) && worst < fewest) {
                found = ward;
                fewest = worst;
            }
        }
        return what == 0 || found == NONE ? found : fewest;
    }

    long recount(int n, int k, int q, int half) {
        if (out(n, 0, 12) || out(k, 0, 13) || out(q, 0, 16) || out(half, 0, 1)) {
            return illegal();
        }
        // How many ways, of 16 each, turn so many of the votes counted by now.
        BigInteger[] ways = new BigInteger[14];
        Arrays.fill(ways, BigInteger.ZERO);
        ways[0] = BigInteger.ONE;
        for (int i = 0; i < n; i++) {
            for (int j = 13; j >= 0; j--) {
                BigInteger kept = ways[j].multiply(BigInteger.valueOf(16 - q));
                ways[j] = j == 0 ? kept : kept.add(ways[j - 1].multiply(BigInteger.valueOf(q)));
            }
        }
        BigInteger above = BigInteger.ZERO;
        for (int j = k; j <= 13; j++) {
            above = above.add(ways[j]);
        }
        return term(above, BigInteger.valueOf(16).pow(n), half);
    }

    long smallest(int what) {
        if (out(what, 0, 1)) {
            return illegal();
        }
        List<int[]> sizes = new ArrayList<>();
        for (int ward = 0; ward < 4; ward++) {
            if (!inWard(now, ward).isEmpty()) {
                sizes.add(new int[] {votes(now, 0, ward) + votes(now, 1, ward), ward});
            }
        }
        sizes.sort(Arrays::compare);
        if (sizes.isEmpty()) {
            return NONE;
        }
        return what == 0 ? sizes.get(0)[1] : sizes.get(sizes.size() - 1)[0] - sizes.get(0)[0];
    }

    long closest(int what) {
        if (out(what, 0, 1)) {
            return illegal();
        }
        List<int[]> leads = new ArrayList<>();
        for (int ward = 0; ward < 4; ward++) {
            if (winner(now, ward) != NONE) {
                leads.add(new int[] {Math.abs(votes(now, 0, ward) - votes(now, 1, ward)), ward});
            }
        }
        leads.sort(Arrays::compare);
        return leads.isEmpty() ? NONE : leads.get(0)[1 - what];
    }

    long border() {
        Set<Integer> found = new TreeSet<>();
        for (int a = 0; a < now.ward.size(); a++) {
            for (int b = 0; b < now.ward.size(); b++) {
                if (road(a, b) && !now.ward.get(a).equals(now.ward.get(b))) {
                    found.add(a);
                }
            }
        }
        return bits(found);
    }

    long tide(int what) {
        return out(what, 0, 1) ? illegal() : tides.isEmpty() ? NONE : tides.get(now.year % tides.size())[what];
    }

    long flip(int ward) {
        if (out(ward, 0, 3)) {
            return noSuch();
        }
        int lead = Math.abs(votes(now, 0, ward) - votes(now, 1, ward));
        int few = 0;
        while (lead - 2 * few > 0) {
            few++;
        }
        return few;
    }

    long lone() {
        Set<Integer> found = new TreeSet<>();
        for (int ward = 0; ward < 4; ward++) {
            if (inWard(now, ward).size() == 1) {
                found.addAll(inWard(now, ward));
            }
        }
        return bits(found);
    }

    long cluster(int parish) {
        return noParish(parish) ? noSuch() : bits(grown(parish, inWard(now, now.ward.get(parish))));
    }

    long strongest(int side, int what) {
        if (out(side, 0, 1)) {
            return noSuch();
        }
        if (out(what, 0, 1)) {
            return illegal();
        }
        List<int[]> leads = new ArrayList<>();
        for (int parish = 0; parish < now.ward.size(); parish++) {
            int lead = now.votes.get(parish)[side] - now.votes.get(parish)[1 - side];
            if (lead > 0) {
                leads.add(new int[] {-lead, parish});
            }
        }
        leads.sort(Arrays::compare);
        return leads.isEmpty() ? NONE : what == 0 ? leads.get(0)[1] : -leads.get(0)[0];
    }

    private int seed;

    private int chance(int among) {
        seed = (int) (seed * 1103515245L + 12345L);
        return (seed >> 16 & 0x7fff) % among;
    }

    private Position lived(int firstSeed, int q, int years) {
        Position p = now.copy();
        seed = firstSeed;
        for (int i = 0; i < years; i++) {
            if (!p.ward.isEmpty()) {
                int parish = chance(p.ward.size());
                int ward = chance(4);
                if (chance(16) < q) {
                    moved(p, parish, ward);
                }
            }
            vote(p);
            drawn(p);
        }
        return p;
    }

    long time(int firstSeed, int q, int years, int what) {
        if (out(q, 0, 16) || out(years, 1, 48) || out(what, 0, 3)) {
            return illegal();
        }
        Position p = lived(firstSeed, q, years);
        return new int[] {p.ruler, margin(p, 0), p.moved - now.moved, lineCount(p)}[what];
    }

    long span(int firstSeed, int many, int q, int years, int what, int side) {
        if (out(many, 1, 10) || out(q, 0, 16) || out(years, 1, 48) || out(what, 0, 2) || out(side, 0, 1)) {
            return illegal();
        }
        TreeSet<Integer> margins = new TreeSet<>();
        int ruled = 0;
        for (int i = 0; i < many; i++) {
            Position p = lived(firstSeed + i, q, years);
            margins.add(margin(p, 0));
            ruled += p.ruler == side ? 1 : 0;
        }
        return what == 0 ? margins.first() : what == 1 ? margins.last() : ruled;
    }

    long image() {
        if (images.size() == 3) {
            return -1;
        }
        images.add(new Saved(now.copy(), new ArrayList<>(works)));
        return images.size();
    }

    long restore() {
        if (images.isEmpty()) {
            return -1;
        }
        Saved saved = images.remove(images.size() - 1);
        now = saved.position;
        works = saved.works;
        refusedSteps = 0;
        return images.size();
    }

    long status(int what) {
        return out(what, 0, 1) ? NONE : refusedCalls[what];
    }

    long count(int what) {
        int[] answers = {images.size(), tape.length(), works.size()};
        return out(what, 0, 2) ? NONE : answers[what];
    }
}
