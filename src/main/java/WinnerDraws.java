import java.util.NoSuchElementException;

/** A county in which whoever wins draws the next map. What it promises stands, by number, in ../shared/DOC.md. */
public final class WinnerDraws {
    public static final int NONE = -1;

    private static final int SIDES = 2;
    private static final int WARDS = 4;
    private static final int MOST_PARISHES = 10;
    private static final int MOST_TIDES = 6;
    private static final int MOST_CLAUSES = 60;
    private static final int MOST_LINES = 60;
    private static final int MOST_STEPS = 200;
    private static final int MOST_OPEN = 6;
    private static final int MOST_WORKS = 16;
    private static final int MOST_IMAGES = 3;
    private static final int MOST_MOVES = 3;
    private static final int MOST_REIGNS = 60;
    private static final int MOST_RECOUNTED = 12;
    private static final int MOST_TIME = 48;
    private static final int MOST_SEEDS = 10;

    private static final int TAPE_BYTES = 600;
    private static final int FED_BYTES = 20;
    private static final int LAW_BYTES = 150;
    private static final int WORK_BYTES = 150;
    private static final int BOOK_BYTES = 60;
    private static final int BLANK = 32;

    private static final int MOST_VOTES = 99;
    private static final int MOST_PURSE = 99;
    private static final int PURSE_UNTOLD = 20;
    private static final int MOST_SHARE = 20;
    private static final int MOST_NUMBER = 999;
    private static final int MOST_AGAIN = 40;
    private static final int MOST_COST = 60;
    private static final int COST_WITHOUT_LAW = 1;
    private static final int LAST_YEAR = 400;
    private static final int HUNDRED = 100;
    private static final int SIXTEEN = 16;

    private static final int CANT_STAND = 1;
    private static final int NO_SUCH_NUMBER = 2;
    private static final int TOO_MANY = 3;
    private static final int FAULT_OFFSET = 10;
    private static final int WORKS_FULL = -20;

    private static final int PARISH_CLAUSE = 1;
    private static final int ROAD_CLAUSE = 2;
    private static final int TIDE_CLAUSE = 3;
    private static final int PURSE_CLAUSE = 4;

    private static final int FACTS = 8;
    private static final int PEOPLE = 0;
    private static final int LEAD = 1;
    private static final int SIZE = 2;
    private static final int ROOM = 3;
    private static final int LINES = 4;
    private static final int REIGN = 5;
    private static final int YEAR = 6;
    private static final int PARISH = 7;

    private static final int PLUS = -11;
    private static final int MINUS = -12;
    private static final int TIMES = -13;
    private static final int OVER = -14;
    private static final int REST = -15;
    private static final int LEAST = -16;
    private static final int MOST = -17;

    private static final int STEP_CELLS = 4;
    private static final int VOTE = 1;
    private static final int DRAW = 2;
    private static final int MOVE = 3;
    private static final int COUNT = 4;
    private static final int AGAIN = 5;

    /** What a kept row holds: wards, votes of side 0, votes of side 1, then these cells. */
    private static final int RULER_CELL = MOST_PARISHES * 3;
    private static final int YEAR_CELL = RULER_CELL + 1;
    private static final int REIGN_CELL = RULER_CELL + 2;
    private static final int MOVED_CELL = RULER_CELL + 3;
    private static final int ROW = RULER_CELL + 4;
    private static final int IMAGE = ROW * (MOST_WORKS + 1);

    private final Text text = new Text();
    private final County county = new County();
    private final County countyDraft = new County();
    private final Law law = new Law();
    private final Law lawDraft = new Law();
    private final Book book = new Book();
    private final Book bookDraft = new Book();
    private final Plan plan = new Plan();
    private final Council council = new Council(county, law);
    private final Outlook outlook = new Outlook(county, council);
    private final Archive archive = new Archive();
    private int refusedSteps;
    private int noSuchCalls;
    private int illegalCalls;

    public WinnerDraws() {
    }

    public int feed(int a, int b, int c, int d, int e) {
        if (text.held > TAPE_BYTES - FED_BYTES) {
            return NONE;
        }
        text.add(a);
        text.add(b);
        text.add(c);
        text.add(d);
        text.add(e);
        return text.held;
    }

    public int county(int n) throws IllegalArgumentException {
        needText(n, TAPE_BYTES);
        text.open(n);
        if (!countyDraft.read(text)) {
            return text.fault - FAULT_OFFSET;
        }
        county.copyFrom(countyDraft);
        law.clear();
        book.clear();
        archive.clear();
        refusedSteps = 0;
        return county.parishes;
    }

    public int law(int n) throws IllegalArgumentException {
        needText(n, LAW_BYTES);
        text.open(n);
        if (!lawDraft.read(text)) {
            return text.fault - FAULT_OFFSET;
        }
        law.copyFrom(lawDraft);
        return 1;
    }

    public int work(int n) throws IllegalArgumentException {
        needText(n, WORK_BYTES);
        text.open(n);
        if (archive.works >= MOST_WORKS) {
            return WORKS_FULL;
        }
        plan.clear(county.parishes);
        if (!plan.readSteps(text, 0)) {
            return text.fault - FAULT_OFFSET;
        }
        archive.keepWork(county);
        Plan.run(plan, council, 0, plan.used, 0);
        refusedSteps = plan.refused;
        return plan.done;
    }

    public int book(int n) throws IllegalArgumentException {
        needText(n, BOOK_BYTES);
        text.open(n);
        if (!bookDraft.read(text)) {
            return text.fault - FAULT_OFFSET;
        }
        book.copyFrom(bookDraft);
        return book.lines();
    }

    public int fault() {
        return text.place;
    }

    public int undo() {
        if (archive.works <= 0) {
            return NONE;
        }
        archive.takeBackWork(county);
        refusedSteps = 0;
        return archive.works;
    }

    public int told(int what) throws IllegalArgumentException {
        need(what >= 0 && what <= 12);
        switch (what) {
            case 0: return county.parishes;
            case 1: return county.roadCount();
            case 2: return county.tides;
            case 3: return county.purse;
            case 4: return county.year;
            case 5: return county.ruler;
            case 6: return county.reign;
            case 7: return county.lines();
            case 8: return county.allVotes(0) + county.allVotes(1);
            case 9: return county.heldWards();
            case 10: return refusedSteps;
            case 11: return book.lines();
            default: return county.moved;
        }
    }

    public int parish(int parish, int what) throws NoSuchElementException, IllegalArgumentException {
        needParish(parish);
        need(what >= 0 && what <= 3);
        switch (what) {
            case 0: return county.wardOf(parish);
            case 1: return county.votesOf(0, parish);
            case 2: return county.votesOf(1, parish);
            default: return county.roadsFrom(parish);
        }
    }

    public int ward(int ward, int what) throws NoSuchElementException, IllegalArgumentException {
        needWard(ward);
        need(what >= 0 && what <= 4);
        switch (what) {
            case 0: return county.membersOf(ward);
            case 1: return county.wardVotes(0, ward);
            case 2: return county.wardVotes(1, ward);
            case 3: return county.winner(ward);
            default: return county.hangsTogether(county.membersOf(ward)) ? 1 : 0;
        }
    }

    public int side(int side, int what) throws NoSuchElementException, IllegalArgumentException {
        needSide(side);
        need(what >= 0 && what <= 3);
        switch (what) {
            case 0: return Integer.bitCount(county.wonBy(side));
            case 1: return county.allVotes(side);
            case 2: return county.margin(side);
            default: return county.wonBy(side);
        }
    }

    public int cost(int parish, int ward) throws NoSuchElementException {
        needParish(parish);
        needWard(ward);
        return council.priceOf(parish, ward);
    }

    public int would(int people, int lead, int size, int room, int lines, int reign, int year, int parish)
            throws IllegalArgumentException {
        need(people >= 0 && people <= SIDES * MOST_VOTES && lead >= -MOST_VOTES && lead <= MOST_VOTES);
        need(size >= 0 && size <= MOST_PARISHES && room >= 0 && room <= MOST_PARISHES);
        need(lines >= 0 && lines <= MOST_LINES && reign >= 0 && reign <= LAST_YEAR);
        need(year >= 0 && year <= LAST_YEAR && parish >= 0 && parish < MOST_PARISHES);
        law.tell(PEOPLE, people);
        law.tell(LEAD, lead);
        law.tell(SIZE, size);
        law.tell(ROOM, room);
        law.tell(LINES, lines);
        law.tell(REIGN, reign);
        law.tell(YEAR, year);
        law.tell(PARISH, parish);
        return law.price();
    }

    public int may(int parish) throws NoSuchElementException {
        needParish(parish);
        return county.openWards(parish);
    }

    public int best(int side, int what) throws NoSuchElementException, IllegalArgumentException {
        needSide(side);
        need(what >= 0 && what <= 2);
        if (!council.choose(side)) {
            return NONE;
        }
        switch (what) {
            case 0: return council.pickedParish;
            case 1: return council.pickedWard;
            default: return council.pickedMargin;
        }
    }

    public int redrawn(int side, int k) throws NoSuchElementException, IllegalArgumentException {
        needSide(side);
        need(k >= 0 && k <= MOST_MOVES);
        return Council.greatest(county, side, k, false);
    }

    public int turned(int k) throws IllegalArgumentException {
        need(k >= 0 && k <= MOST_MOVES);
        return Council.greatest(county, 0, k, true);
    }

    public int reigns(int n, int what) throws IllegalArgumentException {
        need(n >= 0 && n <= MOST_REIGNS);
        need(isHalf(what));
        outlook.lookAhead(n);
        return what == 0 ? outlook.lastRuler : outlook.changes;
    }

    public int round(int what) throws IllegalArgumentException {
        need(isHalf(what));
        outlook.findRound();
        return what == 0 ? outlook.roundStart : outlook.roundLength;
    }

    public int swing(int side) throws NoSuchElementException {
        needSide(side);
        for (int share = 0; share <= HUNDRED; share++) {
            if (county.marginHad(side, share) > 0) {
                return share;
            }
        }
        return NONE;
    }

    public int waste(int side, int half) throws NoSuchElementException, IllegalArgumentException {
        needSide(side);
        need(isHalf(half));
        return (int) leastTerm(county.wasted(side), county.allVotes(0) + county.allVotes(1), half);
    }

    public int fits(int what) throws IllegalArgumentException {
        need(isHalf(what));
        int fitting = book.fitting(county, NONE, NONE);
        return what == 0 ? fitting : book.firstFit;
    }

    public int look(int what) throws IllegalArgumentException {
        need(isHalf(what));
        int askedWard = NONE;
        int fewest = NONE;
        for (int ward = 0; ward < WARDS; ward++) {
            if (!book.hasLine(ward)) {
                int worst = book.worstFitting(county, ward);
                if (askedWard == NONE || worst < fewest) {
                    askedWard = ward;
                    fewest = worst;
                }
            }
        }
        return what == 0 ? askedWard : fewest;
    }

    public long recount(int n, int k, int q, int half) throws IllegalArgumentException {
        need(n >= 0 && n <= MOST_RECOUNTED && k >= 0 && k <= MOST_RECOUNTED + 1);
        need(q >= 0 && q <= SIXTEEN && isHalf(half));
        long above = 0;
        for (int turned = k; turned <= n; turned++) {
            above += waysToTake(turned, n) * power(q, turned) * power(SIXTEEN - q, n - turned);
        }
        return leastTerm(above, power(SIXTEEN, n), half);
    }

    public int smallest(int what) throws IllegalArgumentException {
        need(isHalf(what));
        int found = NONE;
        int fewest = 0;
        int most = 0;
        for (int ward = 0; ward < WARDS; ward++) {
            if (county.membersOf(ward) != 0) {
                int all = county.wardVotes(0, ward) + county.wardVotes(1, ward);
                if (found == NONE || all < fewest) {
                    found = ward;
                    fewest = all;
                }
                most = Math.max(most, all);
            }
        }
        if (what == 0 || found == NONE) {
            return found;
        }
        return most - fewest;
    }

    public int closest(int what) throws IllegalArgumentException {
        need(isHalf(what));
        int found = NONE;
        int least = NONE;
        for (int ward = 0; ward < WARDS; ward++) {
            int lead = Math.abs(county.leadIn(ward));
            if (lead > 0 && (found == NONE || lead < least)) {
                found = ward;
                least = lead;
            }
        }
        return what == 0 ? found : least;
    }

    public int border() {
        int found = 0;
        for (int parish = 0; parish < county.parishes; parish++) {
            if (county.roadsOverLine(parish) != 0) {
                found |= 1 << parish;
            }
        }
        return found;
    }

    public int tide(int what) throws IllegalArgumentException {
        need(isHalf(what));
        if (county.tides == 0) {
            return NONE;
        }
        return what == 0 ? county.comingSide() : county.comingShare();
    }

    public int flip(int ward) throws NoSuchElementException {
        needWard(ward);
        return (Math.abs(county.leadIn(ward)) + 1) / 2;
    }

    public int lone() {
        int found = 0;
        for (int ward = 0; ward < WARDS; ward++) {
            int members = county.membersOf(ward);
            if (Integer.bitCount(members) == 1) {
                found |= members;
            }
        }
        return found;
    }

    public int cluster(int parish) throws NoSuchElementException {
        needParish(parish);
        return county.reached(1 << parish, county.membersOf(county.wardOf(parish)));
    }

    public int strongest(int side, int what) throws NoSuchElementException, IllegalArgumentException {
        needSide(side);
        need(isHalf(what));
        int found = NONE;
        int most = NONE;
        for (int parish = 0; parish < county.parishes; parish++) {
            int lead = county.votesOf(side, parish) - county.votesOf(1 - side, parish);
            if (lead > 0 && lead > most) {
                found = parish;
                most = lead;
            }
        }
        return what == 0 ? found : most;
    }

    public int time(int seed, int q, int years, int what) throws IllegalArgumentException {
        need(isTime(q, years));
        need(what >= 0 && what <= 3);
        outlook.live(seed, q, years);
        switch (what) {
            case 0: return outlook.lastRuler;
            case 1: return outlook.lastMargin;
            case 2: return outlook.lastMoves;
            default: return outlook.lastLines;
        }
    }

    public int span(int seed, int many, int q, int years, int what, int side) throws IllegalArgumentException {
        need(many >= 1 && many <= MOST_SEEDS && isTime(q, years));
        need(what >= 0 && what <= 2 && side >= 0 && side < SIDES);
        int least = WARDS;
        int most = -WARDS;
        int ruled = 0;
        for (int i = 0; i < many; i++) {
            outlook.live(seed + i, q, years);
            least = Math.min(least, outlook.lastMargin);
            most = Math.max(most, outlook.lastMargin);
            ruled += outlook.lastRuler == side ? 1 : 0;
        }
        switch (what) {
            case 0: return least;
            case 1: return most;
            default: return ruled;
        }
    }

    public int image() {
        if (archive.images >= MOST_IMAGES) {
            return NONE;
        }
        archive.keepImage(county);
        return archive.images;
    }

    public int restore() {
        if (archive.images <= 0) {
            return NONE;
        }
        archive.takeImage(county);
        refusedSteps = 0;
        return archive.images;
    }

    public int status(int what) {
        switch (what) {
            case 0: return noSuchCalls;
            case 1: return illegalCalls;
            default: return NONE;
        }
    }

    public int count(int what) {
        switch (what) {
            case 0: return archive.images;
            case 1: return text.held;
            case 2: return archive.works;
            default: return NONE;
        }
    }

    private void need(boolean holds) {
        if (!holds) {
            illegalCalls++;
            throw new IllegalArgumentException();
        }
    }

    private void needText(int n, int most) {
        need(n >= 0 && n <= most && n <= text.held);
    }

    private void needThere(boolean there) {
        if (!there) {
            noSuchCalls++;
            throw new NoSuchElementException();
        }
    }

    private void needParish(int parish) {
        needThere(parish >= 0 && parish < county.parishes);
    }

    private void needWard(int ward) {
        needThere(ward >= 0 && ward < WARDS);
    }

    private void needSide(int side) {
        needThere(side >= 0 && side < SIDES);
    }

    private static boolean isHalf(int what) {
        return what == 0 || what == 1;
    }

    private static boolean isTime(int q, int years) {
        return q >= 0 && q <= SIXTEEN && years >= 1 && years <= MOST_TIME;
    }

    private static int at(int[] row, int index) {
        return index >= 0 && index < row.length ? row[index] : 0;
    }

    private static void put(int[] row, int index, int value) {
        if (index >= 0 && index < row.length) {
            row[index] = value;
        }
    }

    private static void copy(int[] from, int start, int[] to, int place, int many) {
        for (int i = 0; i < many; i++) {
            put(to, place + i, at(from, start + i));
        }
    }

    private static boolean has(int bits, int number) {
        return (bits >> number & 1) == 1;
    }

    private static long power(long base, int exponent) {
        long product = 1;
        for (int i = 0; i < exponent; i++) {
            product *= base;
        }
        return product;
    }

    private static long waysToTake(int many, int from) {
        long ways = 1;
        for (int i = 1; i <= many; i++) {
            ways = ways * (from - i + 1) / i;
        }
        return ways;
    }

    private static long leastTerm(long above, long below, int half) {
        if (above == 0) {
            return half == 0 ? 0 : 1;
        }
        long divisor = above;
        long rest = below;
        for (int i = 0; i < 100 && rest != 0; i++) {
            long next = divisor % rest;
            divisor = rest;
            rest = next;
        }
        if (divisor == 0) {
            return 0;
        }
        return half == 0 ? above / divisor : below / divisor;
    }

    /** The TAPE, the text that is read from it, and the FAULT of the latest text. */
    private static final class Text {
        private final int[] bytes = new int[TAPE_BYTES];
        private int held;
        private int end;
        private int next;
        private int token;
        private int value;
        private int fault;
        private int place = NONE;

        private void add(int number) {
            for (int shift = 24; shift >= 0; shift -= 8) {
                put(bytes, held, number >>> shift & 255);
                held++;
            }
        }

        /** The TAPE counts as empty from here on: what is read lies below end, and nothing is fed meanwhile. */
        private void open(int n) {
            end = n;
            next = 0;
            held = 0;
            place = NONE;
        }

        private boolean fail(int kind, int where) {
            fault = kind;
            place = where;
            return false;
        }

        /** The byte that stands next behind blanks, or NONE at the end. */
        private int ahead() {
            while (next < end && at(bytes, next) == BLANK) {
                next++;
            }
            return next < end ? at(bytes, next) : NONE;
        }

        private boolean sign(int wanted) {
            if (ahead() != wanted) {
                return fail(CANT_STAND, next);
            }
            next++;
            return true;
        }

        /** Takes the letters that stand next, maybe none: then it is no word that a text knows. */
        private void word() {
            ahead();
            token = next;
            while (next < end && isLetter(at(bytes, next))) {
                next++;
            }
        }

        private boolean is(String word) {
            if (next - token != word.length()) {
                return false;
            }
            for (int i = 0; i < word.length(); i++) {
                if (word.charAt(i) != at(bytes, token + i)) {
                    return false;
                }
            }
            return true;
        }

        private boolean number(int most) {
            ahead();
            token = next;
            value = 0;
            while (next < end && isDigit(at(bytes, next))) {
                // No number of a text goes above 999, so a longer one only has to stay too large.
                value = Math.min(value * 10 + at(bytes, next) - '0', MOST_NUMBER + 1);
                next++;
            }
            if (next == token) {
                return fail(CANT_STAND, token);
            }
            return value <= most || fail(NO_SUCH_NUMBER, token);
        }

        private static boolean isLetter(int sign) {
            return sign >= 'a' && sign <= 'z';
        }

        private static boolean isDigit(int sign) {
            return sign >= '0' && sign <= '9';
        }
    }

    /** The COUNTY: what its text tells, and what WORK changes in it. */
    private static final class County {
        private final int[] wards = new int[MOST_PARISHES];
        private final int[] votes = new int[SIDES * MOST_PARISHES];
        private final int[] roads = new int[MOST_PARISHES];
        private final int[] tideSides = new int[MOST_TIDES];
        private final int[] tideShares = new int[MOST_TIDES];
        private int parishes;
        private int tides;
        private int purse = PURSE_UNTOLD;
        private int year;
        private int ruler = NONE;
        private int reign;
        private int moved;
        // These two follow from wards and votes; they are kept since searches ask for them at each move.
        private final int[] members = new int[WARDS];
        private final int[] leads = new int[WARDS];

        private void clear() {
            for (int i = 0; i < MOST_PARISHES; i++) {
                put(wards, i, 0);
                put(votes, i, 0);
                put(votes, MOST_PARISHES + i, 0);
                put(roads, i, 0);
            }
            parishes = 0;
            tides = 0;
            purse = PURSE_UNTOLD;
            year = 0;
            ruler = NONE;
            reign = 0;
            moved = 0;
        }

        private void copyFrom(County other) {
            copy(other.wards, 0, wards, 0, MOST_PARISHES);
            copy(other.votes, 0, votes, 0, SIDES * MOST_PARISHES);
            copy(other.roads, 0, roads, 0, MOST_PARISHES);
            copy(other.tideSides, 0, tideSides, 0, MOST_TIDES);
            copy(other.tideShares, 0, tideShares, 0, MOST_TIDES);
            parishes = other.parishes;
            tides = other.tides;
            purse = other.purse;
            year = other.year;
            ruler = other.ruler;
            reign = other.reign;
            moved = other.moved;
            tally();
        }

        private void save(int[] row, int start) {
            copy(wards, 0, row, start, MOST_PARISHES);
            copy(votes, 0, row, start + MOST_PARISHES, SIDES * MOST_PARISHES);
            put(row, start + RULER_CELL, ruler);
            put(row, start + YEAR_CELL, year);
            put(row, start + REIGN_CELL, reign);
            put(row, start + MOVED_CELL, moved);
        }

        private void load(int[] row, int start) {
            copy(row, start, wards, 0, MOST_PARISHES);
            copy(row, start + MOST_PARISHES, votes, 0, SIDES * MOST_PARISHES);
            ruler = at(row, start + RULER_CELL);
            year = at(row, start + YEAR_CELL);
            reign = at(row, start + REIGN_CELL);
            moved = at(row, start + MOVED_CELL);
            tally();
        }

        private boolean read(Text text) {
            clear();
            for (int clauses = 0; clauses <= MOST_CLAUSES; clauses++) {
                if (text.ahead() == NONE) {
                    return true;
                }
                if (!readClause(text, clauses) || !text.sign(';')) {
                    return false;
                }
            }
            return text.fail(TOO_MANY, text.next);
        }

        private boolean readClause(Text text, int clauses) {
            text.word();
            int kind = clauseKind(text);
            if (kind == 0) {
                return text.fail(CANT_STAND, text.token);
            }
            if (clauses >= MOST_CLAUSES || kind == PARISH_CLAUSE && parishes >= MOST_PARISHES
                    || kind == TIDE_CLAUSE && tides >= MOST_TIDES) {
                return text.fail(TOO_MANY, text.token);
            }
            switch (kind) {
                case PARISH_CLAUSE: return readParish(text);
                case ROAD_CLAUSE: return readRoad(text);
                case TIDE_CLAUSE: return readTide(text);
                default: return readPurse(text);
            }
        }

        private static int clauseKind(Text text) {
            if (text.is("parish")) {
                return PARISH_CLAUSE;
            }
            if (text.is("road")) {
                return ROAD_CLAUSE;
            }
            if (text.is("tide")) {
                return TIDE_CLAUSE;
            }
            return text.is("purse") ? PURSE_CLAUSE : 0;
        }

        private boolean readParish(Text text) {
            if (!text.number(WARDS - 1)) {
                return false;
            }
            put(wards, parishes, text.value);
            for (int side = 0; side < SIDES; side++) {
                if (!text.number(MOST_VOTES)) {
                    return false;
                }
                put(votes, side * MOST_PARISHES + parishes, text.value);
            }
            parishes++;
            return true;
        }

        private boolean readRoad(Text text) {
            if (!text.number(parishes - 1)) {
                return false;
            }
            int from = text.value;
            if (!text.number(parishes - 1)) {
                return false;
            }
            int to = text.value;
            if (to == from) {
                return text.fail(NO_SUCH_NUMBER, text.token);
            }
            put(roads, from, at(roads, from) | 1 << to);
            put(roads, to, at(roads, to) | 1 << from);
            return true;
        }

        private boolean readTide(Text text) {
            if (!text.number(SIDES - 1)) {
                return false;
            }
            put(tideSides, tides, text.value);
            if (!text.number(MOST_SHARE)) {
                return false;
            }
            put(tideShares, tides, text.value);
            tides++;
            return true;
        }

        private boolean readPurse(Text text) {
            if (!text.number(MOST_PURSE)) {
                return false;
            }
            purse = text.value;
            return true;
        }

        private void tally() {
            for (int ward = 0; ward < WARDS; ward++) {
                put(members, ward, 0);
                put(leads, ward, 0);
            }
            for (int parish = 0; parish < parishes; parish++) {
                int ward = at(wards, parish);
                put(members, ward, at(members, ward) | 1 << parish);
                put(leads, ward, at(leads, ward) + at(votes, parish) - at(votes, MOST_PARISHES + parish));
            }
        }

        private int wardOf(int parish) {
            return at(wards, parish);
        }

        private int votesOf(int side, int parish) {
            return at(votes, side * MOST_PARISHES + parish);
        }

        private int roadsFrom(int parish) {
            return at(roads, parish);
        }

        private int membersOf(int ward) {
            return at(members, ward);
        }

        /** VOTES of SIDE 0 in a WARD less those of SIDE 1. */
        private int leadIn(int ward) {
            return at(leads, ward);
        }

        private int winner(int ward) {
            int lead = at(leads, ward);
            if (lead == 0) {
                return NONE;
            }
            return lead > 0 ? 0 : 1;
        }

        private int wonBy(int side) {
            int won = 0;
            for (int ward = 0; ward < WARDS; ward++) {
                if (winner(ward) == side) {
                    won |= 1 << ward;
                }
            }
            return won;
        }

        private int margin(int side) {
            int margin = 0;
            for (int ward = 0; ward < WARDS; ward++) {
                margin += Integer.compare(at(leads, ward), 0);
            }
            return side == 0 ? margin : -margin;
        }

        private int wardVotes(int side, int ward) {
            int sum = 0;
            for (int parish = 0; parish < parishes; parish++) {
                sum += wardOf(parish) == ward ? votesOf(side, parish) : 0;
            }
            return sum;
        }

        private int allVotes(int side) {
            int sum = 0;
            for (int parish = 0; parish < parishes; parish++) {
                sum += votesOf(side, parish);
            }
            return sum;
        }

        private int roadCount() {
            int ends = 0;
            for (int parish = 0; parish < parishes; parish++) {
                ends += Integer.bitCount(roadsFrom(parish));
            }
            return ends / 2;
        }

        private int roadsOverLine(int parish) {
            return at(roads, parish) & ~at(members, at(wards, parish));
        }

        private int lines() {
            int ends = 0;
            for (int parish = 0; parish < parishes; parish++) {
                ends += Integer.bitCount(at(roads, parish) & ~at(members, at(wards, parish)));
            }
            return ends / 2;
        }

        private int heldWards() {
            int held = 0;
            for (int ward = 0; ward < WARDS; ward++) {
                if (membersOf(ward) != 0) {
                    held |= 1 << ward;
                }
            }
            return held;
        }

        /** PARISHES (bits) to which one comes from some by ROADS within others. */
        private int reached(int from, int within) {
            int found = from;
            for (int round = 0; round < MOST_PARISHES; round++) {
                int before = found;
                for (int parish = 0; parish < parishes; parish++) {
                    if (has(found, parish)) {
                        found |= at(roads, parish) & within;
                    }
                }
                if (found == before) {
                    return found;
                }
            }
            return found;
        }

        private boolean hangsTogether(int some) {
            return reached(some & -some, some) == some;
        }

        /** WARDS (bits) to which a PARISH MAY come. */
        private int openWards(int parish) {
            int over = roadsOverLine(parish);
            int others = at(members, at(wards, parish)) & ~(1 << parish);
            if (over == 0 || others == 0 || reached(others & -others, others) != others) {
                return 0;
            }
            int open = 0;
            for (int ward = 0; ward < WARDS; ward++) {
                if ((over & at(members, ward)) != 0) {
                    open |= 1 << ward;
                }
            }
            return open;
        }

        private void place(int parish, int ward) {
            int from = at(wards, parish);
            int lead = at(votes, parish) - at(votes, MOST_PARISHES + parish);
            put(members, from, at(members, from) & ~(1 << parish));
            put(leads, from, at(leads, from) - lead);
            put(members, ward, at(members, ward) | 1 << parish);
            put(leads, ward, at(leads, ward) + lead);
            put(wards, parish, ward);
        }

        /** MARGIN of a SIDE, were a PARISH in another WARD. */
        private int marginIfPlaced(int side, int parish, int ward) {
            int lead = at(votes, parish) - at(votes, MOST_PARISHES + parish);
            int left = at(leads, at(wards, parish));
            int reached = at(leads, ward);
            int change = Integer.compare(left, lead) - Integer.compare(left, 0)
                    + Integer.compare(reached, -lead) - Integer.compare(reached, 0);
            return margin(side) + (side == 0 ? change : -change);
        }

        /** MARGIN of a SIDE, had a share of 100 of the other SIDE's VOTES in each PARISH come to it. */
        private int marginHad(int side, int share) {
            int margin = 0;
            for (int ward = 0; ward < WARDS; ward++) {
                int lead = 0;
                for (int parish = 0; parish < parishes; parish++) {
                    if (wardOf(parish) == ward) {
                        int others = votesOf(1 - side, parish);
                        lead += votesOf(side, parish) - others + 2 * (others * share / HUNDRED);
                    }
                }
                margin += Integer.compare(lead, 0);
            }
            return margin;
        }

        private int wasted(int side) {
            int lost = 0;
            for (int ward = 0; ward < WARDS; ward++) {
                lost += winner(ward) == side ? Math.abs(leadIn(ward)) - 1 : wardVotes(side, ward);
            }
            return lost;
        }

        /** The number of the TIDE that comes in a YEAR; 0 without TIDES. */
        private int tideOf(int someYear) {
            return tides > 0 ? someYear % tides : 0;
        }

        private int comingSide() {
            return at(tideSides, tideOf(year));
        }

        private int comingShare() {
            return at(tideShares, tideOf(year));
        }

        private boolean recountParish(int parish, int first, int second) {
            if (votesOf(0, parish) == first && votesOf(1, parish) == second) {
                return false;
            }
            put(votes, parish, first);
            put(votes, MOST_PARISHES + parish, second);
            tally();
            return true;
        }

        private void comeTide() {
            if (tides == 0) {
                return;
            }
            int gains = comingSide() * MOST_PARISHES;
            int loses = (1 - comingSide()) * MOST_PARISHES;
            int share = comingShare();
            for (int parish = 0; parish < parishes; parish++) {
                int turned = at(votes, loses + parish) * share / HUNDRED;
                put(votes, loses + parish, at(votes, loses + parish) - turned);
                put(votes, gains + parish, at(votes, gains + parish) + turned);
            }
            tally();
        }

        private void elect() {
            comeTide();
            int before = ruler;
            int ahead = margin(0);
            if (ahead == 0) {
                ahead = allVotes(0) - allVotes(1);
            }
            if (ahead != 0) {
                ruler = ahead > 0 ? 0 : 1;
            }
            if (ruler == NONE) {
                reign = 0;
            } else {
                reign = ruler == before ? reign + 1 : 1;
            }
            year++;
        }
    }

    /** The LAW, its parts in the order in which they are reckoned: both operands, then what joins them. */
    private static final class Law {
        private final int[] parts = new int[LAW_BYTES];
        private final int[] stack = new int[LAW_BYTES];
        private final int[] facts = new int[FACTS];
        private int used;

        private void clear() {
            used = 0;
        }

        private void copyFrom(Law other) {
            copy(other.parts, 0, parts, 0, other.used);
            used = other.used;
        }

        private void tell(int fact, int value) {
            put(facts, fact, value);
        }

        private int price() {
            if (used == 0) {
                return COST_WITHOUT_LAW;
            }
            int top = 0;
            for (int i = 0; i < used; i++) {
                int part = at(parts, i);
                if (part > PLUS) {
                    put(stack, top, part >= 0 ? part : at(facts, -1 - part));
                    top++;
                } else {
                    top--;
                    put(stack, top - 1, joined(part, at(stack, top - 1), at(stack, top)));
                }
            }
            return Math.max(0, Math.min(MOST_COST, at(stack, 0)));
        }

        private static int joined(int part, int left, int right) {
            switch (part) {
                case PLUS: return left + right;
                case MINUS: return left - right;
                case TIMES: return left * right;
                case OVER: return right == 0 ? 0 : left / right;
                case REST: return right == 0 ? 0 : left % right;
                case LEAST: return Math.min(left, right);
                default: return Math.max(left, right);
            }
        }

        private boolean read(Text text) {
            used = 0;
            if (!readSum(text, 0)) {
                return false;
            }
            return text.ahead() == NONE || text.fail(CANT_STAND, text.next);
        }

        private boolean add(int part) {
            put(parts, used, part);
            used++;
            return true;
        }

        private boolean readSum(Text text, int open) {
            if (!readProduct(text, open)) {
                return false;
            }
            for (int i = 0; i < LAW_BYTES; i++) {
                int sign = text.ahead();
                if (sign != '+' && sign != '-') {
                    return true;
                }
                if (!text.sign(sign) || !readProduct(text, open)) {
                    return false;
                }
                add(sign == '+' ? PLUS : MINUS);
            }
            return true;
        }

        private boolean readProduct(Text text, int open) {
            if (!readUnit(text, open)) {
                return false;
            }
            for (int i = 0; i < LAW_BYTES; i++) {
                int sign = text.ahead();
                if (sign != '*' && sign != '/' && sign != '%') {
                    return true;
                }
                if (!text.sign(sign) || !readUnit(text, open)) {
                    return false;
                }
                add(sign == '*' ? TIMES : sign == '/' ? OVER : REST);
            }
            return true;
        }

        private boolean readUnit(Text text, int open) {
            int sign = text.ahead();
            if (Text.isDigit(sign)) {
                return text.number(MOST_NUMBER) && add(text.value);
            }
            if (sign == '(') {
                if (open >= MOST_OPEN) {
                    return text.fail(TOO_MANY, text.next);
                }
                return text.sign('(') && readSum(text, open + 1) && text.sign(')');
            }
            text.word();
            int fact = factNamed(text);
            if (fact != NONE) {
                return add(-1 - fact);
            }
            int pair = text.is("least") ? LEAST : MOST;
            if (pair == MOST && !text.is("most")) {
                return text.fail(CANT_STAND, text.token);
            }
            if (open >= MOST_OPEN) {
                return text.fail(TOO_MANY, text.token);
            }
            return text.sign('[') && readSum(text, open + 1) && text.sign(',') && readSum(text, open + 1)
                    && text.sign(']') && add(pair);
        }

        private static int factNamed(Text text) {
            if (text.is("people")) {
                return PEOPLE;
            }
            if (text.is("lead")) {
                return LEAD;
            }
            if (text.is("size")) {
                return SIZE;
            }
            if (text.is("room")) {
                return ROOM;
            }
            if (text.is("lines")) {
                return LINES;
            }
            if (text.is("reign")) {
                return REIGN;
            }
            if (text.is("year")) {
                return YEAR;
            }
            return text.is("parish") ? PARISH : NONE;
        }
    }

    /** One WORK: its STEPS, four cells each: what to do, and its numbers (of an again: how often, where it ends). */
    private static final class Plan {
        // A STEP takes five bytes at least, so no text needs as many cells as it has bytes.
        private final int[] cells = new int[WORK_BYTES];
        private int used;
        private int parishes;
        private int begun;
        private int done;
        private int refused;

        private void clear(int parishesThere) {
            used = 0;
            begun = 0;
            done = 0;
            refused = 0;
            parishes = parishesThere;
        }

        private boolean readSteps(Text text, int open) {
            int closing = open == 0 ? NONE : ']';
            for (int i = 0; i < WORK_BYTES; i++) {
                if (text.ahead() == closing) {
                    return true;
                }
                if (!readStep(text, open) || !text.sign(';')) {
                    return false;
                }
            }
            return true;
        }

        private boolean readStep(Text text, int open) {
            text.word();
            if (text.is("again")) {
                return readAgain(text, open);
            }
            int first = used;
            used += STEP_CELLS;
            if (text.is("vote")) {
                put(cells, first, VOTE);
                return true;
            }
            if (text.is("draw")) {
                put(cells, first, DRAW);
                return true;
            }
            if (text.is("move")) {
                put(cells, first, MOVE);
                return readNumber(text, parishes - 1, first + 1) && readNumber(text, WARDS - 1, first + 2);
            }
            if (text.is("count")) {
                put(cells, first, COUNT);
                return readNumber(text, parishes - 1, first + 1) && readNumber(text, MOST_VOTES, first + 2)
                        && readNumber(text, MOST_VOTES, first + 3);
            }
            return text.fail(CANT_STAND, text.token);
        }

        private boolean readAgain(Text text, int open) {
            if (open >= MOST_OPEN) {
                return text.fail(TOO_MANY, text.token);
            }
            int first = used;
            used += STEP_CELLS;
            put(cells, first, AGAIN);
            if (!readNumber(text, MOST_AGAIN, first + 1) || !text.sign('[') || !readSteps(text, open + 1)) {
                return false;
            }
            put(cells, first + 2, used);
            return text.sign(']');
        }

        private boolean readNumber(Text text, int most, int cell) {
            if (!text.number(most)) {
                return false;
            }
            put(cells, cell, text.value);
            return true;
        }

        private static void run(Plan plan, Council council, int from, int to, int open) {
            if (open > MOST_OPEN) {
                return;
            }
            int first = from;
            for (int i = 0; i < MOST_STEPS && first < to && plan.begun < MOST_STEPS; i++) {
                plan.begun++;
                if (at(plan.cells, first) == AGAIN) {
                    int end = at(plan.cells, first + 2);
                    for (int round = 0; round < at(plan.cells, first + 1); round++) {
                        run(plan, council, first + STEP_CELLS, end, open + 1);
                    }
                    first = end;
                } else {
                    boolean could = plan.runStep(council, first);
                    plan.done += could ? 1 : 0;
                    plan.refused += could ? 0 : 1;
                    first += STEP_CELLS;
                }
            }
        }

        private boolean runStep(Council council, int first) {
            switch (at(cells, first)) {
                case VOTE: return council.vote();
                case DRAW: return council.redraw();
                case MOVE: return council.move(at(cells, first + 1), at(cells, first + 2));
                default:
                    return council.recountParish(at(cells, first + 1), at(cells, first + 2), at(cells, first + 3));
            }
        }
    }

    /** The BOOK: lines that tell of a WARD who won it (a SIDE, or NONE). */
    private static final class Book {
        private static final int NO_WINNER = 2;

        private final int[] winners = new int[WARDS];
        private int lined;
        private int firstFit = NONE;

        private void clear() {
            lined = 0;
        }

        private void copyFrom(Book other) {
            copy(other.winners, 0, winners, 0, WARDS);
            lined = other.lined;
        }

        private boolean read(Text text) {
            lined = 0;
            for (int lines = 0; lines <= WARDS; lines++) {
                if (text.ahead() == NONE) {
                    return true;
                }
                if (!readLine(text) || !text.sign(';')) {
                    return false;
                }
            }
            return true;
        }

        private boolean readLine(Text text) {
            if (!text.number(WARDS - 1)) {
                return false;
            }
            int ward = text.value;
            if (hasLine(ward)) {
                return text.fail(NO_SUCH_NUMBER, text.token);
            }
            if (!text.number(NO_WINNER)) {
                return false;
            }
            put(winners, ward, text.value == NO_WINNER ? NONE : text.value);
            lined |= 1 << ward;
            return true;
        }

        private int lines() {
            return Integer.bitCount(lined);
        }

        private boolean hasLine(int ward) {
            return has(lined, ward);
        }

        private boolean isRight(County county) {
            for (int ward = 0; ward < WARDS; ward++) {
                if (hasLine(ward) && county.winner(ward) != at(winners, ward)) {
                    return false;
                }
            }
            return true;
        }

        /** How many single moves make all lines right; a ward that is not NONE must be won so, too. */
        private int fitting(County county, int ward, int winner) {
            int found = 0;
            firstFit = NONE;
            for (int parish = 0; parish < county.parishes; parish++) {
                int open = county.openWards(parish);
                int from = county.wardOf(parish);
                for (int to = 0; to < WARDS; to++) {
                    if (has(open, to)) {
                        county.place(parish, to);
                        if (isRight(county) && (ward == NONE || county.winner(ward) == winner)) {
                            firstFit = found == 0 ? 10 * parish + to : firstFit;
                            found++;
                        }
                        county.place(parish, from);
                    }
                }
            }
            return found;
        }

        private int worstFitting(County county, int ward) {
            int worst = fitting(county, ward, NONE);
            for (int side = 0; side < SIDES; side++) {
                worst = Math.max(worst, fitting(county, ward, side));
            }
            return worst;
        }
    }

    /** STEPS in a COUNTY under its LAW, and the moves that SIDES look for. */
    private static final class Council {
        private final County county;
        private final Law law;
        private int pickedParish = NONE;
        private int pickedWard = NONE;
        private int pickedMargin = NONE;

        private Council(County county, Law law) {
            this.county = county;
            this.law = law;
        }

        private boolean vote() {
            if (county.year >= LAST_YEAR) {
                return false;
            }
            county.elect();
            return true;
        }

        private boolean redraw() {
            return county.ruler != NONE && choose(county.ruler) && shift(pickedParish, pickedWard);
        }

        private boolean move(int parish, int ward) {
            return has(county.openWards(parish), ward) && priceOf(parish, ward) <= county.purse && shift(parish, ward);
        }

        private boolean shift(int parish, int ward) {
            county.place(parish, ward);
            county.moved++;
            return true;
        }

        private boolean recountParish(int parish, int first, int second) {
            return county.recountParish(parish, first, second);
        }

        private int priceOf(int parish, int ward) {
            int first = county.votesOf(0, parish);
            int second = county.votesOf(1, parish);
            law.tell(PEOPLE, first + second);
            law.tell(LEAD, county.ruler == 1 ? second - first : first - second);
            law.tell(SIZE, Integer.bitCount(county.membersOf(county.wardOf(parish))));
            law.tell(ROOM, Integer.bitCount(county.membersOf(ward)));
            law.tell(LINES, county.lines());
            law.tell(REIGN, county.reign);
            law.tell(YEAR, county.year);
            law.tell(PARISH, parish);
            return law.price();
        }

        /** Picks the BEST move of a SIDE; false without one. */
        private boolean choose(int side) {
            pickedParish = NONE;
            pickedMargin = county.margin(side);
            int pickedPrice = 0;
            for (int parish = 0; parish < county.parishes; parish++) {
                int open = county.openWards(parish);
                for (int ward = 0; ward < WARDS; ward++) {
                    if (has(open, ward)) {
                        int margin = county.marginIfPlaced(side, parish, ward);
                        int price = margin >= pickedMargin ? priceOf(parish, ward) : 0;
                        boolean cheaper = pickedParish != NONE && margin == pickedMargin && price < pickedPrice;
                        if (price <= county.purse && (margin > pickedMargin || cheaper)) {
                            pickedParish = parish;
                            pickedWard = ward;
                            pickedMargin = margin;
                            pickedPrice = price;
                        }
                    }
                }
            }
            return pickedParish != NONE;
        }

        /** The greatest MARGIN a SIDE can come to by so many moves or none, all its own or by turns with the other. */
        private static int greatest(County county, int side, int moves, boolean byTurns) {
            if (moves <= 0) {
                return county.margin(side);
            }
            int found = greatestThen(county, side, moves, byTurns);
            for (int parish = 0; parish < county.parishes; parish++) {
                int open = county.openWards(parish);
                int from = county.wardOf(parish);
                for (int ward = 0; ward < WARDS; ward++) {
                    if (has(open, ward) && moves == 1) {
                        found = Math.max(found, county.marginIfPlaced(side, parish, ward));
                    } else if (has(open, ward)) {
                        county.place(parish, ward);
                        found = Math.max(found, greatestThen(county, side, moves, byTurns));
                        county.place(parish, from);
                    }
                }
            }
            return found;
        }

        private static int greatestThen(County county, int side, int moves, boolean byTurns) {
            if (byTurns) {
                // What one side gains the other one loses, so what the next to move comes to counts against this one.
                return -greatest(county, 1 - side, moves - 1, true);
            }
            return greatest(county, side, moves - 1, false);
        }
    }

    /** YEARS that are only asked for: the COUNTY is as before behind each of them. */
    private static final class Outlook {
        private final County county;
        private final Council council;
        private final int[] before = new int[ROW];
        private final int[] rows = new int[(MOST_REIGNS + 1) * ROW];
        private int seed;
        private int lastRuler = NONE;
        private int changes;
        private int roundStart = NONE;
        private int roundLength = NONE;
        private int lastMargin;
        private int lastMoves;
        private int lastLines;

        private Outlook(County county, Council council) {
            this.county = county;
            this.council = council;
        }

        private void pass() {
            county.elect();
            council.redraw();
        }

        private void lookAhead(int n) {
            county.save(before, 0);
            changes = 0;
            for (int i = 0; i < n; i++) {
                int ruled = county.ruler;
                pass();
                changes += county.ruler == ruled ? 0 : 1;
            }
            lastRuler = county.ruler;
            county.load(before, 0);
        }

        private void findRound() {
            county.save(before, 0);
            for (int i = 0; i <= MOST_REIGNS; i++) {
                county.save(rows, i * ROW);
                pass();
            }
            county.load(before, 0);
            for (int start = 0; start < MOST_REIGNS; start++) {
                for (int length = 1; start + length <= MOST_REIGNS; length++) {
                    if (isAlike(start * ROW, (start + length) * ROW)) {
                        roundStart = start;
                        roundLength = length;
                        return;
                    }
                }
            }
            roundStart = NONE;
            roundLength = NONE;
        }

        private boolean isAlike(int one, int other) {
            for (int i = 0; i <= RULER_CELL; i++) {
                if (at(rows, one + i) != at(rows, other + i)) {
                    return false;
                }
            }
            return county.tideOf(at(rows, one + YEAR_CELL)) == county.tideOf(at(rows, other + YEAR_CELL));
        }

        private int drawn(int among) {
            seed = seed * 1103515245 + 12345;
            return among > 0 ? (seed >>> 16 & 32767) % among : 0;
        }

        /** A TIME by a SEED. */
        private void live(int firstSeed, int q, int n) {
            county.save(before, 0);
            int movedBefore = county.moved;
            seed = firstSeed;
            for (int i = 0; i < n; i++) {
                if (county.parishes > 0) {
                    int parish = drawn(county.parishes);
                    int ward = drawn(WARDS);
                    if (drawn(SIXTEEN) < q) {
                        council.move(parish, ward);
                    }
                }
                pass();
            }
            lastRuler = county.ruler;
            lastMargin = county.margin(0);
            lastMoves = county.moved - movedBefore;
            lastLines = county.lines();
            county.load(before, 0);
        }
    }

    /** What can be come back to: the COUNTY ahead of each WORK, and IMAGES (the COUNTY, then its rows of WORKS). */
    private static final class Archive {
        private final int[] workRows = new int[MOST_WORKS * ROW];
        private final int[] imageRows = new int[MOST_IMAGES * IMAGE];
        private final int[] imageWorks = new int[MOST_IMAGES];
        private int works;
        private int images;

        private void clear() {
            works = 0;
            images = 0;
        }

        private void keepWork(County county) {
            county.save(workRows, works * ROW);
            works++;
        }

        private void takeBackWork(County county) {
            works--;
            county.load(workRows, works * ROW);
        }

        private void keepImage(County county) {
            int start = images * IMAGE;
            county.save(imageRows, start);
            copy(workRows, 0, imageRows, start + ROW, works * ROW);
            put(imageWorks, images, works);
            images++;
        }

        private void takeImage(County county) {
            images--;
            int start = images * IMAGE;
            county.load(imageRows, start);
            works = at(imageWorks, images);
            copy(imageRows, start + ROW, workRows, 0, works * ROW);
        }
    }
}
