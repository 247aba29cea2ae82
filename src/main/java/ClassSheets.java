/**
 * Sheets of sums for a class, as ../shared/DOC.md promises them. The words in capitals there are
 * used here in small letters: kind, variant, slip, plan, sheet, seat, mark, review.
 */
public final class ClassSheets {
    public static final int UNKNOWN = -1, BAD = -2, STATE = -3, FULL = -4, NONE = -9;

    private static final int MOST_KINDS = 8;
    private static final int MOST_PLACES = 40;
    private static final int MOST_SHEET = 9999;
    private static final int LEAST_PAGE_LINES = 9;
    private static final int MOST_PAGE_LINES = 99;
    private static final int MOST_SIDE = 8;
    private static final int MOST_BASE = 9000;
    private static final int MOST_REVIEW = 60;
    private static final int SEAT_ROW = 10;
    private static final int CODE_MODULUS = 97;

    /** Two numbers 0 .. 99 travel as one: the first times this, and the second. */
    private static final int PAIR = 100;

    private final Kind[] kinds = new Kind[MOST_KINDS];
    private int kindCount = 0;

    private final int[] plannedKinds = new int[MOST_PLACES];
    /** Which place of its kind (0, 1, ..) each place of the plan is. */
    private final int[] turns = new int[MOST_PLACES];
    private int placeCount = 0;
    private int pageLines = 20;

    private int rowCount = 1;
    private int columnCount = 1;
    private int baseNumber = 0;
    /** A row of MOST_KINDS for each seat, row by row of the greatest class that there may be. */
    private final int[] misses = new int[MOST_SIDE * MOST_SIDE * MOST_KINDS];
    private int rightMarks = 0;
    private int wrongMarks = 0;

    public ClassSheets() {
        for (int k = 0; k < MOST_KINDS; k++) {
            kinds[k] = new Kind();
        }
    }

    // ---- kinds

    public int kind(int operation) {
        if (operation < Kind.PLUS || operation > Kind.BY) {
            return BAD;
        }
        if (kindCount == MOST_KINDS) {
            return FULL;
        }
        kinds[kindCount].open(operation);
        kindCount++;
        return kindCount - 1;
    }

    public int range(int kind, int what, int from, int to) {
        if (!isKind(kind)) {
            return UNKNOWN;
        }
        if (!Kind.isRange(what, from, to)) {
            return BAD;
        }
        kinds[kind].setRange(what, from, to);
        return kinds[kind].size();
    }

    public int rule(int kind, int what, int v) {
        if (!isKind(kind)) {
            return UNKNOWN;
        }
        if (!Kind.isRule(what, v)) {
            return BAD;
        }
        return kinds[kind].setRule(what, v);
    }

    public int variants(int kind) {
        return isKind(kind) ? kinds[kind].size() : UNKNOWN;
    }

    public int variant(int kind, int i, int what) {
        if (!isVariant(kind, i)) {
            return UNKNOWN;
        }
        int pair = kinds[kind].pairAt(i);
        int a = pair / PAIR;
        int b = pair % PAIR;
        switch (what) {
            case 0:
                return a;
            case 1:
                return b;
            case 2:
                return kinds[kind].result(a, b);
            case 3:
                return kinds[kind].carries(a, b) ? 1 : 0;
            default:
                return BAD;
        }
    }

    public int find(int kind, int a, int b) {
        return isKind(kind) ? kinds[kind].numberOf(a, b) : UNKNOWN;
    }

    public int slip(int kind, int i, int slip) {
        if (!isVariant(kind, i)) {
            return UNKNOWN;
        }
        if (slip < 1 || slip > Kind.SLIPS) {
            return BAD;
        }
        int pair = kinds[kind].pairAt(i);
        return kinds[kind].slipped(pair / PAIR, pair % PAIR, slip);
    }

    public int tells(int kind, int i, int answer) {
        return isVariant(kind, i) ? kinds[kind].slipBehind(i, answer) : UNKNOWN;
    }

    private boolean isKind(int kind) {
        return kind >= 0 && kind < kindCount;
    }

    private boolean isVariant(int kind, int i) {
        return isKind(kind) && i >= 0 && i < kinds[kind].size();
    }

    // ---- the plan, pages

    public int plan(int kind, int n) {
        if (!isKind(kind)) {
            return UNKNOWN;
        }
        if (n < 1 || n > MOST_PLACES) {
            return BAD;
        }
        if (n > MOST_PLACES - placeCount) {
            return FULL;
        }
        for (int i = 0; i < n; i++) {
            plannedKinds[placeCount] = kind;
            turns[placeCount] = kinds[kind].addPlace();
            placeCount++;
        }
        return placeCount;
    }

    public int clear() {
        int had = placeCount;
        placeCount = 0;
        for (int k = 0; k < kindCount; k++) {
            kinds[k].dropPlaces();
        }
        return had;
    }

    public int placed(int place) {
        return isPlace(place) ? plannedKinds[place] : UNKNOWN;
    }

    public int lines(int n) {
        if (n < LEAST_PAGE_LINES || n > MOST_PAGE_LINES) {
            return BAD;
        }
        int had = pageLines;
        pageLines = n;
        return had;
    }

    public int pages() {
        return placeCount == 0 ? 0 : pageAndLine(placeCount - 1) / PAIR + 1;
    }

    public int page(int place, boolean line) {
        if (!isPlace(place)) {
            return UNKNOWN;
        }
        int spot = pageAndLine(place);
        return line ? spot % PAIR : spot / PAIR;
    }

    private boolean isPlace(int place) {
        return place >= 0 && place < placeCount;
    }

    /** A pair, since one walk over the places ahead tells both. */
    private int pageAndLine(int place) {
        int page = 0;
        int begin = 0;
        int used = 0;
        for (int p = 0; p <= place; p++) {
            int needed = kinds[plannedKinds[p]].linesTaken();
            if (used + needed > pageLines) {
                page++;
                used = 0;
            }
            begin = used;
            used += needed;
        }
        return page * PAIR + begin;
    }

    // ---- sheets

    public int sheet(int z, int place) {
        int refusal = placeRefusal(z, place);
        return refusal == 0 ? variantOn(z, place) : refusal;
    }

    public int answer(int z, int place) {
        int refusal = placeRefusal(z, place);
        return refusal == 0 ? answerOn(z, place) : refusal;
    }

    public int code(int z) {
        int refusal = sheetRefusal(z);
        if (refusal != 0) {
            return refusal;
        }
        int sum = 0;
        for (int p = 0; p < placeCount; p++) {
            sum += answerOn(z, p) * (p + 1);
        }
        return sum % CODE_MODULUS;
    }

    public int shared(int z, int y) {
        if (!isSheet(z) || !isSheet(y)) {
            return BAD;
        }
        if (lacksVariants()) {
            return STATE;
        }
        int common = 0;
        for (int k = 0; k < kindCount; k++) {
            common += kinds[k].placesInCommon(z, y);
        }
        return common;
    }

    /**
     * A kind of m places gives each sheet m variants that follow one another in the ring of all.
     * Two such runs lie apart only in a ring of 2 m or more, and there those of z and z + 1 do: so
     * no sheet behind z + 1 needs a look.
     */
    public int apart(int z) {
        int refusal = sheetRefusal(z);
        if (refusal != 0) {
            return refusal;
        }
        for (int k = 0; k < kindCount; k++) {
            if (!kinds[k].hasEnoughForTwo()) {
                return NONE;
            }
        }
        return z < MOST_SHEET ? z + 1 : NONE;
    }

    private static boolean isSheet(int z) {
        return z >= 0 && z <= MOST_SHEET;
    }

    private boolean lacksVariants() {
        for (int p = 0; p < placeCount; p++) {
            if (kinds[plannedKinds[p]].size() == 0) {
                return true;
            }
        }
        return false;
    }

    /** 0 if there is a sheet z. */
    private int sheetRefusal(int z) {
        if (!isSheet(z)) {
            return BAD;
        }
        return lacksVariants() ? STATE : 0;
    }

    /** 0 if there is such a place on a sheet z. */
    private int placeRefusal(int z, int place) {
        return isPlace(place) ? sheetRefusal(z) : UNKNOWN;
    }

    private int variantOn(int z, int place) {
        return kinds[plannedKinds[place]].variantFor(z, turns[place]);
    }

    private int answerOn(int z, int place) {
        Kind kind = kinds[plannedKinds[place]];
        int pair = kind.pairAt(variantOn(z, place));
        return kind.result(pair / PAIR, pair % PAIR);
    }

    // ---- the class

    public int seats(int rows, int columns) {
        if (rows < 1 || rows > MOST_SIDE || columns < 1 || columns > MOST_SIDE) {
            return BAD;
        }
        int had = rowCount * columnCount;
        rowCount = rows;
        columnCount = columns;
        for (int m = 0; m < misses.length; m++) {
            misses[m] = 0;
        }
        return had;
    }

    public int base(int n) {
        if (n < 0 || n > MOST_BASE) {
            return BAD;
        }
        int had = baseNumber;
        baseNumber = n;
        return had;
    }

    public int seat(int seat) {
        return isSeat(seat) ? sheetAt(seat) : UNKNOWN;
    }

    /** The numbers of seats alternate along a side of two seats or more. */
    public int unlike() {
        return Math.min(rowCount, 2) * Math.min(columnCount, 2);
    }

    public int mark(int seat, int place, int answer) {
        if (!isSeat(seat) || !isPlace(place)) {
            return UNKNOWN;
        }
        if (lacksVariants()) {
            return STATE;
        }
        int kind = plannedKinds[place];
        int told = kinds[kind].slipBehind(variantOn(sheetAt(seat), place), answer);
        if (told == 0) {
            rightMarks++;
        } else {
            wrongMarks++;
            misses[missesFrom(seat) + kind]++;
        }
        return told;
    }

    public int missed(int seat, int kind) {
        if (!isSeat(seat) || kind != NONE && !isKind(kind)) {
            return UNKNOWN;
        }
        return kind == NONE ? missesAt(seat) : misses[missesFrom(seat) + kind];
    }

    public int review(int seat, int n, int kind) {
        if (!isSeat(seat) || !isKind(kind)) {
            return UNKNOWN;
        }
        if (n < 1 || n > MOST_REVIEW) {
            return BAD;
        }
        return reviewPlaces(seat, n, kind);
    }

    public int all(int kind) {
        if (!isKind(kind)) {
            return UNKNOWN;
        }
        int sum = 0;
        for (int m = kind; m < misses.length; m += MOST_KINDS) {
            sum += misses[m];
        }
        return sum;
    }

    public int total(int what) {
        switch (what) {
            case 0:
                return kindCount;
            case 1:
                return placeCount;
            case 2:
                return rowCount * columnCount;
            case 3:
                return rightMarks;
            case 4:
                return wrongMarks;
            default:
                return BAD;
        }
    }

    private boolean isSeat(int seat) {
        return seat >= 0 && seat / SEAT_ROW < rowCount && seat % SEAT_ROW < columnCount;
    }

    /**
     * The least number that no neighbour has comes out as 0 1 0 1 .. in even rows and 2 3 2 3 .. in
     * odd ones; a class of one column has no second number in a row, so its odd rows have 1.
     */
    private int sheetAt(int seat) {
        int oddRow = seat / SEAT_ROW % 2;
        int oddColumn = seat % SEAT_ROW % 2;
        return baseNumber + oddRow * Math.min(columnCount, 2) + oddColumn;
    }

    private int missesFrom(int seat) {
        return (seat / SEAT_ROW * MOST_SIDE + seat % SEAT_ROW) * MOST_KINDS;
    }

    private int missesAt(int seat) {
        int from = missesFrom(seat);
        int sum = 0;
        for (int k = 0; k < MOST_KINDS; k++) {
            sum += misses[from + k];
        }
        return sum;
    }

    /**
     * The rests add up to the total times the places that are over, and each is below the total: so
     * there are more kinds with a rest than places over, and a kind without one never gets any.
     */
    private int reviewPlaces(int seat, int n, int kind) {
        int from = missesFrom(seat);
        int total = missesAt(seat);
        if (total == 0) {
            return STATE;
        }
        int rest = n * misses[from + kind] % total;
        int over = n;
        int ahead = 0;
        for (int k = 0; k < MOST_KINDS; k++) {
            int due = n * misses[from + k];
            over -= due / total;
            if (due % total > rest || due % total == rest && k < kind) {
                ahead++;
            }
        }
        int whole = n * misses[from + kind] / total;
        return ahead < over ? whole + 1 : whole;
    }

    /** One kind of sums: its laws, how many variants they leave, and its places of the plan. */
    private static final class Kind {
        static final int PLUS = 0, MINUS = 1, TIMES = 2, BY = 3;
        static final int SLIPS = 5;

        private static final int A = 0, B = 1, ANSWERS = 2;
        private static final int LAW = 0, LINES = 1, BEGIN = 2;
        private static final int NO_CARRY = 1, WITH_CARRY = 2, NO_SLIP_RIGHT = 3;

        /** a and b are 0 .. 99. */
        private static final int NUMBERS = 100;
        private static final int[] RANGE_MOST = {99, 99, 9999};
        private static final int[] RULE_LEAST = {0, 1, 0};
        private static final int[] RULE_MOST = {3, 9, 9999};

        private int operation = PLUS;
        private final int[] least = {0, 0, 0};
        private final int[] most = {9, 9, 9999};
        private final int[] rules = {0, 1, 0};
        /** How many variants have a lesser a; kept, as a look for one variant needs it. */
        private final int[] before = new int[NUMBERS];
        private int count = 0;
        private int places = 0;

        Kind() {
        }

        static boolean isRange(int what, int from, int to) {
            return what >= A && what <= ANSWERS && from >= 0 && from <= to && to <= RANGE_MOST[what];
        }

        static boolean isRule(int what, int v) {
            return what >= LAW && what <= BEGIN && v >= RULE_LEAST[what] && v <= RULE_MOST[what];
        }

        void open(int newOperation) {
            operation = newOperation;
            countAnew();
        }

        void setRange(int what, int from, int to) {
            least[what] = from;
            most[what] = to;
            countAnew();
        }

        int setRule(int what, int v) {
            int had = rules[what];
            rules[what] = v;
            if (what == LAW && v != had) {
                countAnew();
            }
            return had;
        }

        int size() {
            return count;
        }

        int linesTaken() {
            return rules[LINES];
        }

        // -- variants

        private void countAnew() {
            count = 0;
            for (int a = least[A]; a <= most[A]; a++) {
                before[a] = count;
                count += countBelow(a, most[B] + 1);
            }
        }

        /** How many variants of a there are with a b below the end. */
        private int countBelow(int a, int end) {
            int n = 0;
            for (int b = least[B]; b < end; b++) {
                if (isLawful(a, b)) {
                    n++;
                }
            }
            return n;
        }

        /** For an i below the count: its a and b, as a pair. */
        int pairAt(int i) {
            int a = least[A];
            while (a < most[A] && before[a + 1] <= i) {
                a++;
            }
            int ahead = i - before[a];
            int b = least[B];
            for (; b < most[B]; b++) {
                if (isLawful(a, b)) {
                    if (ahead == 0) {
                        break;
                    }
                    ahead--;
                }
            }
            return a * PAIR + b;
        }

        int numberOf(int a, int b) {
            boolean inside = a >= least[A] && a <= most[A] && b >= least[B] && b <= most[B];
            return inside && isLawful(a, b) ? before[a] + countBelow(a, b) : NONE;
        }

        /** For an a and b of the kind's numbers. */
        private boolean isLawful(int a, int b) {
            int right = result(a, b);
            if (right < least[ANSWERS] || right > most[ANSWERS]) {
                return false;
            }
            switch (rules[LAW]) {
                case NO_CARRY:
                    return !carries(a, b);
                case WITH_CARRY:
                    return carries(a, b);
                case NO_SLIP_RIGHT:
                    // The slips 2 to 5 always tell something else than the right answer.
                    return otherOperation(a, b) != right;
                default:
                    return true;
            }
        }

        /** NONE, which lies in no range of answers, if none is told. */
        int result(int a, int b) {
            switch (operation) {
                case PLUS:
                    return a + b;
                case MINUS:
                    return a >= b ? a - b : NONE;
                case TIMES:
                    return a * b;
                default:
                    return b != 0 && a % b == 0 ? a / b : NONE;
            }
        }

        boolean carries(int a, int b) {
            switch (operation) {
                case PLUS:
                    return a % 10 + b % 10 >= 10;
                case MINUS:
                    return a % 10 < b % 10;
                default:
                    return false;
            }
        }

        // -- slips

        int slipped(int a, int b, int slip) {
            int right = result(a, b);
            switch (slip) {
                case 1:
                    return otherOperation(a, b);
                case 2:
                    return carries(a, b) ? withoutCarrying(a, b) : NONE;
                case 3:
                    return right + 1;
                case 4:
                    return right > 0 ? right - 1 : NONE;
                default:
                    return exchanged(right);
            }
        }

        /** What an answer to variant i tells: 0 if it is right, else the least slip, or NONE. */
        int slipBehind(int i, int answer) {
            int pair = pairAt(i);
            int a = pair / PAIR;
            int b = pair % PAIR;
            if (answer == result(a, b)) {
                return 0;
            }
            // No slip tells less than 0; and NONE must not be taken for what a slip tells.
            if (answer < 0) {
                return NONE;
            }
            for (int slip = 1; slip <= SLIPS; slip++) {
                if (slipped(a, b, slip) == answer) {
                    return slip;
                }
            }
            return NONE;
        }

        private int otherOperation(int a, int b) {
            if (operation == MINUS || operation == TIMES) {
                return a + b;
            }
            return a >= b ? a - b : NONE;
        }

        private int withoutCarrying(int a, int b) {
            if (operation == PLUS) {
                return a + b - 10;
            }
            return (a / 10 - b / 10) * 10 + Math.abs(a % 10 - b % 10);
        }

        private static int exchanged(int right) {
            int tens = right / 10;
            int ones = right % 10;
            return tens >= 1 && tens <= 9 && tens != ones ? ones * 10 + tens : NONE;
        }

        // -- places

        /** Which place of the kind the new one is. */
        int addPlace() {
            places++;
            return places - 1;
        }

        void dropPlaces() {
            places = 0;
        }

        boolean hasEnoughForTwo() {
            return count >= 2 * places;
        }

        int variantFor(int z, int turn) {
            return count > 0 ? (z * places + turn + rules[BEGIN]) % count : NONE;
        }

        /** How many of the kind's places on sheet z have a variant that sheet y has too. */
        int placesInCommon(int z, int y) {
            if (count < 1) {
                return 0;
            }
            int ahead = Math.floorMod((z - y) * places, count);
            int common = 0;
            for (int turn = 0; turn < places; turn++) {
                if ((ahead + turn) % count < places) {
                    common++;
                }
            }
            return common;
        }
    }
}
