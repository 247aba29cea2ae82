import java.util.ArrayList;
import java.util.HashSet;
import java.util.List;
import java.util.Set;
import java.util.TreeSet;

/**
 * The document once more, as slowly and as close to its words as can be: all variants written out,
 * sheets compared one by one, seats numbered by looking around. No shortcut of ClassSheets is used.
 */
public final class PlainModel {
    private static final int UNKNOWN = -1, BAD = -2, STATE = -3, FULL = -4, NONE = -9;

    private static final class Sum {
        int a, b, answer;
        boolean carry;
        final int[] slips = new int[6];
    }

    private static final class Sums {
        int operation;
        int aFrom = 0, aTo = 9, bFrom = 0, bTo = 9, answerFrom = 0, answerTo = 9999;
        int law = 0, lines = 1, begin = 0;
        List<Sum> variants = new ArrayList<>();
    }

    private final List<Sums> kinds = new ArrayList<>();
    private final List<Integer> plan = new ArrayList<>();
    private int pageLines = 20, rows = 1, columns = 1, base = 0, right = 0, wrong = 0;
    private int[][] missed = new int[100][8];

    // ---- kinds

    public int kind(int operation) {
        if (operation < 0 || operation > 3) return BAD;
        if (kinds.size() == 8) return FULL;
        Sums sums = new Sums();
        sums.operation = operation;
        kinds.add(sums);
        writeOut(sums);
        return kinds.size() - 1;
    }

    public int range(int kind, int what, int from, int to) {
        if (noKind(kind)) return UNKNOWN;
        if (what < 0 || what > 2) return BAD;
        int most = what == 2 ? 9999 : 99;
        if (from < 0 || from > most || to < 0 || to > most || from > to) return BAD;
        Sums sums = kinds.get(kind);
        if (what == 0) { sums.aFrom = from; sums.aTo = to; }
        if (what == 1) { sums.bFrom = from; sums.bTo = to; }
        if (what == 2) { sums.answerFrom = from; sums.answerTo = to; }
        writeOut(sums);
        return sums.variants.size();
    }

    public int rule(int kind, int what, int v) {
        if (noKind(kind)) return UNKNOWN;
        Sums sums = kinds.get(kind);
        int was = BAD;
        if (what == 0 && v >= 0 && v <= 3) { was = sums.law; sums.law = v; }
        if (what == 1 && v >= 1 && v <= 9) { was = sums.lines; sums.lines = v; }
        if (what == 2 && v >= 0 && v <= 9999) { was = sums.begin; sums.begin = v; }
        writeOut(sums);
        return was;
    }

    public int variants(int kind) {
        return noKind(kind) ? UNKNOWN : kinds.get(kind).variants.size();
    }

    public int variant(int kind, int i, int what) {
        if (noVariant(kind, i)) return UNKNOWN;
        if (what < 0 || what > 3) return BAD;
        Sum sum = kinds.get(kind).variants.get(i);
        return new int[] {sum.a, sum.b, sum.answer, sum.carry ? 1 : 0}[what];
    }

    public int find(int kind, int a, int b) {
        if (noKind(kind)) return UNKNOWN;
        List<Sum> variants = kinds.get(kind).variants;
        for (int i = 0; i < variants.size(); i++) {
            if (variants.get(i).a == a && variants.get(i).b == b) return i;
        }
        return NONE;
    }

    public int slip(int kind, int i, int slip) {
        if (noVariant(kind, i)) return UNKNOWN;
        if (slip < 1 || slip > 5) return BAD;
        return kinds.get(kind).variants.get(i).slips[slip];
    }

    public int tells(int kind, int i, int answer) {
        if (noVariant(kind, i)) return UNKNOWN;
        Sum sum = kinds.get(kind).variants.get(i);
        if (answer == sum.answer) return 0;
        for (int slip = 1; slip <= 5; slip++) {
            if (sum.slips[slip] != NONE && sum.slips[slip] == answer) return slip;
        }
        return NONE;
    }

    private boolean noKind(int kind) {
        return kind < 0 || kind >= kinds.size();
    }

    private boolean noVariant(int kind, int i) {
        return noKind(kind) || i < 0 || i >= kinds.get(kind).variants.size();
    }

    private static void writeOut(Sums sums) {
        sums.variants = new ArrayList<>();
        for (int a = sums.aFrom; a <= sums.aTo; a++) {
            for (int b = sums.bFrom; b <= sums.bTo; b++) {
                if (sums.operation == 1 && a < b) continue;
                if (sums.operation == 3 && (b == 0 || a % b != 0)) continue;
                Sum sum = sumOf(sums.operation, a, b);
                if (sum.answer < sums.answerFrom || sum.answer > sums.answerTo) continue;
                if (sums.law == 1 && sum.carry || sums.law == 2 && !sum.carry) continue;
                if (sums.law == 3 && aSlipIsRight(sum)) continue;
                sums.variants.add(sum);
            }
        }
    }

    private static boolean aSlipIsRight(Sum sum) {
        for (int slip = 1; slip <= 5; slip++) {
            if (sum.slips[slip] == sum.answer) return true;
        }
        return false;
    }

    private static Sum sumOf(int operation, int a, int b) {
        Sum sum = new Sum();
        sum.a = a;
        sum.b = b;
        int below = a < b ? NONE : a - b;
        if (operation == 0) {
            sum.answer = a + b;
            sum.carry = a % 10 + b % 10 > 9;
            sum.slips[1] = below;
            sum.slips[2] = sum.carry ? a + b - 10 : NONE;
        } else if (operation == 1) {
            sum.answer = a - b;
            sum.carry = a % 10 < b % 10;
            sum.slips[1] = a + b;
            sum.slips[2] = sum.carry ? 10 * (a / 10) - 10 * (b / 10) + b % 10 - a % 10 : NONE;
        } else {
            sum.answer = operation == 2 ? a * b : a / b;
            sum.slips[1] = operation == 2 ? a + b : below;
            sum.slips[2] = NONE;
        }
        sum.slips[3] = sum.answer + 1;
        sum.slips[4] = sum.answer == 0 ? NONE : sum.answer - 1;
        String figures = Integer.toString(sum.answer);
        sum.slips[5] = figures.length() != 2 || figures.charAt(0) == figures.charAt(1)
            ? NONE : Integer.parseInt(new StringBuilder(figures).reverse().toString());
        return sum;
    }

    // ---- the plan, pages

    public int plan(int kind, int n) {
        if (noKind(kind)) return UNKNOWN;
        if (n < 1 || n > 40) return BAD;
        if (plan.size() + n > 40) return FULL;
        for (int i = 0; i < n; i++) plan.add(kind);
        return plan.size();
    }

    public int clear() {
        int had = plan.size();
        plan.clear();
        return had;
    }

    public int placed(int place) {
        return noPlace(place) ? UNKNOWN : plan.get(place);
    }

    public int lines(int n) {
        if (n < 9 || n > 99) return BAD;
        int had = pageLines;
        pageLines = n;
        return had;
    }

    public int pages() {
        return plan.isEmpty() ? 0 : page(plan.size() - 1, false) + 1;
    }

    public int page(int place, boolean line) {
        if (noPlace(place)) return UNKNOWN;
        int[] filled = new int[40];
        int page = 0, begin = 0;
        for (int p = 0; p <= place; p++) {
            int needed = kinds.get(plan.get(p)).lines;
            while (filled[page] + needed > pageLines) page++;
            begin = filled[page];
            filled[page] += needed;
        }
        return line ? begin : page;
    }

    private boolean noPlace(int place) {
        return place < 0 || place >= plan.size();
    }

    // ---- sheets

    public int sheet(int z, int place) {
        if (noPlace(place)) return UNKNOWN;
        if (z < 0 || z > 9999) return BAD;
        if (noSheet()) return STATE;
        int m = 0, j = 0;
        for (int p = 0; p < plan.size(); p++) {
            if (plan.get(p).equals(plan.get(place))) {
                m++;
                if (p < place) j++;
            }
        }
        Sums sums = kinds.get(plan.get(place));
        return (z * m + j + sums.begin) % sums.variants.size();
    }

    public int answer(int z, int place) {
        int variant = sheet(z, place);
        return variant < 0 ? variant : kinds.get(plan.get(place)).variants.get(variant).answer;
    }

    public int code(int z) {
        if (z < 0 || z > 9999) return BAD;
        if (noSheet()) return STATE;
        long sum = 0;
        for (int p = 0; p < plan.size(); p++) sum += (long) answer(z, p) * (p + 1);
        return (int) (sum % 97);
    }

    public int shared(int z, int y) {
        if (z < 0 || z > 9999 || y < 0 || y > 9999) return BAD;
        if (noSheet()) return STATE;
        Set<Integer> has = allOn(y);
        int n = 0;
        for (int p = 0; p < plan.size(); p++) {
            if (has.contains(plan.get(p) * 10000 + sheet(z, p))) n++;
        }
        return n;
    }

    public int apart(int z) {
        if (z < 0 || z > 9999) return BAD;
        if (noSheet()) return STATE;
        Set<Integer> has = allOn(z);
        for (int y = z + 1; y <= 9999; y++) {
            boolean shares = false;
            for (int p = 0; p < plan.size() && !shares; p++) {
                shares = has.contains(plan.get(p) * 10000 + sheet(y, p));
            }
            if (!shares) return y;
        }
        return NONE;
    }

    private Set<Integer> allOn(int z) {
        Set<Integer> has = new HashSet<>();
        for (int p = 0; p < plan.size(); p++) has.add(plan.get(p) * 10000 + sheet(z, p));
        return has;
    }

    private boolean noSheet() {
        for (int kind : plan) {
            if (kinds.get(kind).variants.isEmpty()) return true;
        }
        return false;
    }

    // ---- the class

    public int seats(int newRows, int newColumns) {
        if (newRows < 1 || newRows > 8 || newColumns < 1 || newColumns > 8) return BAD;
        int had = rows * columns;
        rows = newRows;
        columns = newColumns;
        missed = new int[100][8];
        return had;
    }

    public int base(int n) {
        if (n < 0 || n > 9000) return BAD;
        int had = base;
        base = n;
        return had;
    }

    public int seat(int seat) {
        return noSeat(seat) ? UNKNOWN : numbers()[seat / 10 + 1][seat % 10 + 1] + base;
    }

    public int unlike() {
        int[][] numbers = numbers();
        Set<Integer> unlike = new TreeSet<>();
        for (int r = 1; r <= rows; r++) {
            for (int c = 1; c <= columns; c++) unlike.add(numbers[r][c]);
        }
        return unlike.size();
    }

    /** With a border of seats that never have a number. */
    private int[][] numbers() {
        int[][] numbers = new int[rows + 2][columns + 2];
        for (int[] row : numbers) java.util.Arrays.fill(row, NONE);
        for (int r = 1; r <= rows; r++) {
            for (int c = 1; c <= columns; c++) {
                Set<Integer> around = new HashSet<>();
                for (int cell = 0; cell < 9; cell++) around.add(numbers[r - 1 + cell / 3][c - 1 + cell % 3]);
                int least = 0;
                while (around.contains(least)) least++;
                numbers[r][c] = least;
            }
        }
        return numbers;
    }

    private boolean noSeat(int seat) {
        for (int r = 0; r < rows; r++) {
            for (int c = 0; c < columns; c++) {
                if (seat == 10 * r + c) return false;
            }
        }
        return true;
    }

    public int mark(int seat, int place, int answer) {
        if (noSeat(seat) || noPlace(place)) return UNKNOWN;
        if (noSheet()) return STATE;
        int told = tells(plan.get(place), sheet(seat(seat), place), answer);
        if (told == 0) {
            right++;
        } else {
            wrong++;
            missed[seat][plan.get(place)]++;
        }
        return told;
    }

    public int missed(int seat, int kind) {
        if (noSeat(seat)) return UNKNOWN;
        if (kind == NONE) return java.util.Arrays.stream(missed[seat]).sum();
        return noKind(kind) ? UNKNOWN : missed[seat][kind];
    }

    public int review(int seat, int n, int kind) {
        if (noSeat(seat) || noKind(kind)) return UNKNOWN;
        if (n < 1 || n > 60) return BAD;
        int sum = missed(seat, NONE);
        if (sum == 0) return STATE;
        int[] gets = new int[8], rest = new int[8];
        int over = n;
        for (int k = 0; k < 8; k++) {
            gets[k] = n * missed[seat][k] / sum;
            rest[k] = n * missed[seat][k] - gets[k] * sum;
            over -= gets[k];
        }
        while (over > 0) {
            int best = 0;
            for (int k = 1; k < 8; k++) {
                if (rest[k] > rest[best]) best = k;
            }
            gets[best]++;
            rest[best] = -1;
            over--;
        }
        return gets[kind];
    }

    public int all(int kind) {
        if (noKind(kind)) return UNKNOWN;
        int sum = 0;
        for (int[] child : missed) sum += child[kind];
        return sum;
    }

    public int total(int what) {
        if (what < 0 || what > 4) return BAD;
        return new int[] {kinds.size(), plan.size(), rows * columns, right, wrong}[what];
    }
}
