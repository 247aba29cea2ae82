/** Promises 1 to 9: a new object; kinds, their variants and slips. */
public final class KindsTest {
    private static final int MIN = Integer.MIN_VALUE, MAX = Integer.MAX_VALUE;
    /** So many variants are looked at on one object, which is used for 512 calls at most. */
    private static final int PART = 25;

    public static void main(String[] args) {
        newObject();
        kind();
        range();
        rule();
        variants();
        lawOfSlips();
        variant();
        find();
        slipsOfPlus();
        slipsOfMinus();
        slipsOfTimesAndBy();
        slipRefusals();
        tells();
        Due.end();
    }

    private static void newObject() {
        ClassSheets x = new ClassSheets();
        Due.is("kinds of a new object", 0, x.total(0));
        Due.is("places of a new object", 0, x.total(1));
        Due.is("seats of a new object", 1, x.total(2));
        Due.is("right marks of a new object", 0, x.total(3));
        Due.is("wrong marks of a new object", 0, x.total(4));
        Due.is("variants(0)", -1, x.variants(0));
        Due.is("placed(0)", -1, x.placed(0));
        Due.is("seat(0)", 0, x.seat(0));
        Due.is("seat(1)", -1, x.seat(1));
        Due.is("seat(10)", -1, x.seat(10));
        Due.is("missed(0, NONE) without kinds", 0, x.missed(0, -9));
        Due.is("pages()", 0, x.pages());
        Due.is("clear()", 0, x.clear());
        Due.is("lines(30)", 20, x.lines(30));
        Due.is("base(1)", 0, x.base(1));
    }

    private static void kind() {
        ClassSheets x = new ClassSheets();
        for (int wrong : new int[] {-1, 4, MIN, MAX}) {
            Due.is("kind(" + wrong + ")", -2, x.kind(wrong));
        }
        Due.is("kinds after refusals", 0, x.total(0));
        for (int k = 0; k < 8; k++) {
            Due.is("kind " + k, k, x.kind(k % 4));
        }
        Due.is("a ninth kind", -4, x.kind(0));
        Due.is("BAD comes ahead of FULL", -2, x.kind(4));
        Due.is("kinds", 8, x.total(0));
        Due.is("a is 0 at least", 0, x.variant(0, 0, 0));
        Due.is("b is 0 at least", 0, x.variant(0, 0, 1));
        Due.is("a is 9 at most", 9, x.variant(0, 99, 0));
        Due.is("b is 9 at most", 9, x.variant(0, 99, 1));
        Due.is("law at first", 0, x.rule(7, 0, 0));
        Due.is("lines at first", 1, x.rule(7, 1, 1));
        Due.is("begin at first", 0, x.rule(7, 2, 0));
        Due.is("answers are 0 at least: 0 times 0", 0, x.find(2, 0, 0));
        x.range(2, 0, 99, 99);
        Due.is("answers are 9999 at most: 99 times 99", 100, x.range(2, 1, 0, 99));
    }

    private static void range() {
        ClassSheets x = new ClassSheets();
        Due.is("range without a kind", -1, x.range(0, 0, 0, 9));
        x.kind(0);
        Due.is("range(1, ..)", -1, x.range(1, 9, 9, 0));
        Due.is("range(-1, ..)", -1, x.range(-1, 0, 0, 9));
        int[][] wrong = {{-1, 0, 9}, {3, 0, 9}, {MIN, 0, 9}, {MAX, 0, 9}, {0, -1, 9}, {0, 0, 100}, {1, 0, 100},
            {0, 5, 4}, {1, 5, 4}, {2, 5, 4}, {2, 0, 10000}, {2, -1, 5}, {0, 100, 100}, {0, MIN, MAX}, {0, MAX, MIN}};
        for (int[] w : wrong) {
            Due.is("range(0, " + w[0] + ", " + w[1] + ", " + w[2] + ")", -2, x.range(0, w[0], w[1], w[2]));
        }
        Due.is("refusals change nothing", 100, x.variants(0));
        Due.is("one a", 10, x.range(0, 0, 7, 7));
        Due.is("one b", 1, x.range(0, 1, 5, 5));
        Due.is("the answer lies in from .. to", 1, x.range(0, 2, 12, 12));
        Due.is("the answer lies below", 0, x.range(0, 2, 13, 9999));
        Due.is("the answer lies above", 0, x.range(0, 2, 0, 11));
        Due.is("a 0 .. 6, so that answers are 5 .. 11", 7, x.range(0, 0, 0, 6));
        Due.is("all answers again", 7, x.range(0, 2, 0, 9999));
        Due.is("a 0 .. 99", 100, x.range(0, 0, 0, 99));
        Due.is("b 0 .. 99", 10000, x.range(0, 1, 0, 99));
        Due.is("answers 0", 1, x.range(0, 2, 0, 0));
        Due.is("answers 198", 1, x.range(0, 2, 198, 198));
        x.kind(2);
        Due.is("another kind keeps its own numbers", 100, x.variants(1));
    }

    private static void rule() {
        ClassSheets x = new ClassSheets();
        Due.is("rule without a kind", -1, x.rule(0, 0, 0));
        x.kind(0);
        Due.is("rule(-1, 9, -1)", -1, x.rule(-1, 9, -1));
        Due.is("rule(MAX, 0, 0)", -1, x.rule(MAX, 0, 0));
        int[][] wrong = {{0, -1}, {0, 4}, {1, 0}, {1, 10}, {2, -1}, {2, 10000}, {3, 1}, {-1, 1}, {MIN, 1}, {MAX, 1},
            {0, MAX}, {1, MIN}, {2, MAX}};
        for (int[] w : wrong) {
            Due.is("rule(0, " + w[0] + ", " + w[1] + ")", -2, x.rule(0, w[0], w[1]));
        }
        Due.is("law was", 0, x.rule(0, 0, 3));
        Due.is("law was", 3, x.rule(0, 0, 1));
        Due.is("law was", 1, x.rule(0, 0, 2));
        Due.is("law was", 2, x.rule(0, 0, 0));
        Due.is("lines were", 1, x.rule(0, 1, 9));
        Due.is("lines were", 9, x.rule(0, 1, 1));
        Due.is("begin was", 0, x.rule(0, 2, 9999));
        Due.is("begin was", 9999, x.rule(0, 2, 0));
        Due.is("nothing but the law touches the variants", 100, x.variants(0));
    }

    private static void variants() {
        ClassSheets x = new ClassSheets();
        int[] any = {100, 55, 100, 32};
        // Of 0 .. 9: minus never borrows; times and by never carry; law 3 drops b = 0 for plus and
        // minus, 0 x 0 and 2 x 2, and 4 : 2.
        int[] noCarry = {55, 55, 100, 32};
        int[] carry = {45, 0, 0, 0};
        int[] noSlip = {90, 45, 98, 31};
        for (int op = 0; op < 4; op++) {
            x.kind(op);
            Due.is("any of " + op, any[op], x.variants(op));
            x.rule(op, 0, 1);
            Due.is("without a carry of " + op, noCarry[op], x.variants(op));
            x.rule(op, 0, 2);
            Due.is("with a carry of " + op, carry[op], x.variants(op));
            x.rule(op, 0, 3);
            Due.is("no slip right of " + op, noSlip[op], x.variants(op));
        }
        Due.is("variants(4)", -1, x.variants(4));
        Due.is("variants(-1)", -1, x.variants(-1));
        Due.is("variants(NONE)", -1, x.variants(-9));
        Due.is("variants(MIN)", -1, x.variants(MIN));
        x.rule(1, 0, 2);
        x.range(1, 0, 10, 19);
        Due.is("10 .. 19 less 0 .. 9 with a borrow", 45, x.variants(1));
        x.rule(1, 0, 1);
        Due.is("10 .. 19 less 0 .. 9 without a borrow", 55, x.variants(1));
    }

    private static void lawOfSlips() {
        for (int op = 0; op < 4; op++) {
            for (int a = 0; a <= 99; a++) {
                for (int b = 0; b <= 99; b += PART) {
                    lawOfSlips(op, a, b);
                }
            }
        }
    }

    private static void lawOfSlips(int operation, int a, int b) {
        ClassSheets x = new ClassSheets();
        x.kind(operation);
        x.range(0, 0, a, a);
        int all = x.range(0, 1, b, b + PART - 1);
        int kept = 0;
        for (int i = 0; i < all; i++) {
            kept += anySlipIsRight(x, i) ? 0 : 1;
        }
        x.rule(0, 0, 3);
        Due.is("variants of " + operation + " at " + a + " that no slip tells", kept, x.variants(0));
        for (int i = 0; i < kept; i++) {
            Due.holds("no slip is right at " + i + " of " + operation + " at " + a, !anySlipIsRight(x, i));
        }
    }

    private static boolean anySlipIsRight(ClassSheets x, int i) {
        int right = x.variant(0, i, 2);
        for (int slip = 1; slip <= 5; slip++) {
            if (x.slip(0, i, slip) == right) {
                return true;
            }
        }
        return false;
    }

    private static void variant() {
        ClassSheets x = new ClassSheets();
        x.kind(0);
        Due.is("variant(1, 0, 0)", -1, x.variant(1, 0, 0));
        Due.is("variant(0, -1, 0)", -1, x.variant(0, -1, 0));
        Due.is("variant(0, 100, 9): UNKNOWN comes first", -1, x.variant(0, 100, 9));
        Due.is("variant(0, MAX, 0)", -1, x.variant(0, MAX, 0));
        Due.is("variant(0, 0, -1)", -2, x.variant(0, 0, -1));
        Due.is("variant(0, 0, 4)", -2, x.variant(0, 0, 4));
        Due.is("variant(0, 0, MIN)", -2, x.variant(0, 0, MIN));
        x.range(0, 0, 37, 38);
        x.range(0, 1, 2, 4);
        int[][] due = {{37, 2, 39, 0}, {37, 3, 40, 1}, {37, 4, 41, 1}, {38, 2, 40, 1}, {38, 3, 41, 1}, {38, 4, 42, 1}};
        for (int i = 0; i < due.length; i++) {
            for (int what = 0; what < 4; what++) {
                Due.is("variant(0, " + i + ", " + what + ")", due[i][what], x.variant(0, i, what));
            }
        }
        Due.is("variant(0, 6, 0)", -1, x.variant(0, 6, 0));
        x.range(0, 2, 41, 41);
        Due.is("first of 41", 37, x.variant(0, 0, 0));
        Due.is("second of 41", 38, x.variant(0, 1, 0));
        Due.is("second of 41", 3, x.variant(0, 1, 1));
        x.kind(1);
        x.range(1, 0, 20, 30);
        Due.is("20 less 0: no carry", 0, x.variant(1, 0, 3));
        Due.is("20 less 1: a carry", 1, x.variant(1, 1, 3));
        x.kind(2);
        Due.is("9 times 9", 81, x.variant(2, 99, 2));
        Due.is("9 times 9 never carries", 0, x.variant(2, 99, 3));
        x.kind(3);
        Due.is("the first by is 0 by 1", 1, x.variant(3, 0, 1));
        Due.is("9 by 9", 1, x.variant(3, 31, 2));
        Due.is("by never carries", 0, x.variant(3, 31, 3));
    }

    private static void find() {
        ClassSheets x = new ClassSheets();
        Due.is("find without a kind", -1, x.find(0, 0, 0));
        for (int op = 0; op < 4; op++) {
            x.kind(op);
            x.range(op, 0, 5, 99);
            int all = x.range(op, 1, 0, 33);
            for (int from = 0; from < all; from += PART) {
                findPart(op, from, Math.min(all, from + PART));
            }
        }
        Due.is("find(4, 5, 5)", -1, x.find(4, 5, 5));
        Due.is("a below", -9, x.find(0, 4, 5));
        Due.is("a above", -9, x.find(0, 100, 5));
        Due.is("b below", -9, x.find(0, 5, -1));
        Due.is("b above", -9, x.find(0, 5, 34));
        Due.is("find(0, MIN, MAX)", -9, x.find(0, MIN, MAX));
        Due.is("find(0, MAX, MIN)", -9, x.find(0, MAX, MIN));
        Due.is("minus below 0", -9, x.find(1, 5, 6));
        Due.is("by 0", -9, x.find(3, 5, 0));
        Due.is("2 does not go into 5", -9, x.find(3, 5, 2));
        x.rule(0, 0, 1);
        Due.is("5 plus 5 carries", -9, x.find(0, 5, 5));
    }

    private static void findPart(int operation, int from, int end) {
        ClassSheets x = new ClassSheets();
        x.kind(operation);
        x.range(0, 0, 5, 99);
        x.range(0, 1, 0, 33);
        for (int i = from; i < end; i++) {
            Due.is("find of variant " + i + " of " + operation, i, x.find(0, x.variant(0, i, 0), x.variant(0, i, 1)));
        }
    }

    /** A kind of just one variant, whose number is 0. */
    private static ClassSheets only(int operation, int a, int b) {
        ClassSheets x = new ClassSheets();
        x.kind(operation);
        x.range(0, 0, a, a);
        Due.is("one variant of " + a + ", " + b, 1, x.range(0, 1, b, b));
        return x;
    }

    private static void slips(int operation, int a, int b, int... due) {
        ClassSheets x = only(operation, a, b);
        for (int slip = 1; slip <= 5; slip++) {
            Due.is("slip " + slip + " at " + a + ", " + b + " of " + operation, due[slip - 1], x.slip(0, 0, slip));
        }
    }

    private static void slipsOfPlus() {
        slips(0, 38, 27, 11, 55, 66, 64, 56);
        slips(0, 27, 38, -9, 55, 66, 64, 56);
        slips(0, 27, 27, 0, 44, 55, 53, 45);
        slips(0, 32, 27, 5, -9, 60, 58, 95);
        slips(0, 0, 0, 0, -9, 1, -9, -9);
        slips(0, 1, 8, -9, -9, 10, 8, -9);
        slips(0, 1, 9, -9, 0, 11, 9, 1);
        slips(0, 11, 22, -9, -9, 34, 32, -9);
        slips(0, 95, 3, 92, -9, 99, 97, 89);
        slips(0, 50, 49, 1, -9, 100, 98, -9);
        slips(0, 50, 50, 0, -9, 101, 99, -9);
        slips(0, 99, 99, 0, 188, 199, 197, -9);
    }

    private static void slipsOfMinus() {
        slips(1, 41, 28, 69, 27, 14, 12, 31);
        slips(1, 48, 21, 69, -9, 28, 26, 72);
        slips(1, 40, 21, 61, 21, 20, 18, 91);
        slips(1, 90, 1, 91, 91, 90, 88, 98);
        slips(1, 20, 19, 39, 19, 2, 0, -9);
        slips(1, 5, 5, 10, -9, 1, -9, -9);
        slips(1, 99, 0, 99, -9, 100, 98, -9);
    }

    private static void slipsOfTimesAndBy() {
        slips(2, 6, 7, 13, -9, 43, 41, 24);
        slips(2, 5, 2, 7, -9, 11, 9, 1);
        slips(2, 2, 2, 4, -9, 5, 3, -9);
        slips(2, 0, 9, 9, -9, 1, -9, -9);
        slips(2, 99, 99, 198, -9, 9802, 9800, -9);
        slips(3, 84, 4, 80, -9, 22, 20, 12);
        slips(3, 4, 2, 2, -9, 3, 1, -9);
        slips(3, 0, 7, -9, -9, 1, -9, -9);
        slips(3, 7, 7, 0, -9, 2, 0, -9);
    }

    private static void slipRefusals() {
        ClassSheets x = only(0, 1, 1);
        Due.is("slip(1, 0, 1)", -1, x.slip(1, 0, 1));
        Due.is("slip(-1, 0, 1)", -1, x.slip(-1, 0, 1));
        Due.is("slip(0, 1, 9): UNKNOWN comes first", -1, x.slip(0, 1, 9));
        Due.is("slip(0, -1, 1)", -1, x.slip(0, -1, 1));
        Due.is("slip(0, 0, 0)", -2, x.slip(0, 0, 0));
        Due.is("slip(0, 0, 6)", -2, x.slip(0, 0, 6));
        Due.is("slip(0, 0, MIN)", -2, x.slip(0, 0, MIN));
    }

    private static void told(int operation, int a, int b, int answer, int due) {
        Due.is(answer + " at " + a + ", " + b + " of " + operation, due, only(operation, a, b).tells(0, 0, answer));
    }

    private static void tells() {
        told(0, 38, 27, 65, 0);
        told(0, 38, 27, 11, 1);
        told(0, 38, 27, 55, 2);
        told(0, 38, 27, 66, 3);
        told(0, 38, 27, 64, 4);
        told(0, 38, 27, 56, 5);
        told(0, 38, 27, 57, -9);
        told(0, 38, 27, MAX, -9);
        told(0, 38, 27, MIN, -9);
        told(0, 27, 38, -9, -9);
        told(0, 0, 0, -1, -9);
        // Right, though slip 1 tells it too; then the lesser of two slips that tell the same.
        told(2, 2, 2, 4, 0);
        told(0, 7, 0, 7, 0);
        told(1, 90, 1, 91, 1);
        told(1, 20, 19, 19, 2);
        told(2, 3, 2, 5, 1);
        told(0, 5, 5, 0, 1);
        told(0, 6, 4, 1, 5);
        told(1, 89, 2, 78, 5);
        told(0, 4, 6, 0, 2);
        told(2, 7, 3, 12, 5);
        told(2, 7, 3, 10, 1);
        told(1, 12, 0, 21, 5);
        told(3, 24, 2, 21, 5);
        told(3, 42, 2, 12, 5);
        told(3, 12, 1, 11, 1);
        ClassSheets x = only(0, 1, 1);
        Due.is("tells(1, 0, 2)", -1, x.tells(1, 0, 2));
        Due.is("tells(0, 1, 2)", -1, x.tells(0, 1, 2));
        Due.is("tells(0, -1, 2)", -1, x.tells(0, -1, 2));
        Due.is("marks are not made by tells", 0, x.total(3) + x.total(4));
    }
}
