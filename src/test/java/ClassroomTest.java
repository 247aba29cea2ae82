/** Promises 21 to 29: seats, marks, what was missed, reviews, totals. */
public final class ClassroomTest {
    private static final int MIN = Integer.MIN_VALUE, MAX = Integer.MAX_VALUE;

    public static void main(String[] args) {
        seats();
        seatsForget();
        base();
        seat();
        everyClass();
        mark();
        markRefusals();
        missed();
        review();
        reviewAddsUp();
        reviewRefusals();
        all();
        total();
        Due.end();
    }

    /** n kinds, kind k being k + 1 once (the only variant), each planned at place k. */
    private static ClassSheets withKinds(int n) {
        ClassSheets x = new ClassSheets();
        for (int k = 0; k < n; k++) {
            x.kind(0);
            x.range(k, 0, k, k);
            x.range(k, 1, 1, 1);
            x.plan(k, 1);
        }
        return x;
    }

    private static void miss(ClassSheets x, int seat, int... times) {
        for (int k = 0; k < times.length; k++) {
            for (int n = 0; n < times[k]; n++) {
                Due.is("a wrong mark", -9, x.mark(seat, k, 7777));
            }
        }
    }

    private static void seats() {
        ClassSheets x = new ClassSheets();
        int[][] wrong = {{0, 1}, {1, 0}, {9, 1}, {1, 9}, {-1, -1}, {MIN, 4}, {4, MAX}};
        for (int[] w : wrong) {
            Due.is("seats(" + w[0] + ", " + w[1] + ")", -2, x.seats(w[0], w[1]));
        }
        Due.is("seats after refusals", 1, x.total(2));
        Due.is("seats(2, 5)", 1, x.seats(2, 5));
        Due.is("seats(8, 8)", 10, x.seats(8, 8));
        Due.is("seats(1, 3)", 64, x.seats(1, 3));
        Due.is("seats(1, 3)", 3, x.seats(1, 3));
        Due.is("total(2)", 3, x.total(2));
        Due.is("the third column", 0, x.seat(2));
        Due.is("no second row", -1, x.seat(10));
    }

    private static void seatsForget() {
        ClassSheets x = withKinds(2);
        x.seats(8, 8);
        miss(x, 0, 2, 1);
        miss(x, 77, 1, 3);
        x.mark(0, 0, 1);
        Due.is("refused: nothing is forgotten", -2, x.seats(0, 9));
        Due.is("missed(0, NONE)", 3, x.missed(0, -9));
        Due.is("missed(77, NONE)", 4, x.missed(77, -9));
        Due.is("the same seats once more", 64, x.seats(8, 8));
        Due.is("missed(0, NONE)", 0, x.missed(0, -9));
        Due.is("missed(77, NONE)", 0, x.missed(77, -9));
        Due.is("all(0)", 0, x.all(0));
        Due.is("all(1)", 0, x.all(1));
        Due.is("marks that were right stay", 1, x.total(3));
        Due.is("marks that were not stay", 7, x.total(4));
    }

    private static void base() {
        ClassSheets x = new ClassSheets();
        for (int n : new int[] {-1, 9001, MIN, MAX}) {
            Due.is("base(" + n + ")", -2, x.base(n));
        }
        Due.is("base(9000)", 0, x.base(9000));
        Due.is("seat(0)", 9000, x.seat(0));
        Due.is("base(17)", 9000, x.base(17));
        x.seats(2, 2);
        Due.is("seats keep the base", 20, x.seat(11));
        Due.is("base(0)", 17, x.base(0));
        Due.is("seat(11)", 3, x.seat(11));
    }

    private static void seat() {
        ClassSheets x = new ClassSheets();
        x.seats(3, 5);
        int[][] due = {{0, 1, 0, 1, 0}, {2, 3, 2, 3, 2}, {0, 1, 0, 1, 0}};
        for (int r = 0; r < 3; r++) {
            for (int c = 0; c < 5; c++) {
                Due.is("seat(" + (10 * r + c) + ")", due[r][c], x.seat(10 * r + c));
            }
        }
        for (int seat : new int[] {5, 9, 15, 25, 30, 100, -1, -9, -10, MIN, MAX}) {
            Due.is("seat(" + seat + ")", -1, x.seat(seat));
        }
        x.seats(4, 1);
        int[] column = {0, 1, 0, 1};
        for (int r = 0; r < 4; r++) {
            Due.is("one column: seat(" + 10 * r + ")", column[r], x.seat(10 * r));
        }
    }

    /** Each seat has the least number that none of those around ahead of it has. */
    private static void everyClass() {
        for (int rows = 1; rows <= 8; rows++) {
            for (int columns = 1; columns <= 8; columns++) {
                ClassSheets x = new ClassSheets();
                x.seats(rows, columns);
                x.base(50);
                int greatest = 0;
                for (int r = 0; r < rows; r++) {
                    for (int c = 0; c < columns; c++) {
                        int due = leastFree(x, r, c, columns);
                        greatest = Math.max(greatest, due);
                        Due.is("seat(" + (10 * r + c) + ") of " + rows + " x " + columns, 50 + due, x.seat(10 * r + c));
                    }
                }
                Due.is("unlike() of " + rows + " x " + columns, greatest + 1, x.unlike());
            }
        }
    }

    private static int leastFree(ClassSheets x, int r, int c, int columns) {
        boolean[] taken = new boolean[10];
        int[][] ahead = {{r - 1, c - 1}, {r - 1, c}, {r - 1, c + 1}, {r, c - 1}};
        for (int[] a : ahead) {
            if (a[0] >= 0 && a[1] >= 0 && a[1] < columns) {
                taken[x.seat(10 * a[0] + a[1]) - 50] = true;
            }
        }
        int least = 0;
        while (taken[least]) {
            least++;
        }
        return least;
    }

    private static void mark() {
        ClassSheets x = new ClassSheets();
        x.kind(0);
        x.kind(1);
        x.range(0, 0, 38, 38);
        x.range(1, 0, 41, 41);
        x.range(1, 1, 28, 28);
        x.plan(0, 2);
        x.plan(1, 1);
        x.seats(2, 2);
        // Seat 11 has sheet 3: 38 + 6, 38 + 7, 41 - 28.
        Due.is("right", 0, x.mark(11, 0, 44));
        Due.is("nothing missed", 0, x.missed(11, -9));
        Due.is("slip 1", 1, x.mark(11, 0, 32));
        Due.is("slip 2", 2, x.mark(11, 1, 35));
        Due.is("slip 3", 3, x.mark(11, 2, 14));
        Due.is("slip 4", 4, x.mark(11, 2, 12));
        Due.is("slip 5", 5, x.mark(11, 2, 31));
        Due.is("none", -9, x.mark(11, 2, 1000));
        Due.is("below 0", -9, x.mark(11, 2, -9));
        Due.is("MIN", -9, x.mark(11, 2, MIN));
        Due.is("MAX", -9, x.mark(11, 2, MAX));
        Due.is("missed(11, 0)", 2, x.missed(11, 0));
        Due.is("missed(11, 1)", 7, x.missed(11, 1));
        Due.is("the others missed nothing", 0, x.missed(0, -9) + x.missed(1, -9) + x.missed(10, -9));
        Due.is("right", 1, x.total(3));
        Due.is("not right", 9, x.total(4));
        x.base(5);
        // Seat 0 has sheet 5 now: 38 + 0, 38 + 1.
        Due.is("the base's sheet is marked", 0, x.mark(0, 1, 39));
        Due.is("one less than 38", 4, x.mark(0, 0, 37));
    }

    private static void markRefusals() {
        ClassSheets x = withKinds(2);
        for (int seat : new int[] {-1, 1, 10, MIN, MAX}) {
            Due.is("mark(" + seat + ", 0, 1)", -1, x.mark(seat, 0, 1));
        }
        for (int place : new int[] {-1, 2, 40, MIN, MAX}) {
            Due.is("mark(0, " + place + ", 1)", -1, x.mark(0, place, 1));
        }
        x.range(1, 2, 500, 500);
        Due.is("a kind of the plan has none", -3, x.mark(0, 0, 1));
        Due.is("UNKNOWN comes ahead of STATE: seat", -1, x.mark(1, 0, 1));
        Due.is("UNKNOWN comes ahead of STATE: place", -1, x.mark(0, 2, 1));
        Due.is("no marks", 0, x.total(3) + x.total(4));
        Due.is("nothing missed", 0, x.missed(0, -9));
    }

    private static void missed() {
        ClassSheets x = withKinds(3);
        x.seats(2, 3);
        miss(x, 12, 1, 0, 4);
        miss(x, 2, 0, 2, 0);
        Due.is("missed(12, 0)", 1, x.missed(12, 0));
        Due.is("missed(12, 1)", 0, x.missed(12, 1));
        Due.is("missed(12, 2)", 4, x.missed(12, 2));
        Due.is("missed(12, NONE)", 5, x.missed(12, -9));
        Due.is("missed(2, 1)", 2, x.missed(2, 1));
        Due.is("missed(2, NONE)", 2, x.missed(2, -9));
        for (int kind : new int[] {3, 8, -1, -2, -8, -10, MIN, MAX}) {
            Due.is("missed(12, " + kind + ")", -1, x.missed(12, kind));
        }
        for (int seat : new int[] {3, 20, -1, -9, MIN, MAX}) {
            Due.is("missed(" + seat + ", 0)", -1, x.missed(seat, 0));
            Due.is("missed(" + seat + ", NONE)", -1, x.missed(seat, -9));
        }
        x.clear();
        Due.is("the plan's clearing changes nothing", 5, x.missed(12, -9));
        everySeatForItself();
    }

    private static void everySeatForItself() {
        ClassSheets x = withKinds(8);
        x.seats(8, 8);
        for (int seat = 0; seat < 64; seat++) {
            x.mark(seat / 8 * 10 + seat % 8, 7, 7777);
            x.mark(seat / 8 * 10 + seat % 8, seat / 8, 7777);
        }
        for (int seat = 0; seat < 64; seat++) {
            int child = seat / 8 * 10 + seat % 8;
            for (int k : new int[] {seat / 8, (seat + 1) % 8, 7}) {
                int due = (k == 7 ? 1 : 0) + (k == seat / 8 ? 1 : 0);
                Due.is("missed(" + child + ", " + k + ")", due, x.missed(child, k));
            }
            Due.is("missed(" + child + ", NONE)", 2, x.missed(child, -9));
        }
        Due.is("review of the last child", 3, x.review(77, 3, 7));
        Due.is("review of the last child", 0, x.review(77, 3, 0));
    }

    private static void shares(int n, int[] times, int... due) {
        ClassSheets x = withKinds(times.length);
        miss(x, 0, times);
        for (int k = 0; k < due.length; k++) {
            Due.is("review(0, " + n + ", " + k + ") of " + java.util.Arrays.toString(times), due[k], x.review(0, n, k));
        }
    }

    private static void review() {
        shares(10, new int[] {1, 1, 3}, 2, 2, 6);
        shares(7, new int[] {2, 2, 1}, 3, 3, 1);
        shares(1, new int[] {1, 1, 1}, 1, 0, 0);
        shares(2, new int[] {1, 1, 1}, 1, 1, 0);
        shares(1, new int[] {1, 2, 1}, 0, 1, 0);
        shares(1, new int[] {0, 1, 1}, 0, 1, 0);
        shares(5, new int[] {0, 0, 1}, 0, 0, 5);
        shares(60, new int[] {1, 0, 0}, 60, 0, 0);
        shares(60, new int[] {1, 6}, 9, 51);
        shares(4, new int[] {5, 3, 1}, 2, 1, 1);
        shares(3, new int[] {1, 1, 1, 1, 1, 1, 1, 1}, 1, 1, 1, 0, 0, 0, 0, 0);
        shares(1, new int[] {1, 1, 1, 1, 1, 1, 1, 2}, 0, 0, 0, 0, 0, 0, 0, 1);
        shares(4, new int[] {3, 0, 3, 1}, 2, 0, 2, 0);
    }

    private static void reviewAddsUp() {
        for (int n = 1; n <= 60; n++) {
            ClassSheets x = withKinds(8);
            miss(x, 0, 3, 0, 7, 1, 1, 4, 0, 2);
            int sum = 0;
            for (int k = 0; k < 8; k++) {
                sum += x.review(0, n, k);
            }
            Due.is("all places of a review of " + n, n, sum);
            Due.is("nothing for what was not missed, of " + n, 0, x.review(0, n, 1) + x.review(0, n, 6));
        }
    }

    private static void reviewRefusals() {
        ClassSheets x = withKinds(2);
        x.seats(1, 2);
        Due.is("it missed nothing", -3, x.review(0, 1, 0));
        Due.is("BAD comes ahead of STATE", -2, x.review(0, 0, 0));
        Due.is("BAD comes ahead of STATE", -2, x.review(0, 61, 0));
        miss(x, 1, 1, 1);
        Due.is("another child missed nothing", -3, x.review(0, 1, 0));
        for (int n : new int[] {0, 61, -1, MIN, MAX}) {
            Due.is("review(1, " + n + ", 0)", -2, x.review(1, n, 0));
            Due.is("UNKNOWN comes ahead of BAD: seat", -1, x.review(2, n, 0));
            Due.is("UNKNOWN comes ahead of BAD: kind", -1, x.review(1, n, 2));
        }
        for (int kind : new int[] {2, -1, -9, MIN, MAX}) {
            Due.is("review(1, 1, " + kind + ")", -1, x.review(1, 1, kind));
        }
        for (int seat : new int[] {2, 10, -1, MIN, MAX}) {
            Due.is("review(" + seat + ", 1, 0)", -1, x.review(seat, 1, 0));
        }
    }

    private static void all() {
        ClassSheets x = withKinds(3);
        x.seats(8, 8);
        miss(x, 0, 1, 0, 2);
        miss(x, 7, 3, 0, 0);
        miss(x, 77, 1, 0, 5);
        Due.is("all(0)", 5, x.all(0));
        Due.is("all(1)", 0, x.all(1));
        Due.is("all(2)", 7, x.all(2));
        for (int kind : new int[] {3, -1, -9, MIN, MAX}) {
            Due.is("all(" + kind + ")", -1, x.all(kind));
        }
    }

    private static void total() {
        ClassSheets x = withKinds(3);
        x.plan(1, 4);
        x.seats(4, 7);
        x.mark(0, 0, 1);
        x.mark(0, 1, 2);
        miss(x, 36, 0, 5, 0);
        int[] due = {3, 7, 28, 2, 5};
        for (int what = 0; what < 5; what++) {
            Due.is("total(" + what + ")", due[what], x.total(what));
        }
        for (int what : new int[] {-1, 5, MIN, MAX}) {
            Due.is("total(" + what + ")", -2, x.total(what));
        }
    }
}
