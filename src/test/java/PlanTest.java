/** Promises 10 to 15: the plan and its pages. */
public final class PlanTest {
    private static final int MIN = Integer.MIN_VALUE, MAX = Integer.MAX_VALUE;

    public static void main(String[] args) {
        plan();
        clear();
        placed();
        lines();
        pages();
        page();
        Due.end();
    }

    private static ClassSheets withKinds(int n) {
        ClassSheets x = new ClassSheets();
        for (int k = 0; k < n; k++) {
            x.kind(0);
        }
        return x;
    }

    private static void plan() {
        ClassSheets x = withKinds(2);
        Due.is("plan(2, 0): UNKNOWN comes first", -1, x.plan(2, 0));
        Due.is("plan(-1, 1)", -1, x.plan(-1, 1));
        Due.is("plan(0, 0)", -2, x.plan(0, 0));
        Due.is("plan(0, -1)", -2, x.plan(0, -1));
        Due.is("plan(0, 41)", -2, x.plan(0, 41));
        Due.is("plan(0, MIN)", -2, x.plan(0, MIN));
        Due.is("plan(0, MAX)", -2, x.plan(0, MAX));
        Due.is("places after refusals", 0, x.total(1));
        Due.is("plan(0, 1)", 1, x.plan(0, 1));
        Due.is("plan(0, 40)", -4, x.plan(0, 40));
        Due.is("plan(1, 38)", 39, x.plan(1, 38));
        Due.is("plan(0, 2)", -4, x.plan(0, 2));
        Due.is("BAD comes ahead of FULL", -2, x.plan(0, 41));
        Due.is("plan(0, 1)", 40, x.plan(0, 1));
        Due.is("plan(1, 1)", -4, x.plan(1, 1));
        Due.is("places", 40, x.total(1));
        Due.is("a refused plan gives a kind no places", 2, x.sheet(1, 0));
        Due.is("plan(0, 40) at once", 40, planAtOnce());
        Due.is("a kind without variants may be planned", 3, planOfNothing());
    }

    private static int planAtOnce() {
        return withKinds(1).plan(0, 40);
    }

    private static int planOfNothing() {
        ClassSheets x = withKinds(1);
        Due.is("no variants", 0, x.range(0, 2, 500, 600));
        return x.plan(0, 3);
    }

    private static void clear() {
        ClassSheets x = withKinds(2);
        x.plan(0, 3);
        x.plan(1, 4);
        Due.is("clear()", 7, x.clear());
        Due.is("clear() again", 0, x.clear());
        Due.is("places", 0, x.total(1));
        Due.is("kinds stay", 2, x.total(0));
        Due.is("placed(0)", -1, x.placed(0));
        Due.is("pages()", 0, x.pages());
        Due.is("all 40 are free", 40, x.plan(1, 40));
        x.clear();
        x.plan(0, 2);
        Due.is("places of a kind are counted anew: m", 2, x.sheet(1, 0));
        Due.is("places of a kind are counted anew: j", 1, x.sheet(0, 1));
        ClassSheets full = withKinds(8);
        for (int k = 0; k < 8; k++) {
            full.plan(k, 5);
        }
        Due.is("clear() of eight kinds", 40, full.clear());
        full.plan(7, 2);
        Due.is("the last kind is counted anew", 2, full.sheet(1, 0));
    }

    private static void placed() {
        ClassSheets x = withKinds(3);
        x.plan(2, 2);
        x.plan(0, 1);
        x.plan(2, 1);
        int[] due = {2, 2, 0, 2};
        for (int p = 0; p < due.length; p++) {
            Due.is("placed(" + p + ")", due[p], x.placed(p));
        }
        for (int p : new int[] {-1, 4, 40, MIN, MAX}) {
            Due.is("placed(" + p + ")", -1, x.placed(p));
        }
    }

    private static void lines() {
        ClassSheets x = new ClassSheets();
        for (int n : new int[] {8, 100, 0, -1, MIN, MAX}) {
            Due.is("lines(" + n + ")", -2, x.lines(n));
        }
        Due.is("lines(9)", 20, x.lines(9));
        Due.is("lines(99)", 9, x.lines(99));
        Due.is("lines(20)", 99, x.lines(20));
    }

    private static void pages() {
        ClassSheets x = withKinds(1);
        Due.is("an empty plan", 0, x.pages());
        x.plan(0, 20);
        Due.is("twenty lines", 1, x.pages());
        x.plan(0, 1);
        Due.is("twenty-one lines", 2, x.pages());
        x.plan(0, 19);
        Due.is("forty lines", 2, x.pages());
        x.rule(0, 1, 2);
        Due.is("forty places of two lines", 4, x.pages());
        x.rule(0, 1, 3);
        Due.is("forty places of three lines, six on a page", 7, x.pages());
        x.rule(0, 1, 9);
        x.lines(9);
        Due.is("forty places of nine lines on pages of nine", 40, x.pages());
        x.lines(17);
        Due.is("forty places of nine lines on pages of seventeen", 40, x.pages());
        x.lines(18);
        Due.is("forty places of nine lines on pages of eighteen", 20, x.pages());
        x.lines(99);
        Due.is("forty places of nine lines on pages of ninety-nine", 4, x.pages());
    }

    private static void page() {
        ClassSheets x = withKinds(3);
        Due.is("page(0, false) of an empty plan", -1, x.page(0, false));
        x.rule(0, 1, 4);
        x.rule(1, 1, 7);
        x.lines(10);
        x.plan(0, 2);
        x.plan(2, 3);
        x.plan(1, 1);
        x.plan(2, 1);
        x.plan(0, 1);
        // 4 + 4 + 1 + 1 fill a page; 1 + 7 + 1 leave a line that 4 do not fit on.
        int[] page = {0, 0, 0, 0, 1, 1, 1, 2};
        int[] line = {0, 4, 8, 9, 0, 1, 8, 0};
        for (int p = 0; p < page.length; p++) {
            Due.is("page(" + p + ", false)", page[p], x.page(p, false));
            Due.is("page(" + p + ", true)", line[p], x.page(p, true));
        }
        Due.is("pages()", 3, x.pages());
        for (int p : new int[] {-1, 8, MIN, MAX}) {
            Due.is("page(" + p + ", true)", -1, x.page(p, true));
            Due.is("page(" + p + ", false)", -1, x.page(p, false));
        }
        x.lines(99);
        Due.is("the last line of a long page", 19, x.page(7, true));
        Due.is("the first page", 0, x.page(7, false));
        ClassSheets y = withKinds(1);
        y.rule(0, 1, 9);
        y.plan(0, 40);
        y.lines(9);
        Due.is("the last of forty pages", 39, y.page(39, false));
        Due.is("begins at line", 0, y.page(39, true));
        y.lines(99);
        Due.is("eleven on a page", 90, y.page(10, true));
        Due.is("eleven on a page", 1, y.page(11, false));
    }
}
