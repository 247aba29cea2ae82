/** Promises 16 to 20: sheets, answers, codes, what sheets share. */
public final class SheetsTest {
    private static final int MIN = Integer.MIN_VALUE, MAX = Integer.MAX_VALUE;
    private static final int[] NO_SHEETS = {-1, 10000, MIN, MAX};

    public static void main(String[] args) {
        sheet();
        answer();
        code();
        shared();
        eightKinds();
        oneVariant();
        apart();
        apartByLooking();
        emptyPlan();
        refusals();
        noVariants();
        Due.end();
    }

    /** Plus 0 .. 9 and times 0 .. 9, in the order 0 0 1 0 1. */
    private static ClassSheets mixed() {
        ClassSheets x = new ClassSheets();
        x.kind(0);
        x.kind(2);
        mixedPlaces(x);
        return x;
    }

    private static void mixedPlaces(ClassSheets x) {
        x.plan(0, 2);
        x.plan(1, 1);
        x.plan(0, 1);
        x.plan(1, 1);
    }

    private static void sheet() {
        ClassSheets x = mixed();
        int[] first = {0, 1, 0, 2, 1};
        int[] second = {3, 4, 2, 5, 3};
        int[] last = {97, 98, 98, 99, 99};
        for (int p = 0; p < 5; p++) {
            Due.is("sheet(0, " + p + ")", first[p], x.sheet(0, p));
            Due.is("sheet(1, " + p + ")", second[p], x.sheet(1, p));
            Due.is("sheet(9999, " + p + ")", last[p], x.sheet(9999, p));
        }
        x.rule(1, 2, 9999);
        Due.is("BEGIN, modulo", 99, x.sheet(0, 2));
        Due.is("BEGIN, modulo", 0, x.sheet(0, 4));
        Due.is("BEGIN of another kind", 1, x.sheet(0, 1));
        x.plan(0, 1);
        Due.is("a place more is a step more", 4, x.sheet(1, 0));
        x.range(0, 0, 0, 0);
        x.range(0, 1, 0, 2);
        Due.is("three variants for four places", 0, x.sheet(0, 5));
        Due.is("three variants for four places", 1, x.sheet(1, 0));
    }

    private static void answer() {
        ClassSheets x = mixed();
        // Sheet 7: plus 21, 22, 23; times 14, 15.
        int[] due = {2 + 1, 2 + 2, 1 * 4, 2 + 3, 1 * 5};
        for (int p = 0; p < 5; p++) {
            Due.is("answer(7, " + p + ")", due[p], x.answer(7, p));
        }
        Due.is("answer(49, 2): 9 times 8", 72, x.answer(49, 2));
        Due.is("answer(49, 4): 9 times 9", 81, x.answer(49, 4));
        x.kind(3);
        x.kind(1);
        x.clear();
        x.plan(2, 1);
        x.plan(3, 1);
        Due.is("answer(31, 0): 9 by 9", 1, x.answer(31, 0));
        Due.is("answer(29, 0): 9 by 1", 9, x.answer(29, 0));
        Due.is("answer(54, 1): 9 minus 9", 0, x.answer(54, 1));
        Due.is("answer(45, 1): 9 minus 0", 9, x.answer(45, 1));
    }

    private static void code() {
        ClassSheets x = mixed();
        Due.is("code(7)", 3 + 2 * 4 + 3 * 4 + 4 * 5 + 5 * 5, x.code(7));
        // Sheet 49: plus 47, 48, 49 (11, 12, 13); times 98, 99 (72, 81).
        Due.is("code(49)", (11 + 2 * 12 + 3 * 72 + 4 * 13 + 5 * 81) % 97, x.code(49));
        ClassSheets y = new ClassSheets();
        y.kind(2);
        y.range(0, 0, 99, 99);
        y.range(0, 1, 99, 99);
        y.plan(0, 40);
        Due.is("forty times 9801", 9801 * 820 % 97, y.code(0));
    }

    private static void shared() {
        ClassSheets x = mixed();
        Due.is("with itself", 5, x.shared(3, 3));
        Due.is("with the next", 0, x.shared(3, 4));
        Due.is("once round times", 2, x.shared(0, 50));
        Due.is("plus 99, 100 to 1: its places 1 and 2 are in 0 .. 2", 2, x.shared(33, 0));
        Due.is("and the other way", 2, x.shared(0, 33));
        Due.is("plus 102 to 104: its place 0 is in 0 .. 2", 1, x.shared(34, 0));
        Due.is("both go round", 5, x.shared(0, 100));
        ClassSheets y = new ClassSheets();
        y.kind(0);
        y.range(0, 0, 0, 0);
        y.plan(0, 7);
        Due.is("seven of ten: 0 .. 6 and 7 .. 3", 4, y.shared(0, 1));
        y.range(0, 1, 0, 4);
        Due.is("seven of five: each place counted once", 7, y.shared(0, 1));
        y.range(0, 1, 0, 0);
        Due.is("seven of one", 7, y.shared(9999, 0));
        y.kind(0);
        y.range(1, 0, 0, 0);
        y.range(1, 1, 0, 0);
        y.rule(1, 2, 5);
        y.clear();
        y.range(0, 1, 0, 9);
        y.plan(0, 1);
        y.plan(1, 1);
        Due.is("another kind's variant 0 is not what is shared", 1, y.shared(0, 1));
        y.kind(0);
        y.range(2, 2, 1000, 2000);
        Due.is("a kind without variants that is not planned", 1, y.shared(0, 1));
    }

    private static void eightKinds() {
        ClassSheets x = new ClassSheets();
        for (int k = 0; k < 8; k++) {
            x.kind(0);
            x.range(k, 0, 0, 0);
            x.plan(k, 5);
        }
        Due.is("all of eight kinds", 40, x.shared(3, 5));
        Due.is("none of eight kinds", 0, x.shared(3, 4));
        Due.is("apart of eight kinds", 1, x.apart(0));
        x.range(7, 1, 0, 8);
        Due.is("the last kind has too few", -9, x.apart(0));
    }

    private static void oneVariant() {
        ClassSheets x = new ClassSheets();
        x.kind(2);
        x.range(0, 0, 7, 7);
        x.range(0, 1, 8, 8);
        x.plan(0, 2);
        Due.is("the only variant", 0, x.sheet(9999, 1));
        Due.is("the only answer", 56, x.answer(9999, 1));
    }

    private static void apart() {
        ClassSheets x = mixed();
        Due.is("apart(0)", 1, x.apart(0));
        Due.is("apart(9998)", 9999, x.apart(9998));
        Due.is("apart(9999)", -9, x.apart(9999));
        ClassSheets y = new ClassSheets();
        y.kind(0);
        y.range(0, 0, 0, 0);
        y.plan(0, 5);
        Due.is("ten for five places", 18, y.apart(17));
        y.rule(0, 2, 7);
        Due.is("ten for five places, from 7", 18, y.apart(17));
        y.range(0, 1, 0, 8);
        Due.is("nine for five places", -9, y.apart(17));
        y.kind(0);
        Due.is("a kind that is not planned does not count", -9, y.apart(0));
        y.clear();
        y.plan(1, 40);
        Due.is("a hundred for forty places", 1, y.apart(0));
    }

    private static void apartByLooking() {
        for (int variants = 1; variants <= 10; variants++) {
            for (int places = 1; places <= 11; places++) {
                ClassSheets x = new ClassSheets();
                x.kind(0);
                x.range(0, 0, 0, 0);
                x.range(0, 1, 0, variants - 1);
                x.plan(0, places);
                int due = -9;
                for (int y = 9999; y > 9900; y--) {
                    due = x.shared(9900, y) == 0 ? y : due;
                }
                Due.is("apart(9900) of " + places + " in " + variants, due, x.apart(9900));
            }
        }
    }

    private static void emptyPlan() {
        ClassSheets x = new ClassSheets();
        Due.is("code of an empty sheet", 0, x.code(5));
        Due.is("empty sheets share nothing", 0, x.shared(5, 5));
        Due.is("apart of an empty sheet", 6, x.apart(5));
        Due.is("apart of the last empty sheet", -9, x.apart(9999));
        Due.is("sheet(0, 0)", -1, x.sheet(0, 0));
        Due.is("answer(0, 0)", -1, x.answer(0, 0));
    }

    private static void refusals() {
        ClassSheets x = mixed();
        for (int p : new int[] {-1, 5, MIN, MAX}) {
            Due.is("sheet(0, " + p + ")", -1, x.sheet(0, p));
            Due.is("answer(0, " + p + ")", -1, x.answer(0, p));
            Due.is("UNKNOWN comes ahead of BAD: sheet(-1, " + p + ")", -1, x.sheet(-1, p));
            Due.is("UNKNOWN comes ahead of BAD: answer(-1, " + p + ")", -1, x.answer(-1, p));
        }
        for (int z : NO_SHEETS) {
            Due.is("sheet(" + z + ", 0)", -2, x.sheet(z, 0));
            Due.is("answer(" + z + ", 0)", -2, x.answer(z, 0));
            Due.is("code(" + z + ")", -2, x.code(z));
            Due.is("shared(0, " + z + ")", -2, x.shared(0, z));
            Due.is("shared(" + z + ", 0)", -2, x.shared(z, 0));
            Due.is("apart(" + z + ")", -2, x.apart(z));
        }
    }

    private static void noVariants() {
        ClassSheets x = mixed();
        x.kind(0);
        x.range(2, 2, 1000, 2000);
        Due.is("a kind without variants that is not planned", 0, x.sheet(0, 0));
        x.plan(2, 1);
        Due.is("sheet(0, 0)", -3, x.sheet(0, 0));
        Due.is("sheet(0, 5)", -3, x.sheet(0, 5));
        Due.is("answer(0, 0)", -3, x.answer(0, 0));
        Due.is("code(0)", -3, x.code(0));
        Due.is("shared(0, 1)", -3, x.shared(0, 1));
        Due.is("apart(0)", -3, x.apart(0));
        Due.is("apart(9999)", -3, x.apart(9999));
        Due.is("mark(0, 0, 0)", -3, x.mark(0, 0, 0));
        for (int z : NO_SHEETS) {
            Due.is("BAD comes ahead of STATE: sheet(" + z + ", 0)", -2, x.sheet(z, 0));
            Due.is("BAD comes ahead of STATE: answer(" + z + ", 0)", -2, x.answer(z, 0));
            Due.is("BAD comes ahead of STATE: code(" + z + ")", -2, x.code(z));
            Due.is("BAD comes ahead of STATE: shared(0, " + z + ")", -2, x.shared(0, z));
            Due.is("BAD comes ahead of STATE: apart(" + z + ")", -2, x.apart(z));
        }
        Due.is("UNKNOWN comes ahead of STATE: sheet(0, 6)", -1, x.sheet(0, 6));
        Due.is("a page needs no sheet", 5, x.page(5, true));
        x.range(0, 2, 1000, 2000);
        x.range(2, 2, 0, 5);
        Due.is("now the first kind has none", -3, x.sheet(0, 5));
        x.clear();
        x.plan(0, 1);
        x.plan(1, 1);
        Due.is("the first place's kind alone has none", -3, x.sheet(0, 1));
        x.range(0, 2, 0, 5);
        x.clear();
        mixedPlaces(x);
        x.plan(2, 1);
        Due.is("variants again, sheets again", 0, x.sheet(0, 5));
    }
}
