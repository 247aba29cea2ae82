import java.lang.reflect.Method;

/**
 * Every call with edges of the document, what lies one beyond them and the ends of all ints, for each of
 * its parameters, in a new object, in one of middle size and in a full one: none may throw, and
 * each answer is PlainModel's.
 */
public final class SweepTest {
    private static final int MIN = Integer.MIN_VALUE, MAX = Integer.MAX_VALUE;
    private static final int[] EDGES = {MIN, -10, -9, -1, 0, 1, 3, 4, 5, 7, 8, 9, 10, 39, 40, 41, 60, 61, 77, 78, 80,
        99, 100, 9000, 9001, 9999, 10000, MAX};
    /** Of calls with four parameters there would be too many otherwise. */
    private static final int[] FEW_EDGES = {MIN, -1, 0, 1, 2, 3, 7, 8, 99, 100, 9999, 10000, MAX};
    /** On each object so many calls of the sweep: it is prepared anew before its state wanders far. */
    private static final int ON_ONE = 100;

    private static final Object[][] NEW = {};
    private static final Object[][] MIDDLE = {{"kind", 0}, {"kind", 1}, {"rule", 1, 0, 2}, {"range", 1, 0, 20, 60},
        {"range", 0, 0, 0, 2}, {"plan", 0, 4}, {"plan", 1, 3}, {"rule", 1, 1, 7}, {"seats", 2, 3}, {"lines", 9},
        {"mark", 0, 0, 99}, {"mark", 0, 4, 99}, {"mark", 0, 4, 3}, {"mark", 1, 0, 99}};
    private static final Object[][] FULL = {{"kind", 3}, {"kind", 2}, {"kind", 1}, {"kind", 0}, {"kind", 0},
        {"kind", 1}, {"kind", 2}, {"kind", 3}, {"plan", 0, 5}, {"plan", 7, 20}, {"plan", 1, 10}, {"plan", 7, 5},
        {"seats", 8, 8}, {"base", 9000}, {"lines", 99}, {"rule", 7, 1, 9}, {"rule", 7, 2, 9999}, {"mark", 77, 39, 9999},
        {"mark", 77, 0, 9999}, {"mark", 0, 0, 9999}, {"mark", 0, 0, 9999}};

    private static Both both;

    public static void main(String[] args) throws ReflectiveOperationException {
        for (Method call : Both.calls()) {
            sweep("new", NEW, call);
            sweep("middle", MIDDLE, call);
            sweep("full", FULL, call);
        }
        Due.end();
    }

    private static void sweep(String state, Object[][] before, Method call) throws ReflectiveOperationException {
        prepare(state, before);
        sweep(state, before, call, new Object[call.getParameterCount()], 0);
    }

    private static void prepare(String state, Object[][] before) throws ReflectiveOperationException {
        both = new Both("sweep of " + state);
        for (Object[] row : before) {
            both.make(Both.named((String) row[0]), java.util.Arrays.copyOfRange(row, 1, row.length));
        }
    }

    /** The parameters ahead of at are set. */
    private static void sweep(String state, Object[][] before, Method call, Object[] with, int at)
        throws ReflectiveOperationException {
        if (at == with.length) {
            if (both.callsMade() >= before.length + ON_ONE) {
                prepare(state, before);
            }
            both.make(call, with);
            return;
        }
        if (call.getParameterTypes()[at] == boolean.class) {
            for (boolean line : new boolean[] {false, true}) {
                with[at] = line;
                sweep(state, before, call, with, at + 1);
            }
            return;
        }
        for (int edge : with.length == 4 ? FEW_EDGES : EDGES) {
            with[at] = edge;
            sweep(state, before, call, with, at + 1);
        }
    }
}
