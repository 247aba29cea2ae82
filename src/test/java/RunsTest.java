import java.lang.reflect.Method;
import java.util.ArrayList;
import java.util.Arrays;
import java.util.List;

/** Runs of 512 calls on new objects, each answer held against PlainModel's. */
public final class RunsTest {
    private static final int RUNS = 300;
    /** Calls of the state-changing kind come this much oftener at the start of a run. */
    private static final int OPENING = 40;
    private static final String[] OPENERS = {"kind", "kind", "range", "rule", "plan", "seats", "base", "lines"};

    private static long seed = 20261116;

    public static void main(String[] args) throws ReflectiveOperationException {
        for (int run = 0; run < RUNS; run++) {
            oneRun(run, Both.calls());
        }
        Due.end();
    }

    private static void oneRun(int run, Method[] calls) throws ReflectiveOperationException {
        Both both = new Both("run " + run);
        boolean small = run % 2 == 0;
        while (both.callsMade() < Both.MOST_CALLS) {
            Method call = calls[pick(0, calls.length - 1)];
            if (both.callsMade() < OPENING || pick(0, 3) == 0 && call.getName().equals("clear")) {
                call = Both.named(OPENERS[pick(0, OPENERS.length - 1)]);
            } else if (pick(0, 2) == 0) {
                call = Both.named("mark");
            }
            both.make(call, arguments(call, both.model, small));
        }
    }

    private static Object[] arguments(Method call, PlainModel model, boolean small) {
        List<Object> with = new ArrayList<>();
        int kind = odd(0, Math.max(0, model.total(0) - 1));
        int place = odd(0, Math.max(0, model.total(1) - 1));
        int seat = pick(0, 9) == 0 ? odd(0, 99) : 10 * pick(0, 1) + pick(0, 1);
        int variants = Math.max(1, model.variants(kind));
        switch (call.getName()) {
            case "kind": with.add(odd(0, 3)); break;
            case "range": addRange(with, kind, small); break;
            case "rule": addRule(with, kind); break;
            case "variants": case "all": with.add(kind); break;
            case "variant": addAll(with, kind, odd(0, variants - 1), odd(0, 3)); break;
            case "find": addAll(with, kind, odd(0, small ? 12 : 99), odd(0, small ? 12 : 99)); break;
            case "slip": addAll(with, kind, odd(0, variants - 1), odd(1, 5)); break;
            case "tells": addTells(with, kind, odd(0, variants - 1), model); break;
            case "plan": addAll(with, kind, pick(0, 5) == 0 ? odd(1, 40) : odd(1, 5)); break;
            case "placed": with.add(place); break;
            case "lines": with.add(odd(9, 99)); break;
            case "page": addAll(with, place, pick(0, 1) == 0); break;
            case "sheet": case "answer": addAll(with, sheet(), place); break;
            case "code": case "apart": with.add(sheet()); break;
            case "shared": addAll(with, sheet(), pick(0, 1) == 0 ? odd(0, 12) : sheet()); break;
            case "seats": addAll(with, odd(1, 8), odd(1, 8)); break;
            case "base": with.add(pick(0, 1) == 0 ? odd(0, 9000) : odd(0, 9)); break;
            case "seat": with.add(odd(0, 79)); break;
            case "mark": addAll(with, seat, place, markAnswer(model, seat, place)); break;
            case "missed": addAll(with, seat, pick(0, 3) == 0 ? -9 : kind); break;
            case "review": addAll(with, seat, odd(1, 60), kind); break;
            case "total": with.add(odd(0, 4)); break;
            default: break;
        }
        return with.toArray();
    }

    private static void addAll(List<Object> with, Object... values) {
        with.addAll(Arrays.asList(values));
    }

    private static void addRange(List<Object> with, int kind, boolean small) {
        int what = odd(0, 2);
        int most = what == 2 ? (pick(0, 1) == 0 ? 9999 : 200) : small ? 12 : 99;
        int one = odd(0, most);
        int other = odd(0, most);
        boolean turned = pick(0, 9) == 0;
        addAll(with, kind, what, turned ? one : Math.min(one, other), turned ? other : Math.max(one, other));
    }

    private static void addRule(List<Object> with, int kind) {
        int what = odd(0, 2);
        int v = what == 0 ? odd(0, 3) : what == 1 ? odd(1, 9) : odd(0, 9999);
        addAll(with, kind, what, v);
    }

    private static void addTells(List<Object> with, int kind, int i, PlainModel model) {
        int near = pick(0, 1) == 0 ? model.slip(kind, i, pick(1, 5)) : model.variant(kind, i, 2) + pick(-2, 2);
        addAll(with, kind, i, pick(0, 4) == 0 ? odd(-10, 9999) : near);
    }

    private static int markAnswer(PlainModel model, int seat, int place) {
        int z = model.seat(seat);
        int kind = model.placed(place);
        int how = pick(0, 3);
        if (how == 0) {
            return model.answer(z, place);
        }
        return how == 1 ? odd(-10, 9999) : model.slip(kind, model.sheet(z, place), pick(1, 5));
    }

    private static int sheet() {
        return pick(0, 1) == 0 ? odd(0, 9999) : odd(0, 9);
    }

    /** Mostly from .. to; now and then an edge of it, one beyond, or the ends of all ints. */
    private static int odd(int from, int to) {
        switch (pick(0, 29)) {
            case 0: return from - 1;
            case 1: return to + 1;
            case 2: return from;
            case 3: return to;
            case 4: return pick(0, 1) == 0 ? Integer.MIN_VALUE : Integer.MAX_VALUE;
            default: return pick(from, to);
        }
    }

    private static int pick(int from, int to) {
        seed = seed * 6364136223846793005L + 1442695040888963407L;
        return from + (int) Long.remainderUnsigned(seed >>> 33, (long) to - from + 1);
    }
}
