import java.lang.reflect.InvocationTargetException;
import java.lang.reflect.Method;
import java.util.ArrayList;
import java.util.Arrays;
import java.util.List;
import java.util.regex.Matcher;
import java.util.regex.Pattern;

/**
 * One sentence of the document that names an edge, with a run of calls on a new object that goes
 * wrong if the sentence is broken. The calls are written "kind(0)=0", "7*kind(0)" (seven times),
 * "range(0,0,MIN,MAX)=BAD"; one without a due answer prepares, and must not be refused.
 *
 * What is refused changes nothing: so behind each run a twin, which was spared the refused calls,
 * has to be found in the same state.
 */
final class Edge {
    private static final int MOST_CALLS = 512;
    private static final Pattern CALL = Pattern.compile("(?:(\\d+)\\*)?(\\w+)\\(([^)]*)\\)(?:=(-?\\w+))?");

    private final String sentence;
    private final ClassSheets told = new ClassSheets();
    private final ClassSheets spared = new ClassSheets();
    private int calls = 0;
    private boolean refused = false;

    private Edge(String sentence) {
        this.sentence = sentence;
    }

    static void holds(String sentence, String calls) {
        Edge edge = new Edge(sentence);
        Matcher call = CALL.matcher(calls);
        int end = 0;
        while (call.find()) {
            edge.misread(calls.substring(end, call.start()));
            end = call.end();
            int times = call.group(1) == null ? 1 : Integer.parseInt(call.group(1));
            for (int n = 0; n < times; n++) {
                edge.make(call.group(2), arguments(call.group(3)), call.group(4));
            }
        }
        edge.misread(calls.substring(end));
        if (edge.refused) {
            edge.compareTwins();
        }
        Due.holds(sentence + ": 1 to 512 calls, but there are " + edge.calls,
            edge.calls >= 1 && edge.calls <= MOST_CALLS);
    }

    /**
     * One call at the ends of what it takes: # in it stands for each of the values that are taken,
     * then for each of those that are refused.
     */
    static void ends(String sentence, String before, String call, String taken, String refused, String due) {
        StringBuilder calls = new StringBuilder(before);
        for (String value : taken.split(" ")) {
            calls.append(' ').append(call.replace("#", value));
        }
        for (String value : refused.split(" ")) {
            calls.append(' ').append(call.replace("#", value)).append('=').append(due);
        }
        holds(sentence + ": " + call, calls.toString());
    }

    /** A call that was mistyped must not go by as if it were a gap. */
    private void misread(String gap) {
        if (!gap.isBlank()) {
            throw new IllegalArgumentException(sentence + ": can't read " + gap);
        }
    }

    private void make(String name, Object[] with, String due) {
        calls++;
        String row = sentence + ": call " + calls + ", " + name + Arrays.toString(with);
        int got = answer(told, name, with);
        if (due == null) {
            Due.holds(row + " is not refused, but answered " + got, !isRefusal(got));
        } else {
            Due.is(row, number(due), got);
        }
        if (due != null && isRefusal(number(due))) {
            refused = true;
        } else {
            answer(spared, name, with);
        }
    }

    private static boolean isRefusal(int answer) {
        return answer >= ClassSheets.FULL && answer <= ClassSheets.UNKNOWN;
    }

    private void compareTwins() {
        List<String> wanted = state(spared);
        List<String> found = state(told);
        calls += found.size();
        for (int row = 0; row < Math.max(wanted.size(), found.size()); row++) {
            String want = row < wanted.size() ? wanted.get(row) : "nothing";
            String got = row < found.size() ? found.get(row) : "nothing";
            Due.holds(sentence + ": what is refused changes nothing: behind it " + got + ", without it " + want,
                got.equals(want));
        }
    }

    /** All that can be seen of an object; its laws, lines and base are seen by setting them. */
    private static List<String> state(ClassSheets x) {
        List<String> rows = new ArrayList<>();
        int kinds = see(rows, x, "total", 0);
        int places = see(rows, x, "total", 1);
        for (int what = 2; what <= 4; what++) {
            see(rows, x, "total", what);
        }
        seeClass(rows, x);
        seePlan(rows, x, places);
        for (int k = 0; k < kinds; k++) {
            seeKind(rows, x, k);
        }
        see(rows, x, "clear");
        see(rows, x, "lines", 20);
        see(rows, x, "base", 0);
        see(rows, x, "seats", 1, 1);
        return rows;
    }

    private static void seeClass(List<String> rows, ClassSheets x) {
        int columns = 0;
        while (columns < 10 && see(rows, x, "seat", columns) >= 0) {
            columns++;
        }
        for (int row = 0; row < 10 && see(rows, x, "seat", 10 * row) >= 0; row++) {
            for (int column = 0; column < columns; column++) {
                see(rows, x, "missed", 10 * row + column, ClassSheets.NONE);
            }
        }
    }

    private static void seePlan(List<String> rows, ClassSheets x, int places) {
        for (int place = 0; place <= places; place++) {
            see(rows, x, "placed", place);
            see(rows, x, "page", place, false);
            see(rows, x, "page", place, true);
            see(rows, x, "sheet", 1, place);
        }
        see(rows, x, "pages");
        see(rows, x, "code", 9999);
    }

    private static void seeKind(List<String> rows, ClassSheets x, int k) {
        int last = see(rows, x, "variants", k) - 1;
        see(rows, x, "all", k);
        for (int what = 0; what <= 2; what++) {
            see(rows, x, "variant", k, 0, what);
            see(rows, x, "variant", k, last, what);
        }
        for (int what = 0; what <= 2; what++) {
            see(rows, x, "rule", k, what, what == 1 ? 1 : 0);
        }
        see(rows, x, "range", k, 2, 0, 9999);
        see(rows, x, "range", k, 0, 0, 99);
        see(rows, x, "range", k, 1, 0, 99);
    }

    private static int see(List<String> rows, ClassSheets x, String name, Object... with) {
        int answer = answer(x, name, with);
        rows.add(name + Arrays.toString(with) + " is " + answer);
        return answer;
    }

    private static int answer(ClassSheets x, String name, Object... with) {
        try {
            return (Integer) method(name).invoke(x, with);
        } catch (InvocationTargetException thrown) {
            Due.holds(name + Arrays.toString(with) + " throws " + thrown.getCause(), false);
            return Integer.MIN_VALUE;
        } catch (IllegalAccessException hidden) {
            throw new IllegalStateException(hidden);
        }
    }

    private static Method method(String name) {
        for (Method method : ClassSheets.class.getMethods()) {
            if (method.getName().equals(name) && method.getDeclaringClass() == ClassSheets.class) {
                return method;
            }
        }
        throw new IllegalArgumentException("no call " + name);
    }

    private static Object[] arguments(String text) {
        List<Object> with = new ArrayList<>();
        for (String one : text.isBlank() ? new String[0] : text.split(",")) {
            String word = one.strip();
            boolean truth = word.equals("true") || word.equals("false");
            with.add(truth ? (Object) Boolean.valueOf(word) : (Object) number(word));
        }
        return with.toArray();
    }

    private static Integer number(String word) {
        switch (word) {
            case "UNKNOWN": return -1;
            case "BAD": return -2;
            case "STATE": return -3;
            case "FULL": return -4;
            case "NONE": return -9;
            case "MIN": return Integer.MIN_VALUE;
            case "MAX": return Integer.MAX_VALUE;
            default: return Integer.valueOf(word);
        }
    }
}
