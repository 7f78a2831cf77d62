import java.util.ArrayList;
import java.util.List;

/**
 * What is refused, or found, changes nothing but status() (and THE TRACE, by ask()); nor does
 * what is only asked. Each call is made on one of two objects that are alike, then all that can
 * be seen of both is compared.
 */
public final class RefusalsTest {
    private static final int NONE = Edges.NONE, BAD = Edges.BAD;
    private static final int NULL = Edges.NULL, PLACE = Edges.PLACE, KIND = Edges.KIND,
        SIZE = Edges.SIZE, STORE = Edges.STORE;
    private static final int MIN = Edges.MIN, MAX = Edges.MAX;

    private static final int Q = 15625;
    /** Rows 3 and 7 are missing; row 5 has items that no world and no map may have. */
    private static final int[][] ROWS = {{3, 1, 2, 4, 1},
        {101, 102, 103, 104, 105, 106, 107, 108, 109, 110, 111, 112, 113, 114, 115, 116, 117, 118,
            119, 120, 121, 122, 123, 15624},
        {4, 1}, null, {}, {7, Q, 0, 5, -1, 0}, {9}, null};
    private static final int[] LANES = {0, 1, 2, 0, 1, 2, 0, 0};
    /** Places 5 to 9 are empty. */
    private static final int[][] WORLDS = {{7, 1}, {6, 200, 15000}, {0, 0, 1}, {9, 0, 3, 2}, {1, 1}};

    private static final Check CHECK = new Check();

    public static void main(String[] args) throws IllegalAccessException {
        Sentences.run(RefusalsTest.class, CHECK);
        CHECK.end("RefusalsTest");
    }

    /** The trace has 22, 21, 20; status() is as given, 0 or 5. */
    private static TimesByPowers made(int status) {
        TimesByPowers x = new TimesByPowers(5, 6);
        for (int place = 0; place < WORLDS.length; place++) {
            Edges.put(x, place, WORLDS[place]);
        }
        for (int row = 0; row < ROWS.length; row++) {
            if (ROWS[row] != null) {
                x.row(row, LANES[row], ROWS[row].length);
                for (int i = 0; i < ROWS[row].length; i++) {
                    x.set(row, i, ROWS[row][i]);
                }
            }
        }
        x.ask(2, 1);
        if (status == 5) {
            x.copy(0, 0, 1, 0, 1);
        }
        return x;
    }

    /** All that can be seen of an object, but status() and the trace. */
    private static List<Integer> seen(TimesByPowers x) {
        List<Integer> seen = new ArrayList<>();
        for (int what = 0; what <= 7; what++) {
            seen.add(x.count(what));
        }
        for (int place = 0; place < 10; place++) {
            seen.add(x.kind(place));
            for (int what = 0; what <= 4; what++) {
                seen.add(x.told(place, what));
            }
        }
        for (int row = 0; row < 8; row++) {
            int size = ROWS[row] == null ? 0 : ROWS[row].length;
            for (int i = 0; i + 1 < size; i++) {
                seen.add(x.world(9, row, i, 1));
                seen.add(x.told(9, 1));
                seen.add(x.told(9, 2));
            }
        }
        seen.add(x.copy(6, 0, 0, 0, 1));
        seen.add(x.world(9, 0, 0, 1));
        seen.add(x.told(9, 1));
        for (int row = 0; row < 8; row++) {
            seen.add(x.set(row, 0, 70000));
            seen.add(x.drop(row));
        }
        return seen;
    }

    private static void leavesAll(int want, String call, int... a) {
        int[] ahead = {0, 5};
        for (int status : ahead) {
            TimesByPowers x = made(status);
            String text = Calls.text(call, a);
            CHECK.due(text, Calls.of(x, call, a), want);
            CHECK.due(text + " status()", x.status(), statusAfter(status, want, call));
            boolean emptied = call.equals("ask") && want != BAD;
            int[] trace = {22, 21, 20, NONE};
            for (int i = 0; i < trace.length; i++) {
                CHECK.due(text + " trace(" + i + ")", x.trace(i), emptied ? NONE : trace[i]);
            }
            same(text, seen(x), seen(made(status)));
        }
    }

    private static int statusAfter(int ahead, int answer, String call) {
        boolean counts = answer != BAD && !call.equals("clear") && !call.equals("is")
            && !call.equals("field") && !call.equals("trace") && !call.equals("count")
            && !call.equals("status");
        return !counts ? ahead : answer <= NULL && answer >= STORE ? -1000010 - answer : 0;
    }

    private static void same(String text, List<Integer> got, List<Integer> want) {
        for (int i = 0; i < want.size(); i++) {
            CHECK.due(text + ", then what is seen, " + i, got.get(i), want.get(i));
        }
    }

    static void theSampleIsSeenWhole() {
        List<Integer> seen = seen(made(0));
        CHECK.due("rows", seen.get(0), 6);
        CHECK.due("worlds", seen.get(1), 5);
        int at = 8 + 60;
        for (int row = 0; row < 3; row++) {
            for (int i = 0; i + 1 < ROWS[row].length; i++) {
                CHECK.due("a line", seen.get(at), 1);
                CHECK.due("item " + i + " of row " + row, seen.get(at + 1), ROWS[row][i]);
                CHECK.due("the next", seen.get(at + 2), ROWS[row][i + 1]);
                at += 3;
            }
        }
        int[] lanes = {112, 4464, 70000, NULL, PLACE, 70000, 112, NULL};
        int[] sizes = {5, 24, 2, NULL, 0, 6, 1, NULL};
        for (int row = 0; row < 8; row++) {
            CHECK.due("lane of " + row, seen.get(seen.size() - 16 + 2 * row), lanes[row]);
            CHECK.due("size of " + row, seen.get(seen.size() - 15 + 2 * row), sizes[row]);
        }
    }

    static void row() {
        leavesAll(BAD, "row", 8, 0, 1);
        leavesAll(BAD, "row", -1, 0, 1);
        leavesAll(BAD, "row", 0, 3, 1);
        leavesAll(BAD, "row", 0, -1, 1);
        leavesAll(BAD, "row", 0, 1, 25);
        leavesAll(BAD, "row", 3, 1, MAX);
        leavesAll(SIZE, "row", 0, 1, -1);
        leavesAll(SIZE, "row", 3, 1, -1);
        leavesAll(SIZE, "row", 1, 2, MIN);
    }

    static void set() {
        leavesAll(BAD, "set", 8, 0, 7);
        leavesAll(BAD, "set", -1, 0, 7);
        leavesAll(NULL, "set", 3, 0, 7);
        leavesAll(PLACE, "set", 0, 5, 7);
        leavesAll(PLACE, "set", 0, -1, 7);
        leavesAll(PLACE, "set", 4, 0, 7);
        leavesAll(PLACE, "set", 1, 24, 7);
        leavesAll(PLACE, "set", 1, MAX, 7);
    }

    static void copy() {
        leavesAll(BAD, "copy", 8, 0, 0, 0, 1);
        leavesAll(BAD, "copy", 0, 0, -1, 0, 1);
        leavesAll(NULL, "copy", 3, 0, 0, 0, 1);
        leavesAll(NULL, "copy", 0, 0, 3, 0, 1);
        leavesAll(STORE, "copy", 0, 0, 1, 0, 1);
        leavesAll(STORE, "copy", 1, 0, 2, 0, 1);
        leavesAll(PLACE, "copy", 0, 0, 0, 1, 5);
        leavesAll(PLACE, "copy", 0, 1, 0, 0, 5);
        leavesAll(PLACE, "copy", 0, 0, 6, 0, 2);
        leavesAll(PLACE, "copy", 6, 0, 0, 0, 2);
        leavesAll(PLACE, "copy", 0, 0, 0, 1, -1);
        leavesAll(PLACE, "copy", 0, -1, 0, 0, 2);
        leavesAll(PLACE, "copy", 0, 0, 0, -1, 2);
        leavesAll(PLACE, "copy", 2, 1, 2, 0, MAX);
        leavesAll(0, "copy", 0, 5, 6, 1, 0);
    }

    static void drop() {
        leavesAll(BAD, "drop", 8);
        leavesAll(BAD, "drop", -1);
        leavesAll(NULL, "drop", 3);
    }

    static void field() {
        leavesAll(BAD, "field", Q, 0, 0);
        leavesAll(BAD, "field", 0, Q, 1);
        leavesAll(BAD, "field", 0, 100001, 2);
        leavesAll(BAD, "field", 0, 0, 4);
        leavesAll(NONE, "field", 7, 0, 3);
        leavesAll(12, "field", 7, 5, 0);
    }

    static void world() {
        leavesAll(BAD, "world", 10, 1, 0, 1);
        leavesAll(BAD, "world", -1, 1, 0, 1);
        leavesAll(BAD, "world", 0, 8, 0, 1);
        leavesAll(BAD, "world", 0, 1, 0, 0);
        leavesAll(BAD, "world", 0, 1, 0, 4);
        leavesAll(NULL, "world", 0, 3, 0, 1);
        leavesAll(NULL, "world", 9, 3, 0, 1);
        leavesAll(PLACE, "world", 0, 1, 23, 1);
        leavesAll(PLACE, "world", 0, 1, -1, 1);
        leavesAll(PLACE, "world", 9, 1, MAX, 3);
        leavesAll(BAD, "world", 0, 5, 0, 1);
        leavesAll(BAD, "world", 9, 5, 1, 2);
        leavesAll(BAD, "world", 0, 5, 2, 2);
        leavesAll(BAD, "world", 0, 5, 0, 2);
    }

    static void turn() {
        leavesAll(BAD, "turn", 10, 0, 3);
        leavesAll(BAD, "turn", 0, 10, 3);
        leavesAll(BAD, "turn", 1, 0, 0);
        leavesAll(BAD, "turn", 1, 0, Q);
        leavesAll(BAD, "turn", 1, 0, -1);
        leavesAll(NULL, "turn", 1, 5, 3);
        leavesAll(NULL, "turn", 9, 5, 3);
    }

    static void map() {
        leavesAll(BAD, "map", 10, 4, 1, 0, 1);
        leavesAll(BAD, "map", 4, -1, 1, 0, 1);
        leavesAll(BAD, "map", 1, 4, 8, 0, 1);
        leavesAll(BAD, "map", 1, 4, 1, 0, 0);
        leavesAll(BAD, "map", 1, 4, 1, 0, 5);
        leavesAll(NULL, "map", 1, 5, 0, 0, 1);
        leavesAll(NULL, "map", 1, 4, 3, 0, 1);
        leavesAll(PLACE, "map", 1, 4, 0, 4, 1);
        leavesAll(PLACE, "map", 9, 4, 0, -1, 1);
        leavesAll(PLACE, "map", 9, 4, 0, MAX, 4);
        leavesAll(BAD, "map", 1, 4, 5, 0, 1);
        leavesAll(BAD, "map", 1, 4, 5, 2, 1);
        leavesAll(BAD, "map", 1, 4, 5, 0, 2);
        leavesAll(NONE, "map", 1, 0, 0, 0, 1);
        leavesAll(NONE, "map", 0, 0, 0, 0, 1);
        leavesAll(NONE, "map", 9, 0, 0, 0, 1);
    }

    static void clear() {
        leavesAll(BAD, "clear", 10);
        leavesAll(BAD, "clear", -1);
        leavesAll(0, "clear", 5);
    }

    static void told() {
        leavesAll(BAD, "told", 10, 0);
        leavesAll(BAD, "told", 0, 10);
        leavesAll(NULL, "told", 5, 0);
        leavesAll(KIND, "told", 0, 9);
        leavesAll(KIND, "told", 3, 9);
        for (int what = 0; what <= 8; what++) {
            leavesAll(made(0).told(3, what), "told", 3, what);
        }
    }

    static void actsAndSumAndOrder() {
        leavesAll(BAD, "acts", 10, 0, 0);
        leavesAll(BAD, "acts", 0, 78125, 0);
        leavesAll(BAD, "acts", 0, 0, Q);
        leavesAll(NULL, "acts", 5, 0, 0);
        leavesAll(7, "acts", 0, 1, 7);
        leavesAll(BAD, "sum", -1, 0, 0);
        leavesAll(BAD, "sum", 0, -1, 0);
        leavesAll(BAD, "sum", 0, 0, -2);
        leavesAll(NULL, "sum", 5, 0, 0);
        leavesAll(18, "sum", 3, 78124, -1);
        leavesAll(BAD, "order", 10, 0);
        leavesAll(BAD, "order", 0, Q);
        leavesAll(NULL, "order", 5, 0);
        leavesAll(1, "order", 3, 0);
    }

    static void kernelAndBack() {
        leavesAll(BAD, "kernel", 10, 0, 0);
        leavesAll(BAD, "kernel", 0, 78125, 0);
        leavesAll(NULL, "kernel", 5, 0, 0);
        leavesAll(NONE, "kernel", 0, 1, 1);
        leavesAll(Q, "kernel", 0, 0, NONE);
        leavesAll(BAD, "back", 10, 0, 0, 1, 0);
        leavesAll(BAD, "back", 0, 8, 0, 1, 0);
        leavesAll(BAD, "back", 0, 0, 0, 5, 0);
        leavesAll(BAD, "back", 0, 0, 0, 1, -3);
        leavesAll(NULL, "back", 5, 0, 0, 1, 0);
        leavesAll(NULL, "back", 0, 3, 0, 1, 0);
        leavesAll(PLACE, "back", 0, 0, 4, 1, 0);
        leavesAll(BAD, "back", 0, 5, 0, 1, 0);
        leavesAll(BAD, "back", 0, 5, 2, 1, 0);
        leavesAll(NONE, "back", 1, 1, 20, 3, -2);
    }

    static void alikeAndStays() {
        leavesAll(BAD, "alike", 10, 0);
        leavesAll(BAD, "alike", 0, -1);
        leavesAll(NULL, "alike", 5, 0);
        leavesAll(NULL, "alike", 0, 5);
        leavesAll(0, "alike", 0, 4);
        leavesAll(1, "alike", 1, 1);
        leavesAll(BAD, "stays", 10);
        leavesAll(NULL, "stays", 5);
        leavesAll(4, "stays", 0);
    }

    static void kindAndIsAndAs() {
        leavesAll(BAD, "kind", 10);
        leavesAll(NULL, "kind", 5);
        leavesAll(3, "kind", 2);
        leavesAll(BAD, "is", 10, 0);
        leavesAll(BAD, "is", 0, 5);
        leavesAll(0, "is", 5, 0);
        leavesAll(1, "is", 2, 2);
        leavesAll(BAD, "as", 10, 0);
        leavesAll(BAD, "as", 0, 5);
        leavesAll(NULL, "as", 5, 0);
        leavesAll(KIND, "as", 0, 2);
        leavesAll(KIND, "as", 1, 3);
        leavesAll(2, "as", 2, 2);
    }

    static void ask() {
        leavesAll(BAD, "ask", 10, 0);
        leavesAll(BAD, "ask", -1, 1);
        leavesAll(BAD, "ask", 0, 2);
        leavesAll(BAD, "ask", 5, -1);
        leavesAll(NULL, "ask", 5, 0);
        leavesAll(NULL, "ask", 9, 1);
    }

    static void traceAndCountAndStatus() {
        leavesAll(NONE, "trace", 3);
        leavesAll(NONE, "trace", -1);
        leavesAll(21, "trace", 1);
        leavesAll(BAD, "count", 8);
        leavesAll(BAD, "count", -1);
        leavesAll(6, "count", 0);
        CHECK.due("status()", made(5).status(), 5);
    }
}
