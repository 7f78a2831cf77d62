/** The program and the model, asked the same; each pair of answers is compared. */
final class Both {
    private static final int MOST_CALLS = 512;

    final Model model;
    private final TimesByPowers program;
    private final Check check;
    private final String name;
    private final StringBuilder told = new StringBuilder();
    private int calls = 0;

    Both(Check check, int p, int n) {
        this.check = check;
        name = "new(" + p + ", " + n + ")";
        program = new TimesByPowers(p, n);
        model = new Model(p, n);
    }

    boolean hasCallsLeft() {
        return calls < MOST_CALLS;
    }

    int ask(String call, int... a) {
        if (!hasCallsLeft()) {
            return 0;
        }
        calls++;
        String text = Calls.text(call, a);
        int got = Calls.of(program, call, a);
        int want = ofModel(call, a);
        if (got != want && check.wrong() < 3) {
            System.out.println(name + told + " ..");
        }
        told.append(' ').append(text).append('=').append(want);
        check.due(name + " .. " + text, got, want);
        return want;
    }

    private int ofModel(String call, int[] a) {
        Model y = model;
        return switch (call) {
            case "row" -> y.row(a[0], a[1], a[2]);
            case "set" -> y.set(a[0], a[1], a[2]);
            case "copy" -> y.copy(a[0], a[1], a[2], a[3], a[4]);
            case "drop" -> y.drop(a[0]);
            case "field" -> y.field(a[0], a[1], a[2]);
            case "world" -> y.world(a[0], a[1], a[2], a[3]);
            case "turn" -> y.turn(a[0], a[1], a[2]);
            case "map" -> y.map(a[0], a[1], a[2], a[3], a[4]);
            case "clear" -> y.clear(a[0]);
            case "told" -> y.told(a[0], a[1]);
            case "acts" -> y.acts(a[0], a[1], a[2]);
            case "sum" -> y.sum(a[0], a[1], a[2]);
            case "order" -> y.order(a[0], a[1]);
            case "kernel" -> y.kernel(a[0], a[1], a[2]);
            case "back" -> y.back(a[0], a[1], a[2], a[3], a[4]);
            case "alike" -> y.alike(a[0], a[1]);
            case "stays" -> y.stays(a[0]);
            case "kind" -> y.kind(a[0]);
            case "is" -> y.is(a[0], a[1]);
            case "as" -> y.as(a[0], a[1]);
            case "ask" -> y.ask(a[0], a[1]);
            case "trace" -> y.trace(a[0]);
            case "count" -> y.count(a[0]);
            case "status" -> y.status();
            default -> throw new IllegalArgumentException(call);
        };
    }
}
