/** A call by its name, so that tests can tell calls as tables. */
final class Calls {
    private Calls() {
    }

    static int of(TimesByPowers x, String call, int... a) {
        return switch (call) {
            case "row" -> x.row(a[0], a[1], a[2]);
            case "set" -> x.set(a[0], a[1], a[2]);
            case "copy" -> x.copy(a[0], a[1], a[2], a[3], a[4]);
            case "drop" -> x.drop(a[0]);
            case "field" -> x.field(a[0], a[1], a[2]);
            case "world" -> x.world(a[0], a[1], a[2], a[3]);
            case "turn" -> x.turn(a[0], a[1], a[2]);
            case "map" -> x.map(a[0], a[1], a[2], a[3], a[4]);
            case "clear" -> x.clear(a[0]);
            case "told" -> x.told(a[0], a[1]);
            case "acts" -> x.acts(a[0], a[1], a[2]);
            case "sum" -> x.sum(a[0], a[1], a[2]);
            case "order" -> x.order(a[0], a[1]);
            case "kernel" -> x.kernel(a[0], a[1], a[2]);
            case "back" -> x.back(a[0], a[1], a[2], a[3], a[4]);
            case "alike" -> x.alike(a[0], a[1]);
            case "stays" -> x.stays(a[0]);
            case "kind" -> x.kind(a[0]);
            case "is" -> x.is(a[0], a[1]);
            case "as" -> x.as(a[0], a[1]);
            case "ask" -> x.ask(a[0], a[1]);
            case "trace" -> x.trace(a[0]);
            case "count" -> x.count(a[0]);
            case "status" -> x.status();
            default -> throw new IllegalArgumentException(call);
        };
    }

    static String text(String call, int... a) {
        StringBuilder text = new StringBuilder(call).append('(');
        for (int i = 0; i < a.length; i++) {
            text.append(i == 0 ? "" : ", ").append(a[i]);
        }
        return text.append(')').toString();
    }
}
