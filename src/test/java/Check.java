/** Counts and prints the calls whose answer is not the one that is due. */
final class Check {
    private int calls = 0;
    private int wrong = 0;
    private String sentence = "";

    /** What follows is told under this name. */
    void begin(String name) {
        sentence = name + ": ";
    }

    void due(String call, long got, long want) {
        calls++;
        if (got != want) {
            wrong++;
            if (wrong <= 50) {
                System.out.println(sentence + call + " answered " + got + ", due is " + want);
            }
        }
    }

    void holds(String what, boolean holds) {
        due(what, holds ? 1 : 0, 1);
    }

    int calls() {
        return calls;
    }

    int wrong() {
        return wrong;
    }

    /** Ends the test: exit code 1 if an answer was wrong, or nothing was asked. */
    void end(String name) {
        System.out.println(name + ": " + calls + " answers, " + wrong + " not as due");
        if (wrong != 0 || calls == 0) {
            System.exit(1);
        }
    }
}
