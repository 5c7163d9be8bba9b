import java.util.Objects;

/** Counts answers that are not as due, and ends the test with exit code 1 if there was one. */
final class Check {
    private static final int MOST_PRINTED = 40;
    private int asked;
    private int wrong;

    void due(String call, long got, long want) {
        asked++;
        if (got != want) {
            complain(call + " answered " + got + ", due is " + want);
        }
    }

    void due(String call, boolean got, boolean want) {
        due(call, got ? 1 : 0, want ? 1 : 0);
    }

    void same(String what, Object got, Object want) {
        asked++;
        if (!Objects.equals(got, want)) {
            complain(what + " is " + got + ", due is " + want);
        }
    }

    int wrongOnes() {
        return wrong;
    }

    void end() {
        System.out.println(asked + " answers, " + wrong + " not as due");
        if (wrong != 0 || asked == 0) {
            System.exit(1);
        }
    }

    private void complain(String line) {
        wrong++;
        if (wrong <= MOST_PRINTED) {
            System.out.println(line);
        }
    }
}
