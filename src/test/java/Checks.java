/** Counts answers that are not the ones due; every test ends with exit code 1 if there was one. */
final class Checks {
    private int asked = 0;
    private int wrong = 0;

    void due(String call, long got, long want) {
        asked++;
        if (got != want) {
            complain(call, String.valueOf(got), String.valueOf(want));
        }
    }

    void due(String call, boolean got, boolean want) {
        asked++;
        if (got != want) {
            complain(call, String.valueOf(got), String.valueOf(want));
        }
    }

    /** The very same number, to the last bit; 0.0 and -0.0 are the same number. */
    void due(String call, double got, double want) {
        asked++;
        if (got != want) {
            complain(call, String.valueOf(got), String.valueOf(want));
        }
    }

    /** For answers of any kind: numbers are the same by their value, others by equals. */
    void same(String call, Object got, Object want) {
        asked++;
        boolean numbers = got instanceof Number && want instanceof Number;
        boolean alike = numbers
            ? ((Number) got).doubleValue() == ((Number) want).doubleValue() : got.equals(want);
        if (!alike) {
            complain(call, String.valueOf(got), String.valueOf(want));
        }
    }

    private void complain(String call, String got, String want) {
        wrong++;
        if (wrong <= 50) {
            System.out.println(call + " answered " + got + ", due is " + want);
        }
    }

    int asked() {
        return asked;
    }

    int wrong() {
        return wrong;
    }

    void end(String test) {
        System.out.println(test + ": " + asked + " answers, " + wrong + " not as due");
        if (asked == 0 || wrong != 0) {
            System.exit(1);
        }
    }
}
