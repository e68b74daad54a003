/** Counts and prints the calls whose answers are not due. */
final class Checks {
    private int wrong;
    private int looked;

    void due(String what, long got, long want) {
        looked++;
        if (got != want) {
            tell(what + " answered " + got + ", due is " + want);
        }
    }

    void dueFloat(String what, float got, float want) {
        looked++;
        if (got != want) {
            tell(what + " answered " + got + ", due is " + want);
        }
    }

    void dueText(String what, String got, String want) {
        looked++;
        if (!got.equals(want)) {
            tell(what + " is " + got + ", due is " + want);
        }
    }

    int wrong() {
        return wrong;
    }

    int looked() {
        return looked;
    }

    void end() {
        System.out.println(looked + " answers looked at, " + wrong + " of them not as due");
        if (wrong != 0 || looked == 0) {
            System.exit(1);
        }
    }

    private void tell(String line) {
        wrong++;
        if (wrong <= 50) {
            System.out.println(line);
        }
    }
}
