/** Counts the answers that are not as due; the tests end with exit code 1 if there was one. */
final class Check {
    private final String name;
    private int asked = 0;
    private int wrong = 0;

    Check(String name) {
        this.name = name;
    }

    void due(String call, long got, long want) {
        asked++;
        if (got != want) {
            wrong++;
            if (wrong <= 40) {
                System.out.println(name + ": " + call + " answered " + got + ", due is " + want);
            }
        }
    }

    void holds(String what, boolean yes) {
        due(what, yes ? 1 : 0, 1);
    }

    /** A double's bits, within a small distance: for answers worked out on paper. */
    void near(String call, long bits, double want) {
        double got = Double.longBitsToDouble(bits);
        holds(call + " = " + got + " near " + want, Math.abs(got - want) < 1e-12);
    }

    boolean clean() {
        return wrong == 0;
    }

    void end() {
        System.out.println(name + ": " + asked + " answers looked at, " + wrong + " wrong");
        System.exit(wrong == 0 ? 0 : 1);
    }
}
