/** Counts the answers of one test that are not due, and tells them. */
final class Check {
    interface Call {
        void run();
    }

    private final String test;
    private int right;
    private int wrong;

    Check(String test) {
        this.test = test;
    }

    /** What is out of a range: the ones next to it, and the furthest. */
    static int[] beyond(int first, int last) {
        return new int[] {Integer.MIN_VALUE, first - 1, last + 1, Integer.MAX_VALUE};
    }

    void due(String call, long got, long want) {
        due(call, String.valueOf(got), String.valueOf(want));
    }

    void due(String call, String got, String want) {
        if (got.equals(want)) {
            right++;
            return;
        }
        wrong++;
        System.out.println(test + ": " + call + " answered " + got + ", due is " + want);
    }

    /** The call must throw this very exception, and all later calls must answer as if it had not been. */
    void refused(Grid grid, String name, Class<? extends RuntimeException> due, Call call) {
        String got = "nothing";
        try {
            call.run();
        } catch (RuntimeException thrown) {
            got = thrown.getClass().getSimpleName();
        }
        due(name + " throws", got, due.getSimpleName());
        due(name + " changes", Later.difference(grid), "none");
    }

    void outside(Grid grid, String name, Call call) {
        refused(grid, name, IndexOutOfBoundsException.class, call);
    }

    void argument(Grid grid, String name, Call call) {
        refused(grid, name, IllegalArgumentException.class, call);
    }

    void state(Grid grid, String name, Call call) {
        refused(grid, name, IllegalStateException.class, call);
    }

    void end() {
        System.out.println(test + ": " + right + " answers as due, " + wrong + " not");
        if (wrong != 0 || right == 0) {
            System.exit(1);
        }
    }
}
