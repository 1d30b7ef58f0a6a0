/** Counts the answers of one test that are not due, and tells them. */
final class Check {
    interface Call {
        void run();
    }

    private final String test;
    private int right;
    private int wrong;

    Check(String test) {
        this.test = test;
    }

    void due(String call, long got, long want) {
        if (got == want) {
            right++;
            return;
        }
        wrong++;
        System.out.println(test + ": " + call + " answered " + got + ", due is " + want);
    }

    void due(String call, String got, String want) {
        if (got.equals(want)) {
            right++;
            return;
        }
        wrong++;
        System.out.println(test + ": " + call + " answered\n" + got + "due is\n" + want);
    }

    /** The call must throw this very exception, and the object must answer all questions as before. */
    void fails(NemaGrid grid, String name, Class<? extends RuntimeException> due, Call call) {
        String before = State.of(grid);
        String got = "nothing";
        try {
            call.run();
        } catch (RuntimeException thrown) {
            got = thrown.getClass().getSimpleName();
        }
        due(name + " throws", got, due.getSimpleName());
        due(name + " changes", State.of(grid), before);
    }

    void outside(NemaGrid grid, String name, Call call) {
        fails(grid, name, IndexOutOfBoundsException.class, call);
    }

    void argument(NemaGrid grid, String name, Call call) {
        fails(grid, name, IllegalArgumentException.class, call);
    }

    void state(NemaGrid grid, String name, Call call) {
        fails(grid, name, IllegalStateException.class, call);
    }

    void end() {
        System.out.println(test + ": " + right + " answers as due, " + wrong + " not");
        if (wrong != 0 || right == 0) {
            System.exit(1);
        }
    }
}
