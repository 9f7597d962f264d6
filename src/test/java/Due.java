/** Counts the answers that are not as due and prints them. */
final class Due {
    interface Call {
        void run();
    }

    private int wrong = 0;
    private int looked = 0;

    void same(String what, long got, long want) {
        looked++;
        if (got != want) {
            wrong++;
            System.out.println(what + " answered " + got + ", due is " + want);
        }
    }

    void refused(String what, Class<? extends RuntimeException> due, Call call) {
        looked++;
        String got = "nothing";
        try {
            call.run();
        } catch (RuntimeException e) {
            if (e.getClass() == due) {
                return;
            }
            got = e.getClass().getSimpleName();
        }
        wrong++;
        System.out.println(what + " throws " + got + ", due is " + due.getSimpleName());
    }

    /** Wrong argument. */
    void argument(String what, Call call) {
        refused(what, IllegalArgumentException.class, call);
    }

    /** Wrong state. */
    void state(String what, Call call) {
        refused(what, IllegalStateException.class, call);
    }

    /** No such place. */
    void place(String what, Call call) {
        refused(what, IndexOutOfBoundsException.class, call);
    }

    void finish() {
        System.out.println(looked + " answers looked at, " + wrong + " not as due");
        if (wrong != 0 || looked == 0) {
            System.exit(1);
        }
    }
}
