/** Counts the answers that are not as due and prints them. */
final class Due {
    interface Call {
        void run();
    }

    private int wrong = 0;
    private int looked = 0;

    void same(String what, long got, long want) {
        looked++;
        if (got != want) {
            wrong++;
            System.out.println(what + " answered " + got + ", due is " + want);
        }
    }

    /** Long texts of many lines: only the first lines that differ are told. */
    void text(String what, String got, String want) {
        looked++;
        if (got.equals(want)) {
            return;
        }
        wrong++;
        String[] gotLines = got.split("\n");
        String[] wantLines = want.split("\n");
        int i = 0;
        while (i < gotLines.length - 1 && i < wantLines.length - 1 && gotLines[i].equals(wantLines[i])) {
            i++;
        }
        System.out.println(what + ": " + gotLines[i] + ", due is " + wantLines[i]);
    }

    /** A whole row of elements, with the places before and behind it. */
    void row(PathTiming x, int check, int k, int... due) {
        String name = "element(" + check + ", " + k + ", ";
        same(name + "-1)", x.element(check, k, -1), -1);
        for (int i = 0; i < due.length; i++) {
            same(name + i + ")", x.element(check, k, i), due[i]);
        }
        same(name + due.length + ")", x.element(check, k, due.length), -1);
    }

    void refused(String what, Class<? extends RuntimeException> due, Call call) {
        looked++;
        String got = "nothing";
        try {
            call.run();
        } catch (RuntimeException e) {
            if (e.getClass() == due) {
                return;
            }
            got = e.getClass().getSimpleName();
        }
        wrong++;
        System.out.println(what + " throws " + got + ", due is " + due.getSimpleName());
    }

    /** Wrong argument. */
    void argument(String what, Call call) {
        refused(what, IllegalArgumentException.class, call);
    }

    /** Wrong state. */
    void state(String what, Call call) {
        refused(what, IllegalStateException.class, call);
    }

    /** No such place. */
    void place(String what, Call call) {
        refused(what, IndexOutOfBoundsException.class, call);
    }

    void finish() {
        System.out.println(looked + " answers looked at, " + wrong + " not as due");
        if (wrong != 0 || looked == 0) {
            System.exit(1);
        }
    }
}
