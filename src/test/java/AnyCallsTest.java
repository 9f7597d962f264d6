import java.util.Random;

/** Calls in any order with any arguments: each ends, and throws nothing but what its comment names. */
public final class AnyCallsTest {
    private static final int RUNS = 400;
    /** Behind its 512th call nothing is promised of an object. */
    private static final int CALLS = 512;
    private static final int MOST_AT_ONCE = 3;
    private static final int[] EDGES = {
        -2147483648, 2147483647, -1000001, -1000000, -10001, -10000, -1, 0, 1, 2, 3, 4, 7, 8, 19, 20, 47, 48, 49,
        10000, 10001, 999999, 1000000, 1000001,
    };

    private final Random random;
    private final PathTiming object = new PathTiming();
    private final boolean isWild;
    private int nodes = 1;
    private int calls = 0;

    private AnyCallsTest(long seed) {
        random = new Random(seed);
        isWild = seed % 4 == 0;
    }

    public static void main(String[] args) {
        int wrong = 0;
        int answered = 0;
        int made = 0;
        for (int seed = 0; seed < RUNS; seed++) {
            AnyCallsTest run = new AnyCallsTest(seed);
            while (run.calls <= CALLS - MOST_AT_ONCE) {
                int call = run.random.nextInt(24);
                String thrown = run.thrownBy(call);
                answered += thrown.isEmpty() ? 1 : 0;
                if (!run.isNamed(call, thrown)) {
                    wrong++;
                    System.out.println("run " + seed + ", call " + run.calls + " of kind " + call + " throws " + thrown);
                }
            }
            made += run.calls;
        }
        System.out.println(made + " calls, " + answered + " answered, " + wrong + " not as due");
        if (wrong != 0 || answered < made / 4) {
            System.exit(1);
        }
    }

    private PathTiming x() {
        calls++;
        return object;
    }

    private int any(int bound) {
        return isWild && random.nextInt(5) == 0 ? EDGES[random.nextInt(EDGES.length)] : random.nextInt(bound);
    }

    private String thrownBy(int call) {
        try {
            if (call < 14) {
                change(call);
            } else {
                ask(call);
            }
            return "";
        } catch (RuntimeException e) {
            return e.getClass().getSimpleName();
        }
    }

    private boolean isNamed(int call, String thrown) {
        boolean mayFail = call != 4 && call != 5 && call != 14 && call != 15;
        boolean isAsked = call > 15;
        return thrown.isEmpty()
                || thrown.equals("IllegalArgumentException") && mayFail && call != 21
                || thrown.equals("IllegalStateException") && isAsked
                || thrown.equals("IndexOutOfBoundsException") && call > 21;
    }

    /** Mostly from lower to higher gates, so that there is something to analyse. */
    private int source(int node) {
        return random.nextInt(8) == 0 || node < 2 ? any(nodes) : any(node);
    }

    private void change(int call) {
        int node = any(nodes);
        int early = any(50);
        switch (call) {
            case 0 -> x().clock(any(1000), any(400));
            case 1 -> count(x().input(early, early + any(9), early - any(9), early));
            case 2, 3 -> count(x().gate(1 + any(3)));
            case 4 -> count(x().register());
            case 5 -> count(x().output());
            case 6, 7, 8, 9 -> x().wire(node, any(3), source(node), early, early + any(50));
            case 10 -> x().wire(node, 1, 0, early, early + any(50));
            case 11 -> x().sense(node, any(3), any(3));
            case 12 -> x().delay(node, any(3), any(2), early, early + any(50));
            default -> x().check(node, any(2), any(100), any(100));
        }
    }

    private void count(int node) {
        nodes = node == PathTiming.NONE ? nodes : node + 1;
    }

    private void ask(int call) {
        switch (call) {
            case 14 -> x().cycle();
            case 15 -> x().analyse();
            case 16 -> x().ways(any(nodes));
            case 17 -> x().arrival(any(nodes), any(2), any(2), random.nextBoolean());
            case 18 -> x().slack(any(nodes), any(2));
            case 19 -> x().worst(any(2));
            case 20 -> x().total(any(2));
            case 21 -> {
                x().analyse();
                x().leastPeriod();
                x().paths();
            }
            case 22 -> {
                x().analyse();
                x().path(any(2), any(20));
            }
            default -> {
                x().analyse();
                x().element(any(2), any(20), any(50));
            }
        }
    }
}
