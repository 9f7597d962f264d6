/** All that an object tells, as one text: objects that stand alike tell the same. */
final class Answers {
    private interface Question {
        int ask();
    }

    private final PathTiming x;
    private final StringBuilder text = new StringBuilder();

    private Answers(PathTiming x) {
        this.x = x;
    }

    /** Nodes 0 to the one given are asked for, with the first behind them. */
    static String of(PathTiming x, int lastNode) {
        Answers a = new Answers(x);
        a.askForAll();
        for (int node = 0; node <= lastNode + 1; node++) {
            a.askForNode(node);
        }
        a.askForPaths(0);
        a.askForPaths(1);
        return a.text.toString();
    }

    private boolean tell(String call, Question question) {
        text.append(call);
        boolean isAnswered = false;
        try {
            text.append(" = ").append(question.ask());
            isAnswered = true;
        } catch (IllegalStateException | IllegalArgumentException | IndexOutOfBoundsException e) {
            text.append(" throws ").append(e.getClass().getSimpleName());
        }
        text.append('\n');
        return isAnswered;
    }

    private void askForAll() {
        tell("cycle()", () -> x.cycle());
        tell("leastPeriod()", () -> x.leastPeriod());
        tell("paths()", () -> x.paths());
        for (int check = 0; check < 2; check++) {
            int c = check;
            tell("worst(" + c + ")", () -> x.worst(c));
            tell("total(" + c + ")", () -> x.total(c));
        }
    }

    private void askForNode(int node) {
        tell("ways(" + node + ")", () -> x.ways(node));
        tell("slack(" + node + ", 0)", () -> x.slack(node, 0));
        tell("slack(" + node + ", 1)", () -> x.slack(node, 1));
        for (int i = 0; i < 8; i++) {
            int change = i & 1;
            int base = i >> 1 & 1;
            boolean late = i >= 4;
            tell("arrival(" + node + ", " + change + ", " + base + ", " + late + ")",
                    () -> x.arrival(node, change, base, late));
        }
    }

    private void askForPaths(int check) {
        for (int k = 0; k <= 20; k++) {
            int at = k;
            if (!tell("path(" + check + ", " + k + ")", () -> x.path(check, at))) {
                return;
            }
            text.append("row");
            int element = 0;
            for (int i = 0; element != -1; i++) {
                element = x.element(check, k, i);
                text.append(' ').append(element);
            }
            text.append('\n');
        }
    }
}
