/**
 * The paragraph behind "Terms": which exception comes first, that exceptions come before an answer
 * NONE, and that a call that throws, or answers NONE, changes nothing.
 */
public final class RefusalsTest {
    private static final int NONE = Integer.MIN_VALUE;
    private static final int LOWEST = Integer.MIN_VALUE;
    private static final int HIGHEST = Integer.MAX_VALUE;
    private static final int LAST_OF_SAMPLE = 7;
    private static final int[] NO_BITS = {LOWEST, -1, 2, HIGHEST};
    private static final Due DUE = new Due();

    private interface Act {
        void on(PathTiming x);
    }

    private interface Question {
        int of(PathTiming x);
    }

    public static void main(String[] args) {
        newObjectHasNothingAnalysed();
        changesForget();
        cycleLeavesNothingAnalysed();
        tangleLeavesNothingAnalysed();
        refusedAnalysisStaysRefused();
        stateBeforeAllElse();
        manyBeforeAllElse();
        waysArguments();
        arrivalArguments();
        slackArguments();
        checkArguments();
        argumentBeforePlace();
        argumentBeforeNone();
        argumentBeforeNoneInAFullNet();
        refusedQuestionsChangeNothing();
        answersNoneChangeNothing();
        noneInAFullNetChangesNothing();
        noneOfTheLeastPeriodChangesNothing();
        manyChangesNothing();
        DUE.finish();
    }

    /** Each with arguments that are right if something is analysed, then with wrong ones. */
    private static Act[] questions() {
        return new Act[] {
            x -> x.ways(3), x -> x.ways(-1), x -> x.ways(1), x -> x.ways(48),
            x -> x.arrival(1, 0, 0, true), x -> x.arrival(0, 0, 0, false), x -> x.arrival(-1, 2, 2, true),
            x -> x.arrival(48, 0, 0, true),
            x -> x.slack(5, 0), x -> x.slack(0, 0), x -> x.slack(5, 2), x -> x.slack(-1, -1),
            x -> x.worst(0), x -> x.worst(1), x -> x.worst(2), x -> x.worst(-1),
            x -> x.total(0), x -> x.total(1), x -> x.total(2), x -> x.total(-1),
            x -> x.leastPeriod(), x -> x.paths(),
            x -> x.path(0, 0), x -> x.path(1, 19), x -> x.path(2, 0), x -> x.path(0, 20), x -> x.path(-1, -1),
            x -> x.element(0, 0, 0), x -> x.element(1, 0, -1), x -> x.element(2, 0, 0), x -> x.element(0, 20, 0),
            x -> x.element(-1, -1, -1),
        };
    }

    private static void nothingIsAnalysed(String when, PathTiming x) {
        Act[] questions = questions();
        for (int i = 0; i < questions.length; i++) {
            Act question = questions[i];
            DUE.state("question " + i + ", " + when, () -> question.on(x));
        }
    }

    private static void newObjectHasNothingAnalysed() {
        nothingIsAnalysed("new object", new PathTiming());
        nothingIsAnalysed("sample that was not analysed", Nets.sample());
    }

    /** "until clock(), input(), .. or check() is done next": even if it sets what was set. */
    private static void changesForget() {
        Act[] changes = {
            x -> x.clock(500, 200), x -> x.input(0, 0, 0, 0), x -> x.gate(1), x -> x.register(), x -> x.output(),
            x -> x.wire(2, 0, 1, 13, 17), x -> x.sense(2, 1, 1), x -> x.delay(2, 0, 0, 89, 97),
            x -> x.delay(3, 1, 0, 131, 137), x -> x.check(3, 0, 597, -633), x -> x.check(5, 0, 995, -1055),
        };
        for (int i = 0; i < changes.length; i++) {
            PathTiming x = Nets.sample();
            DUE.same("analyse()", x.analyse(), 3);
            DUE.same("paths()", x.paths(), 16);
            changes[i].on(x);
            nothingIsAnalysed("behind change " + i, x);
            DUE.same("analyse() again", x.analyse(), 3);
            DUE.same("paths() again", x.paths(), 16);
        }
    }

    private static void cycleLeavesNothingAnalysed() {
        PathTiming x = Nets.sample();
        x.analyse();
        x.wire(7, 0, 7, 0, 0);
        DUE.same("a cycle", x.analyse(), PathTiming.CYCLE);
        nothingIsAnalysed("behind CYCLE", x);
        DUE.same("the cycle is told all the same", x.cycle(), 7);
    }

    private static void tangleLeavesNothingAnalysed() {
        PathTiming x = Nets.sample();
        x.analyse();
        // Gate 6 lets both changes through; then by each of three pins of gate 7 and two of gate 8.
        for (int pin = 0; pin < 3; pin++) {
            x.wire(7, pin, 6, 0, 0);
        }
        x.gate(2);
        x.wire(8, 0, 7, 0, 0);
        x.wire(8, 1, 7, 0, 0);
        x.wire(4, 1, 8, 0, 0);
        DUE.same("a tangle of 12", x.analyse(), PathTiming.TANGLE);
        nothingIsAnalysed("behind TANGLE", x);
        DUE.same("there is no cycle", x.cycle(), NONE);
    }

    /** Neither asking again nor a refused call brings an analysis back. */
    private static void refusedAnalysisStaysRefused() {
        PathTiming x = Nets.sample();
        x.wire(7, 0, 7, 0, 0);
        DUE.same("a cycle", x.analyse(), PathTiming.CYCLE);
        DUE.same("a cycle again", x.analyse(), PathTiming.CYCLE);
        DUE.argument("a refused wire", () -> x.wire(7, 0, 5, 0, 0));
        DUE.same("changes nothing", x.analyse(), PathTiming.CYCLE);
        x.wire(7, 0, 1, 0, 0);
        DUE.state("the cycle is broken, nothing is analysed yet", () -> x.paths());
        DUE.same("now there is", x.analyse(), 3);
        DUE.same("two timing paths more", x.paths(), 18);
    }

    private static void stateBeforeAllElse() {
        PathTiming x = Nets.inputToOutput();
        for (int wrong : NO_BITS) {
            DUE.state("ways", () -> x.ways(wrong));
            DUE.state("arrival, node", () -> x.arrival(wrong + 10, 0, 0, true));
            DUE.state("arrival, change", () -> x.arrival(1, wrong, 0, true));
            DUE.state("arrival, base", () -> x.arrival(1, 0, wrong, true));
            DUE.state("slack, node", () -> x.slack(wrong + 10, 0));
            DUE.state("slack, check", () -> x.slack(2, wrong));
            DUE.state("worst", () -> x.worst(wrong));
            DUE.state("total", () -> x.total(wrong));
            DUE.state("path, check", () -> x.path(wrong, 0));
            DUE.state("path, k", () -> x.path(0, wrong));
            DUE.state("path, both", () -> x.path(wrong, wrong));
            DUE.state("element, check", () -> x.element(wrong, 0, 0));
            DUE.state("element, k", () -> x.element(0, wrong, 0));
            DUE.state("element, both", () -> x.element(wrong, wrong, wrong));
        }
    }

    /** "nothing is analysed, or there are more than 4000" is named before the check and k. */
    private static void manyBeforeAllElse() {
        PathTiming x = Nets.tooMany();
        x.analyse();
        for (int wrong : NO_BITS) {
            DUE.state("path, check", () -> x.path(wrong, 0));
            DUE.state("path, k", () -> x.path(0, wrong + 20));
            DUE.state("path, both", () -> x.path(wrong, wrong + 20));
            DUE.state("element, check", () -> x.element(wrong, 0, 0));
            DUE.state("element, k", () -> x.element(0, wrong + 20, 0));
            DUE.state("element, all", () -> x.element(wrong, wrong + 20, wrong));
            DUE.argument("worst() does not count paths", () -> x.worst(wrong));
            DUE.argument("total() does not count paths", () -> x.total(wrong));
        }
    }

    private static PathTiming analysedSample() {
        PathTiming x = Nets.sample();
        x.analyse();
        return x;
    }

    private static void waysArguments() {
        PathTiming x = analysedSample();
        DUE.same("register 3", x.ways(3), 1);
        DUE.same("register 4", x.ways(4), 2);
        for (int node : new int[] {LOWEST, -1, 0, 1, 2, 5, 6, 7, 8, 48, HIGHEST}) {
            DUE.argument("ways(" + node + ")", () -> x.ways(node));
        }
    }

    private static void arrivalArguments() {
        PathTiming x = analysedSample();
        for (int node = 0; node <= LAST_OF_SAMPLE; node++) {
            int n = node;
            x.arrival(n, 0, 0, true);
            x.arrival(n, 1, 1, false);
            for (int wrong : NO_BITS) {
                DUE.argument("change " + wrong, () -> x.arrival(n, wrong, 0, true));
                DUE.argument("base " + wrong, () -> x.arrival(n, 0, wrong, false));
                DUE.argument("both " + wrong, () -> x.arrival(n, wrong, wrong, false));
            }
        }
        for (int node : new int[] {LOWEST, -1, 8, 48, 1 << 30, HIGHEST}) {
            DUE.argument("arrival(" + node + ", ..)", () -> x.arrival(node, 0, 0, true));
            DUE.argument("arrival(" + node + ", 1, 1, ..)", () -> x.arrival(node, 1, 1, false));
        }
    }

    private static void slackArguments() {
        PathTiming x = analysedSample();
        for (int node : new int[] {LOWEST, -1, 0, 1, 2, 6, 7, 8, 48, HIGHEST}) {
            DUE.argument("slack(" + node + ", 0)", () -> x.slack(node, 0));
            DUE.argument("slack(" + node + ", 1)", () -> x.slack(node, 1));
        }
        for (int node = 3; node <= 5; node++) {
            int n = node;
            DUE.same("a slack there is", x.slack(n, 0) != NONE && x.slack(n, 1) != NONE ? 1 : 0, 1);
            for (int wrong : NO_BITS) {
                DUE.argument("slack(" + n + ", " + wrong + ")", () -> x.slack(n, wrong));
            }
        }
    }

    private static void checkArguments() {
        PathTiming x = analysedSample();
        for (int wrong : NO_BITS) {
            DUE.argument("worst(" + wrong + ")", () -> x.worst(wrong));
            DUE.argument("total(" + wrong + ")", () -> x.total(wrong));
            DUE.argument("path(" + wrong + ", 0)", () -> x.path(wrong, 0));
            DUE.argument("element(" + wrong + ", 0, 0)", () -> x.element(wrong, 0, 0));
        }
    }

    private static void argumentBeforePlace() {
        PathTiming x = analysedSample();
        PathTiming empty = new PathTiming();
        empty.analyse();
        for (int check : NO_BITS) {
            for (int k : new int[] {LOWEST, -1, 16, 19, 20, HIGHEST}) {
                DUE.argument("path(" + check + ", " + k + ")", () -> x.path(check, k));
                DUE.argument("element(" + check + ", " + k + ", 0)", () -> x.element(check, k, 0));
                DUE.argument("element(" + check + ", " + k + ", -1)", () -> x.element(check, k, -1));
            }
            DUE.argument("path() of an empty net", () -> empty.path(check, 0));
            DUE.argument("element() of an empty net", () -> empty.element(check, 0, 0));
        }
        for (int k : new int[] {LOWEST, -1, 16, 17, 19, 20, HIGHEST}) {
            DUE.place("path(0, " + k + ")", () -> x.path(0, k));
            DUE.place("element(1, " + k + ", 0)", () -> x.element(1, k, 0));
            DUE.place("element(0, " + k + ", -1): before -1 is answered", () -> x.element(0, k, -1));
            DUE.place("element(0, " + k + ", 1000)", () -> x.element(0, k, 1000));
        }
    }

    private static void argumentBeforeNone() {
        PathTiming x = new PathTiming();
        x.register();
        x.analyse();
        for (int wrong : NO_BITS) {
            DUE.argument("arrival() of the clock, change", () -> x.arrival(0, wrong, 0, true));
            DUE.argument("arrival() of the clock, base", () -> x.arrival(0, 0, wrong, true));
            DUE.argument("slack() without a timing path", () -> x.slack(1, wrong));
            DUE.argument("worst() without a timing path", () -> x.worst(wrong));
            DUE.argument("total() without a timing path", () -> x.total(wrong));
        }
    }

    private static void argumentBeforeNoneInAFullNet() {
        PathTiming x = Nets.fullSample();
        x.analyse();
        for (int pins : new int[] {LOWEST, -1, 0, 4, HIGHEST}) {
            DUE.argument("gate(" + pins + ")", () -> x.gate(pins));
        }
        DUE.argument("input(), rise", () -> x.input(-1000001, 0, 0, 0));
        DUE.argument("input(), rise, late", () -> x.input(0, 1000001, 0, 0));
        DUE.argument("input(), fall", () -> x.input(0, 0, -1000001, 0));
        DUE.argument("input(), fall, late", () -> x.input(0, 0, 0, 1000001));
        DUE.argument("input(), early above late, rise", () -> x.input(1, 0, 0, 0));
        DUE.argument("input(), early above late, fall", () -> x.input(0, 0, 1, 0));
        for (int pins = 1; pins <= 3; pins++) {
            DUE.same("gate(" + pins + ")", x.gate(pins), NONE);
        }
        DUE.same("input()", x.input(-1000000, 1000000, -1000000, 1000000), NONE);
        DUE.same("still analysed", x.paths(), 16);
    }

    /** The twin stands as the object did before the call. */
    private static void changesNothing(String what, PathTiming twin, PathTiming x, Act call) {
        call.on(x);
        DUE.text(what + " changes nothing", Answers.of(x, LAST_OF_SAMPLE), Answers.of(twin, LAST_OF_SAMPLE));
    }

    /** Every question that throws, on what was analysed: all stays as it was. */
    private static void refusedQuestionsChangeNothing() {
        changesNothing("a refused question", analysedSample(), analysedSample(), x -> {
            DUE.argument("ways", () -> x.ways(5));
            DUE.argument("arrival", () -> x.arrival(8, 0, 0, true));
            DUE.argument("slack", () -> x.slack(2, 1));
            DUE.argument("worst", () -> x.worst(2));
            DUE.argument("total", () -> x.total(-1));
            DUE.argument("path", () -> x.path(2, 0));
            DUE.place("path, k", () -> x.path(1, 16));
            DUE.argument("element", () -> x.element(2, 0, 0));
            DUE.place("element, k", () -> x.element(1, 16, 0));
        });
    }

    private static void answersNoneChangeNothing() {
        Question[] none = {
            x -> x.cycle(), x -> x.arrival(0, 0, 0, true), x -> x.arrival(1, 0, 1, true),
            x -> x.arrival(2, 1, 1, false), x -> x.arrival(4, 0, 1, true),
        };
        for (int i = 0; i < none.length; i++) {
            Question question = none[i];
            int at = i;
            changesNothing("an answer NONE", analysedSample(), analysedSample(),
                    x -> DUE.same("NONE " + at, question.of(x), NONE));
        }
        PathTiming y = Nets.sample();
        y.output();
        y.analyse();
        DUE.same("an end without a timing path", y.slack(8, 0), NONE);
        DUE.same("the others as before", y.paths(), 16);
        DUE.same("the others' slack as before", y.slack(5, 0), analysedSample().slack(5, 0));
    }

    private static void noneInAFullNetChangesNothing() {
        Question[] adds = {x -> x.input(1, 2, 3, 4), x -> x.gate(1), x -> x.gate(3), x -> x.register(), x -> x.output()};
        for (int i = 0; i < adds.length; i++) {
            Question add = adds[i];
            int at = i;
            PathTiming twin = Nets.fullSample();
            twin.analyse();
            PathTiming x = Nets.fullSample();
            x.analyse();
            changesNothing("node 48", twin, x, y -> DUE.same("NONE " + at, add.of(y), NONE));
            PathTiming other = Nets.fullSample();
            other.analyse();
            PathTiming later = Nets.fullSample();
            DUE.same("NONE, not analysed " + at, add.of(later), NONE);
            DUE.state("nothing is analysed by it", () -> later.paths());
            changesNothing("node 48, not analysed", other, later, y -> y.analyse());
            DUE.argument("no node 48", () -> later.arrival(48, 0, 0, true));
            DUE.same("node 47 as it was", later.slack(47, 0), NONE);
        }
    }

    private static void noneOfTheLeastPeriodChangesNothing() {
        PathTiming twin = Nets.sample();
        twin.wire(4, 0, 2, 0, 10000);
        twin.analyse();
        PathTiming x = Nets.sample();
        x.wire(4, 0, 2, 0, 10000);
        x.analyse();
        changesNothing("leastPeriod()", twin, x, y -> DUE.same("no period", y.leastPeriod(), NONE));
        PathTiming empty = new PathTiming();
        empty.register();
        empty.analyse();
        DUE.same("worst() without a timing path", empty.worst(0), NONE);
        DUE.same("slack() without a timing path", empty.slack(1, 0), NONE);
        DUE.same("still analysed", empty.paths(), 0);
    }

    private static void manyChangesNothing() {
        PathTiming x = Nets.tooMany();
        x.analyse();
        DUE.same("MANY", x.paths(), PathTiming.MANY);
        DUE.state("path()", () -> x.path(0, 0));
        DUE.state("element()", () -> x.element(0, 0, 0));
        DUE.same("still analysed", x.worst(0), 1000 - 9);
        DUE.same("MANY again", x.paths(), PathTiming.MANY);
    }
}
