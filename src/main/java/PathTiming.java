import java.util.Arrays;

/**
 * Reckons whether a machine of gates and registers keeps its times: of all ways by which a change
 * goes from register to register, with the clock's own ways to both of them, the slack against the
 * next edge of the clock; the worst of all, the worst at each end, and the worst ones in order.
 */
public final class PathTiming {
    /** No time. */
    public static final int NONE = -2147483648;
    /** No time either: what analyse() and paths() answer instead of a number. */
    public static final int CYCLE = -1, TANGLE = -2, MANY = -3;

    private static final int NODES = 48;
    private static final int PINS = 3;
    /** A state is a node with a change: 2 times the node, and the change. */
    private static final int STATES = 2 * NODES;
    private static final int MOST_WAYS = 8;
    private static final int MOST_PATHS = 4000;
    private static final int LISTED = 20;
    private static final int GREATEST_DELAY = 10000;
    private static final int GREATEST_TIME = 1000000;
    /** Above every slack and room, yet far enough below the greatest int to be reckoned with. */
    private static final int FAR = 1000000000;
    /** A row goes over each node at most three times: two clock ways and a data way. */
    private static final int ROW = 3 * NODES;

    private static final int CLOCK = 0, INPUT = 1, GATE = 2, REGISTER = 3, OUTPUT = 4;
    private static final int DATA = 0, CK = 1;
    private static final int RISES = 0, FALLS = 1;
    private static final int SAME = 0, OTHER = 1, BOTH = 2;
    private static final int SETUP = 0, HOLD = 1;

    private final Net net;
    private final GateOrder order;
    private final ClockWays clockWays;
    private final Arrivals arrivals;
    private final Slacks slacks;
    private final WorstPaths worstPaths;
    private boolean analysed;

    /** The clock alone, with period 1000 and width 500. */
    public PathTiming() {
        net = new Net();
        order = new GateOrder(net);
        clockWays = new ClockWays(net, order);
        Spread spread = new Spread(net, order);
        Rooms rooms = new Rooms(net, clockWays);
        arrivals = new Arrivals(net, clockWays, new Spread(net, order), new Spread(net, order));
        slacks = new Slacks(net, clockWays, spread, rooms);
        worstPaths = new WorstPaths(net, clockWays, spread, rooms);
    }

    /** Sets the clock's times. */
    public void clock(int period, int width) throws IllegalArgumentException {
        if (!isWithin(period, 2, GREATEST_TIME) || !isWithin(width, 1, period - 1)) {
            throw new IllegalArgumentException();
        }
        net.period = period;
        net.width = width;
        analysed = false;
    }

    /** Adds an input and answers its number; NONE when the net is full. */
    public int input(int riseEarly, int riseLate, int fallEarly, int fallLate) throws IllegalArgumentException {
        if (!isInputTime(riseEarly, riseLate) || !isInputTime(fallEarly, fallLate)) {
            throw new IllegalArgumentException();
        }
        int node = addNode(INPUT, 0);
        if (node != NONE) {
            net.setStart(node, RISES, riseEarly, riseLate);
            net.setStart(node, FALLS, fallEarly, fallLate);
        }
        return node;
    }

    /** Adds a gate with 1 to 3 pins and answers its number; NONE when the net is full. */
    public int gate(int pins) throws IllegalArgumentException {
        if (!isWithin(pins, 1, PINS)) {
            throw new IllegalArgumentException();
        }
        return addNode(GATE, pins);
    }

    /** Adds a register and answers its number; NONE when the net is full. */
    public int register() {
        return addNode(REGISTER, 2);
    }

    /** Adds an output and answers its number; NONE when the net is full. */
    public int output() {
        return addNode(OUTPUT, 1);
    }

    /** Gives a pin its wire from a node. */
    public void wire(int node, int pin, int from, int early, int late) throws IllegalArgumentException {
        if (!net.hasPin(node, pin) || !net.maySend(from) || !isDelay(early, late)) {
            throw new IllegalArgumentException();
        }
        net.setWire(node * PINS + pin, from, early, late);
        analysed = false;
    }

    /** Sets which changes a gate's pin lets through: the same (0), the other one (1), both (2). */
    public void sense(int node, int pin, int sense) throws IllegalArgumentException {
        if (!net.hasPin(node, pin) || net.kind[node] != GATE || !isWithin(sense, SAME, BOTH)) {
            throw new IllegalArgumentException();
        }
        net.senses[node * PINS + pin] = sense;
        analysed = false;
    }

    /** Sets the delay of a gate's pin, or of a register (pin 1), for the change to which it goes. */
    public void delay(int node, int pin, int change, int early, int late) throws IllegalArgumentException {
        if (!net.hasDelay(node, pin) || !isBit(change) || !isDelay(early, late)) {
            throw new IllegalArgumentException();
        }
        if (net.kind[node] == GATE) {
            net.setGateDelay(node * PINS + pin, change, early, late);
        } else {
            net.setStart(node, change, early, late);
        }
        analysed = false;
    }

    /** Sets the setup and the hold of a register or output for a change. */
    public void check(int node, int change, int setup, int hold) throws IllegalArgumentException {
        if (!net.isEnd(node) || !isBit(change) || !isCheckTime(setup) || !isCheckTime(hold)) {
            throw new IllegalArgumentException();
        }
        net.setups[2 * node + change] = setup;
        net.holds[2 * node + change] = hold;
        analysed = false;
    }

    /** Takes the net as it is; answers how many ends have a timing path, or CYCLE, or TANGLE. */
    public int analyse() {
        analysed = false;
        if (order.leastOnCycle() != NONE) {
            return CYCLE;
        }
        order.sort();
        if (!clockWays.find()) {
            return TANGLE;
        }
        arrivals.reckon();
        slacks.reckon();
        worstPaths.forget();
        analysed = true;
        return slacks.countEnds();
    }

    /** The least gate of a cycle; NONE when there is no cycle. */
    public int cycle() {
        return order.leastOnCycle();
    }

    /** How many clock ways a register has. */
    public int ways(int node) throws IllegalStateException, IllegalArgumentException {
        needAnalysis();
        if (!net.isNode(node) || net.kind[node] != REGISTER) {
            throw new IllegalArgumentException();
        }
        return clockWays.count[node];
    }

    /** The greatest late, or least early, delay of the ways from starts with a base to a node. */
    public int arrival(int node, int change, int base, boolean late)
            throws IllegalStateException, IllegalArgumentException {
        needAnalysis();
        if (!net.isNode(node) || !isBit(change) || !isBit(base)) {
            throw new IllegalArgumentException();
        }
        return arrivals.timeAt(node, change, base, late);
    }

    /** The least slack at an end; NONE when it has no timing path. */
    public int slack(int node, int check) throws IllegalStateException, IllegalArgumentException {
        needAnalysis();
        if (!net.isEnd(node) || !isBit(check)) {
            throw new IllegalArgumentException();
        }
        return slacks.leastAt(node, check);
    }

    /** The least slack of all; NONE when there is no timing path. */
    public int worst(int check) throws IllegalStateException, IllegalArgumentException {
        needAnalysis();
        needBit(check);
        return slacks.leastOfAll(check);
    }

    /** The least slacks of all ends that are below 0, together. */
    public int total(int check) throws IllegalStateException, IllegalArgumentException {
        needAnalysis();
        needBit(check);
        return slacks.sumBelowZero(check);
    }

    /** The least period with which no setup slack would be below 0; NONE when there is none. */
    public int leastPeriod() throws IllegalStateException {
        needAnalysis();
        return slacks.leastPeriodKept();
    }

    /** How many timing paths there are; MANY when there are more than 4000. */
    public int paths() throws IllegalStateException {
        needAnalysis();
        return slacks.pathCount > MOST_PATHS ? MANY : slacks.pathCount;
    }

    /** The slack of the timing path that is k-th in the order of a check. */
    public int path(int check, int k)
            throws IllegalStateException, IllegalArgumentException, IndexOutOfBoundsException {
        needPath(check, k);
        worstPaths.collect();
        return worstPaths.listOf(check).slackOf(k);
    }

    /** Element i of the row of the timing path that is k-th; -1 when it has not so many. */
    public int element(int check, int k, int i)
            throws IllegalStateException, IllegalArgumentException, IndexOutOfBoundsException {
        needPath(check, k);
        worstPaths.collect();
        return worstPaths.listOf(check).elementAt(k, i);
    }

    private int addNode(int kind, int pins) {
        if (net.size >= NODES) {
            return NONE;
        }
        analysed = false;
        return net.add(kind, pins);
    }

    private void needAnalysis() {
        if (!analysed) {
            throw new IllegalStateException();
        }
    }

    private void needPath(int check, int k) {
        needAnalysis();
        if (slacks.pathCount > MOST_PATHS) {
            throw new IllegalStateException();
        }
        needBit(check);
        if (!isWithin(k, 0, Math.min(LISTED, slacks.pathCount) - 1)) {
            throw new IndexOutOfBoundsException();
        }
    }

    private static void needBit(int value) {
        if (!isBit(value)) {
            throw new IllegalArgumentException();
        }
    }

    private static boolean isBit(int value) {
        return value == 0 || value == 1;
    }

    private static boolean isWithin(int value, int least, int greatest) {
        return value >= least && value <= greatest;
    }

    private static boolean isDelay(int early, int late) {
        return early >= 0 && late <= GREATEST_DELAY && early <= late;
    }

    private static boolean isInputTime(int early, int late) {
        return early >= -GREATEST_TIME && late <= GREATEST_TIME && early <= late;
    }

    private static boolean isCheckTime(int time) {
        return isWithin(time, -GREATEST_DELAY, GREATEST_DELAY);
    }

    private static int elementOf(int node, int pin, int change) {
        return 8 * node + 2 * pin + change;
    }

    /** The nodes, wires and times as the calls have set them; a place is 3 times a node, and a pin. */
    private static final class Net {
        int period = 1000;
        int width = 500;
        int size = 1;
        final int[] kind = new int[NODES];
        final int[] pins = new int[NODES];
        /** The node from which the wire at each place comes; -1 without a wire. */
        final int[] source = new int[NODES * PINS];
        final int[] wireEarly = new int[NODES * PINS];
        final int[] wireLate = new int[NODES * PINS];
        final int[] senses = new int[NODES * PINS];
        /** By 2 times a gate's place, and the change. */
        final int[] gateEarly = new int[2 * NODES * PINS];
        final int[] gateLate = new int[2 * NODES * PINS];
        /** By the state of an input or register: the delay with which data ways begin there. */
        final int[] startEarly = new int[STATES];
        final int[] startLate = new int[STATES];
        /** By the state of a register or output. */
        final int[] setups = new int[STATES];
        final int[] holds = new int[STATES];

        Net() {
            kind[0] = CLOCK;
            Arrays.fill(source, -1);
        }

        int add(int newKind, int pinCount) {
            kind[size] = newKind;
            pins[size] = pinCount;
            size++;
            return size - 1;
        }

        boolean isNode(int node) {
            return isWithin(node, 0, size - 1);
        }

        boolean hasPin(int node, int pin) {
            return isNode(node) && isWithin(pin, 0, pins[node] - 1);
        }

        boolean hasDelay(int node, int pin) {
            return hasPin(node, pin) && (kind[node] == GATE || kind[node] == REGISTER && pin == CK);
        }

        boolean maySend(int node) {
            return isNode(node) && kind[node] != OUTPUT;
        }

        boolean isStart(int node) {
            return isNode(node) && (kind[node] == INPUT || kind[node] == REGISTER);
        }

        boolean isEnd(int node) {
            return isNode(node) && (kind[node] == OUTPUT || kind[node] == REGISTER);
        }

        void setWire(int place, int from, int early, int late) {
            source[place] = from;
            wireEarly[place] = early;
            wireLate[place] = late;
        }

        void setGateDelay(int place, int change, int early, int late) {
            gateEarly[2 * place + change] = early;
            gateLate[2 * place + change] = late;
        }

        void setStart(int node, int change, int early, int late) {
            startEarly[2 * node + change] = early;
            startLate[2 * node + change] = late;
        }

        boolean lets(int place, int was, int is) {
            if (senses[place] == BOTH) {
                return true;
            }
            return (senses[place] == OTHER) == (was != is);
        }

        int stepEarly(int place, int change) {
            return wireEarly[place] + gateEarly[2 * place + change];
        }

        int stepLate(int place, int change) {
            return wireLate[place] + gateLate[2 * place + change];
        }
    }

    /** The gates, each behind all gates that lead to it. */
    private static final class GateOrder {
        private final Net net;
        /** Of each gate, the gates that lead to it, as bits. */
        private final long[] leading = new long[NODES];
        final int[] gates = new int[NODES];
        int count;

        GateOrder(Net net) {
            this.net = net;
        }

        int leastOnCycle() {
            findLeading();
            for (int node = 0; node < net.size; node++) {
                if (has(leading[node], node)) {
                    return node;
                }
            }
            return NONE;
        }

        /** Without a cycle, a gate has more gates leading to it than any of these has. */
        void sort() {
            count = 0;
            for (int rank = 0; rank < NODES; rank++) {
                for (int node = 0; node < net.size; node++) {
                    if (net.kind[node] == GATE && Long.bitCount(leading[node]) == rank) {
                        gates[count] = node;
                        count++;
                    }
                }
            }
        }

        private void findLeading() {
            for (int node = 0; node < net.size; node++) {
                leading[node] = net.kind[node] == GATE ? gatesWiredTo(node) : 0L;
            }
            for (int middle = 0; middle < net.size; middle++) {
                for (int node = 0; node < net.size; node++) {
                    if (has(leading[node], middle)) {
                        leading[node] |= leading[middle];
                    }
                }
            }
        }

        private long gatesWiredTo(int gate) {
            long wired = 0L;
            for (int pin = 0; pin < net.pins[gate]; pin++) {
                int from = net.source[gate * PINS + pin];
                if (from >= 0 && net.kind[from] == GATE) {
                    wired |= 1L << from;
                }
            }
            return wired;
        }

        private static boolean has(long bits, int node) {
            return (bits >> node & 1L) != 0L;
        }
    }

    /** Of the ways from some starts to each state: how many, their least and their greatest delay. */
    private static final class Spread {
        private final Net net;
        private final GateOrder order;
        /** Not exact above the most paths: there it is enough to know that it is above. */
        final int[] count = new int[STATES];
        final int[] early = new int[STATES];
        final int[] late = new int[STATES];

        Spread(Net net, GateOrder order) {
            this.net = net;
            this.order = order;
        }

        void clear() {
            Arrays.fill(count, 0);
        }

        boolean reaches(int node) {
            return count[2 * node] > 0 || count[2 * node + 1] > 0;
        }

        void join(int state, int more, int moreEarly, int moreLate) {
            boolean isFirst = count[state] == 0;
            if (isFirst || moreEarly < early[state]) {
                early[state] = moreEarly;
            }
            if (isFirst || moreLate > late[state]) {
                late[state] = moreLate;
            }
            count[state] = Math.min(count[state] + more, MOST_PATHS + 1);
        }

        /** Goes on from all states that were joined, over all steps. */
        void spread() {
            for (int i = 0; i < order.count; i++) {
                int gate = order.gates[i];
                for (int pin = 0; pin < net.pins[gate]; pin++) {
                    spreadBy(gate, pin);
                }
            }
        }

        void spreadFrom(int start, int more) {
            clear();
            for (int state = 2 * start; state <= 2 * start + 1; state++) {
                join(state, more, net.startEarly[state], net.startLate[state]);
            }
            spread();
        }

        private void spreadBy(int gate, int pin) {
            int place = gate * PINS + pin;
            if (net.source[place] < 0) {
                return;
            }
            for (int was = 0; was < 2; was++) {
                int from = 2 * net.source[place] + was;
                for (int is = 0; is < 2 && count[from] > 0; is++) {
                    if (net.lets(place, was, is)) {
                        join(2 * gate + is, count[from], early[from] + net.stepEarly(place, is),
                                late[from] + net.stepLate(place, is));
                    }
                }
            }
        }
    }

    /**
     * The clock ways of every register. Ways that begin alike share the nodes of a tree, so that
     * what two ways share is seen from the last node of the tree that both have.
     */
    private static final class ClockWays {
        /** Each state that leads to a register is come to by no more ways than the register. */
        private static final int TREE = 2 + MOST_WAYS * STATES;

        private final Net net;
        private final GateOrder order;
        private final Spread counts;
        private final boolean[] needed = new boolean[STATES];

        private int size;
        private final int[] elements = new int[TREE];
        private final int[] parent = new int[TREE];
        private final int[] length = new int[TREE];
        private final int[] early = new int[TREE];
        private final int[] late = new int[TREE];
        /** The tree's nodes that stand for one state, as a chain of at most 8. */
        private final int[] firstOf = new int[STATES];
        private final int[] nextOf = new int[TREE];

        /** How many ways each node has; an input or output has one, which is none of the clock's. */
        final int[] count = new int[NODES];
        /** By 8 times a node, and the way: the way's last node in the tree, its base and delay. */
        final int[] last = new int[NODES * MOST_WAYS];
        final int[] base = new int[NODES * MOST_WAYS];
        final int[] wayEarly = new int[NODES * MOST_WAYS];
        final int[] wayLate = new int[NODES * MOST_WAYS];

        ClockWays(Net net, GateOrder order) {
            this.net = net;
            this.order = order;
            counts = new Spread(net, order);
        }

        /** Answers false, and finds nothing, when a register has too many ways. */
        boolean find() {
            if (isTangled()) {
                return false;
            }
            markNeeded();
            growTree();
            for (int node = 0; node < net.size; node++) {
                count[node] = 0;
                if (net.kind[node] == REGISTER) {
                    gather(node);
                } else if (net.kind[node] == INPUT || net.kind[node] == OUTPUT) {
                    addWay(node, -1, 0, 0, 0);
                }
            }
            return true;
        }

        boolean begins(int node) {
            return net.isStart(node) && count[node] > 0;
        }

        boolean ends(int node) {
            return net.isEnd(node) && count[node] > 0 && net.source[node * PINS + DATA] >= 0;
        }

        /** What two ways of two nodes share: late less early. */
        int credit(int node, int way, int otherNode, int otherWay) {
            int end = last[node * MOST_WAYS + way];
            int otherEnd = last[otherNode * MOST_WAYS + otherWay];
            int both = sharedEnd(end, otherEnd);
            if (both < 0) {
                return 0;
            }
            int shared = late[both] - early[both];
            if (node == otherNode && end == otherEnd) {
                int place = node * PINS + CK;
                shared += net.wireLate[place] - net.wireEarly[place];
            }
            return shared;
        }

        /** Writes a way's elements into a row from a place on; answers the place behind them. */
        int write(int node, int way, int[] row, int from) {
            int at = last[node * MOST_WAYS + way];
            if (at < 0) {
                return from;
            }
            int behind = from + length[at];
            for (int i = behind - 1; i >= from && at >= 0; i--) {
                row[i] = elements[at];
                at = parent[at];
            }
            return behind;
        }

        private boolean isTangled() {
            counts.clear();
            counts.join(RISES, 1, 0, 0);
            counts.join(FALLS, 1, 0, 0);
            counts.spread();
            for (int node = 0; node < net.size; node++) {
                int from = net.source[node * PINS + CK];
                if (net.kind[node] == REGISTER && from >= 0 && counts.count[2 * from + RISES] > MOST_WAYS) {
                    return true;
                }
            }
            return false;
        }

        private void markNeeded() {
            for (int state = 0; state < STATES; state++) {
                needed[state] = false;
            }
            for (int node = 0; node < net.size; node++) {
                int from = net.source[node * PINS + CK];
                if (net.kind[node] == REGISTER && from >= 0) {
                    needed[2 * from + RISES] = true;
                }
            }
            for (int i = order.count - 1; i >= 0; i--) {
                for (int pin = 0; pin < net.pins[order.gates[i]]; pin++) {
                    markNeededBy(order.gates[i], pin);
                }
            }
        }

        private void markNeededBy(int gate, int pin) {
            int place = gate * PINS + pin;
            if (net.source[place] < 0) {
                return;
            }
            for (int was = 0; was < 2; was++) {
                for (int is = 0; is < 2; is++) {
                    if (needed[2 * gate + is] && net.lets(place, was, is)) {
                        needed[2 * net.source[place] + was] = true;
                    }
                }
            }
        }

        private void growTree() {
            size = 0;
            Arrays.fill(firstOf, -1);
            grow(RISES, elementOf(0, 0, RISES), -1, 0, 0);
            grow(FALLS, elementOf(0, 0, FALLS), -1, 0, 0);
            for (int i = 0; i < order.count; i++) {
                int gate = order.gates[i];
                for (int pin = 0; pin < net.pins[gate]; pin++) {
                    growBy(gate, pin, RISES);
                    growBy(gate, pin, FALLS);
                }
            }
        }

        private void growBy(int gate, int pin, int change) {
            int place = gate * PINS + pin;
            if (net.source[place] < 0 || !needed[2 * gate + change]) {
                return;
            }
            int stepEarly = net.stepEarly(place, change);
            int stepLate = net.stepLate(place, change);
            for (int was = 0; was < 2; was++) {
                int at = net.lets(place, was, change) ? firstOf[2 * net.source[place] + was] : -1;
                for (int i = 0; i < MOST_WAYS && at >= 0; i++) {
                    grow(2 * gate + change, elementOf(gate, pin, change), at,
                            early[at] + stepEarly, late[at] + stepLate);
                    at = nextOf[at];
                }
            }
        }

        private void grow(int state, int newElement, int newParent, int newEarly, int newLate) {
            if (size >= TREE) {
                return;
            }
            elements[size] = newElement;
            parent[size] = newParent;
            length[size] = newParent < 0 ? 1 : length[newParent] + 1;
            early[size] = newEarly;
            late[size] = newLate;
            nextOf[size] = firstOf[state];
            firstOf[state] = size;
            size++;
        }

        private void gather(int register) {
            int place = register * PINS + CK;
            if (net.source[place] < 0) {
                return;
            }
            int at = firstOf[2 * net.source[place] + RISES];
            for (int i = 0; i < MOST_WAYS && at >= 0; i++) {
                addWay(register, at, baseOf(at), early[at] + net.wireEarly[place], late[at] + net.wireLate[place]);
                at = nextOf[at];
            }
        }

        private void addWay(int node, int newLast, int newBase, int newEarly, int newLate) {
            int way = node * MOST_WAYS + count[node];
            last[way] = newLast;
            base[way] = newBase;
            wayEarly[way] = newEarly;
            wayLate[way] = newLate;
            count[node]++;
        }

        private int baseOf(int treeNode) {
            int at = treeNode;
            for (int i = 0; i < NODES && parent[at] >= 0; i++) {
                at = parent[at];
            }
            return elements[at] == elementOf(0, 0, RISES) ? 0 : net.width;
        }

        /** The last node of the tree that two ways share; -1 when they share none. */
        private int sharedEnd(int end, int otherEnd) {
            int one = end;
            int other = otherEnd;
            for (int i = 0; i < STATES && one >= 0 && other >= 0 && one != other; i++) {
                if (length[one] >= length[other]) {
                    one = parent[one];
                } else {
                    other = parent[other];
                }
            }
            return one == other ? one : -1;
        }
    }

    /** When changes come to each node, by the base of the starts. */
    private static final class Arrivals {
        private final Net net;
        private final ClockWays clockWays;
        private final Spread fromZero;
        private final Spread fromWidth;

        Arrivals(Net net, ClockWays clockWays, Spread fromZero, Spread fromWidth) {
            this.net = net;
            this.clockWays = clockWays;
            this.fromZero = fromZero;
            this.fromWidth = fromWidth;
        }

        void reckon() {
            fromZero.clear();
            fromWidth.clear();
            for (int node = 0; node < net.size; node++) {
                for (int i = 0; net.isStart(node) && i < clockWays.count[node]; i++) {
                    begin(node, node * MOST_WAYS + i);
                }
            }
            fromZero.spread();
            fromWidth.spread();
        }

        int timeAt(int node, int change, int base, boolean late) {
            Spread spread = base == 0 ? fromZero : fromWidth;
            if (!net.isEnd(node)) {
                return timeOf(spread, 2 * node + change, late);
            }
            int place = node * PINS + DATA;
            if (net.source[place] < 0) {
                return NONE;
            }
            int time = timeOf(spread, 2 * net.source[place] + change, late);
            if (time == NONE) {
                return NONE;
            }
            return time + (late ? net.wireLate[place] : net.wireEarly[place]);
        }

        private void begin(int node, int way) {
            int base = clockWays.base[way];
            Spread spread = base == 0 ? fromZero : fromWidth;
            for (int state = 2 * node; state <= 2 * node + 1; state++) {
                spread.join(state, 1, base + clockWays.wayEarly[way] + net.startEarly[state],
                        base + clockWays.wayLate[way] + net.startLate[state]);
            }
        }

        private static int timeOf(Spread spread, int state, boolean late) {
            if (spread.count[state] == 0) {
                return NONE;
            }
            return late ? spread.late[state] : spread.early[state];
        }
    }

    /**
     * What the clock ways of a start and of an end leave to the data between them, by 8 times the
     * start's way, and the end's: a slack is the room less (hold: and) what the data needs.
     */
    private static final class Rooms {
        private final Net net;
        private final ClockWays clockWays;
        final int[] setup = new int[MOST_WAYS * MOST_WAYS];
        final int[] hold = new int[MOST_WAYS * MOST_WAYS];
        /** The least setup room of pairs whose edge moves with the period, and of all others. */
        int leastMoving;
        int leastFixed;
        int leastHold;

        Rooms(Net net, ClockWays clockWays) {
            this.net = net;
            this.clockWays = clockWays;
        }

        void measure(int start, int end) {
            leastMoving = FAR;
            leastFixed = FAR;
            leastHold = FAR;
            for (int i = 0; i < clockWays.count[start]; i++) {
                for (int j = 0; j < clockWays.count[end]; j++) {
                    measurePair(start, i, end, j);
                }
            }
        }

        private void measurePair(int start, int startWay, int end, int endWay) {
            int from = start * MOST_WAYS + startWay;
            int to = end * MOST_WAYS + endWay;
            int pair = startWay * MOST_WAYS + endWay;
            boolean moves = clockWays.base[to] <= clockWays.base[from];
            int edge = clockWays.base[to] + (moves ? net.period : 0);
            int credit = clockWays.credit(start, startWay, end, endWay);
            setup[pair] = edge + clockWays.wayEarly[to] + credit
                    - clockWays.base[from] - clockWays.wayLate[from];
            hold[pair] = clockWays.base[from] + clockWays.wayEarly[from] + credit
                    - edge - clockWays.wayLate[to] + net.period;
            if (moves) {
                leastMoving = Math.min(leastMoving, setup[pair]);
            } else {
                leastFixed = Math.min(leastFixed, setup[pair]);
            }
            leastHold = Math.min(leastHold, hold[pair]);
        }
    }

    /** The least slacks, and how many timing paths there are. */
    private static final class Slacks {
        private final Net net;
        private final ClockWays clockWays;
        private final Spread spread;
        private final Rooms rooms;
        /** By 2 times an end, and the check; FAR without a timing path. */
        private final int[] least = new int[2 * NODES];
        private int leastMoving;
        private int leastFixed;
        /** Not exact above the most paths. */
        int pathCount;

        Slacks(Net net, ClockWays clockWays, Spread spread, Rooms rooms) {
            this.net = net;
            this.clockWays = clockWays;
            this.spread = spread;
            this.rooms = rooms;
        }

        void reckon() {
            Arrays.fill(least, FAR);
            leastMoving = FAR;
            leastFixed = FAR;
            pathCount = 0;
            for (int start = 0; start < net.size; start++) {
                if (clockWays.begins(start)) {
                    spread.spreadFrom(start, clockWays.count[start]);
                    for (int end = 0; end < net.size; end++) {
                        reckonPair(start, end);
                    }
                }
            }
        }

        int countEnds() {
            int ends = 0;
            for (int node = 0; node < net.size; node++) {
                if (least[2 * node + SETUP] != FAR) {
                    ends++;
                }
            }
            return ends;
        }

        int leastAt(int node, int check) {
            int slack = least[2 * node + check];
            return slack == FAR ? NONE : slack;
        }

        int leastOfAll(int check) {
            int slack = FAR;
            for (int node = 0; node < net.size; node++) {
                slack = Math.min(slack, least[2 * node + check]);
            }
            return slack == FAR ? NONE : slack;
        }

        int sumBelowZero(int check) {
            int sum = 0;
            for (int node = 0; node < net.size; node++) {
                sum += Math.min(0, least[2 * node + check]);
            }
            return sum;
        }

        /** A longer period adds to every slack whose edge moves with it, and to no other. */
        int leastPeriodKept() {
            int period = Math.max(net.width + 1, net.period - leastMoving);
            return leastFixed < 0 || period > GREATEST_TIME ? NONE : period;
        }

        private void reckonPair(int start, int end) {
            if (!clockWays.ends(end)) {
                return;
            }
            int place = end * PINS + DATA;
            int needSetup = -FAR;
            int needHold = FAR;
            int ways = 0;
            for (int change = 0; change < 2; change++) {
                int from = 2 * net.source[place] + change;
                int to = 2 * end + change;
                if (spread.count[from] > 0) {
                    ways += spread.count[from];
                    needSetup = Math.max(needSetup, spread.late[from] + net.wireLate[place] + net.setups[to]);
                    needHold = Math.min(needHold, spread.early[from] + net.wireEarly[place] - net.holds[to]);
                }
            }
            if (ways > 0) {
                pathCount = Math.min(pathCount + ways * clockWays.count[end], MOST_PATHS + 1);
                rooms.measure(start, end);
                keepLeast(end, needSetup, needHold);
            }
        }

        private void keepLeast(int end, int needSetup, int needHold) {
            int leastRoom = Math.min(rooms.leastMoving, rooms.leastFixed);
            least[2 * end + SETUP] = Math.min(least[2 * end + SETUP], leastRoom - needSetup);
            least[2 * end + HOLD] = Math.min(least[2 * end + HOLD], rooms.leastHold + needHold);
            if (rooms.leastMoving != FAR) {
                leastMoving = Math.min(leastMoving, rooms.leastMoving - needSetup);
            }
            if (rooms.leastFixed != FAR) {
                leastFixed = Math.min(leastFixed, rooms.leastFixed - needSetup);
            }
        }
    }

    /** Finds the first timing paths in the order of each check, by going over all of them. */
    private static final class WorstPaths {
        private final Net net;
        private final ClockWays clockWays;
        private final Spread spread;
        private final Rooms rooms;
        private final PathList bySetup = new PathList();
        private final PathList byHold = new PathList();
        /** The elements of the gates of a data way, the last gate first. */
        private final int[] trail = new int[NODES];
        private final int[] row = new int[ROW];
        /** The pair whose data ways are gone over. */
        private int start;
        private int end;
        private int endChange;
        private boolean isCollected;

        WorstPaths(Net net, ClockWays clockWays, Spread spread, Rooms rooms) {
            this.net = net;
            this.clockWays = clockWays;
            this.spread = spread;
            this.rooms = rooms;
        }

        PathList listOf(int check) {
            return check == SETUP ? bySetup : byHold;
        }

        void forget() {
            isCollected = false;
        }

        /** Only where there are few enough timing paths: each of them is come to once. */
        void collect() {
            if (isCollected) {
                return;
            }
            isCollected = true;
            bySetup.size = 0;
            byHold.size = 0;
            for (int node = 0; node < net.size; node++) {
                if (clockWays.begins(node)) {
                    start = node;
                    spread.spreadFrom(start, clockWays.count[start]);
                    for (int other = 0; other < net.size; other++) {
                        collectTo(other);
                    }
                }
            }
        }

        private void collectTo(int node) {
            int place = node * PINS + DATA;
            if (!clockWays.ends(node) || !spread.reaches(net.source[place])) {
                return;
            }
            end = node;
            rooms.measure(start, end);
            for (int change = 0; change < 2; change++) {
                int from = 2 * net.source[place] + change;
                if (spread.count[from] > 0) {
                    endChange = change;
                    goBack(from, 0, net.wireEarly[place], net.wireLate[place]);
                }
            }
        }

        /** From a state back to the start, only over states to which the start leads. */
        private void goBack(int state, int depth, int early, int late) {
            int node = state >> 1;
            int change = state & 1;
            if (node == start) {
                offerAll(change, depth, early + net.startEarly[state], late + net.startLate[state]);
                return;
            }
            for (int pin = 0; pin < net.pins[node] && depth < NODES; pin++) {
                int place = node * PINS + pin;
                trail[depth] = elementOf(node, pin, change);
                for (int was = 0; was < 2; was++) {
                    if (leads(place, was, change)) {
                        goBack(2 * net.source[place] + was, depth + 1,
                                early + net.stepEarly(place, change), late + net.stepLate(place, change));
                    }
                }
            }
        }

        private boolean leads(int place, int was, int is) {
            int from = net.source[place];
            return from >= 0 && net.lets(place, was, is) && spread.count[2 * from + was] > 0;
        }

        private void offerAll(int startChange, int depth, int early, int late) {
            int needSetup = late + net.setups[2 * end + endChange];
            int needHold = early - net.holds[2 * end + endChange];
            for (int i = 0; i < clockWays.count[start]; i++) {
                for (int j = 0; j < clockWays.count[end]; j++) {
                    int pair = i * MOST_WAYS + j;
                    int setupSlack = rooms.setup[pair] - needSetup;
                    int holdSlack = rooms.hold[pair] + needHold;
                    if (bySetup.mayTake(setupSlack) || byHold.mayTake(holdSlack)) {
                        int length = writeRow(i, j, startChange, depth);
                        bySetup.offer(setupSlack, row, length);
                        byHold.offer(holdSlack, row, length);
                    }
                }
            }
        }

        private int writeRow(int startWay, int endWay, int startChange, int depth) {
            int at = clockWays.write(start, startWay, row, 0);
            row[at] = elementOf(start, net.kind[start] == REGISTER ? CK : 0, startChange);
            at++;
            for (int i = depth - 1; i >= 0; i--) {
                row[at] = trail[i];
                at++;
            }
            row[at] = elementOf(end, DATA, endChange);
            return clockWays.write(end, endWay, row, at + 1);
        }
    }

    /** The first timing paths in order, each in a slot that does not move. */
    private static final class PathList {
        int size;
        private final int[] slotOf = new int[LISTED];
        private final int[] slacks = new int[LISTED];
        private final int[] lengths = new int[LISTED];
        private final int[] rows = new int[LISTED * ROW];

        int slackOf(int k) {
            return k < size ? slacks[slotOf[k]] : NONE;
        }

        int elementAt(int k, int i) {
            if (k >= size || i < 0 || i >= lengths[slotOf[k]]) {
                return -1;
            }
            return rows[slotOf[k] * ROW + i];
        }

        boolean mayTake(int slack) {
            return size < LISTED || slack <= slacks[slotOf[LISTED - 1]];
        }

        void offer(int slack, int[] row, int length) {
            int k = size;
            while (k > 0 && comesBefore(slack, row, length, slotOf[k - 1])) {
                k--;
            }
            if (k >= LISTED) {
                return;
            }
            int slot = takeSlot();
            for (int i = size - 1; i > k; i--) {
                slotOf[i] = slotOf[i - 1];
            }
            slotOf[k] = slot;
            slacks[slot] = slack;
            lengths[slot] = length;
            System.arraycopy(row, 0, rows, slot * ROW, length);
        }

        /** A new slot while there is one, else the last path's, which falls out. */
        private int takeSlot() {
            if (size < LISTED) {
                size++;
                return size - 1;
            }
            return slotOf[LISTED - 1];
        }

        private boolean comesBefore(int slack, int[] row, int length, int slot) {
            if (slack != slacks[slot]) {
                return slack < slacks[slot];
            }
            int shorter = Math.min(length, lengths[slot]);
            for (int i = 0; i < shorter; i++) {
                int other = rows[slot * ROW + i];
                if (row[i] != other) {
                    return row[i] < other;
                }
            }
            return length < lengths[slot];
        }
    }
}
