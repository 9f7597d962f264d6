import java.util.ArrayList;
import java.util.Arrays;
import java.util.List;

/**
 * The document's terms taken at their word, with no thought of cost: every clock way, data way and
 * timing path is written out. It shares nothing with the program, so that both can be compared.
 */
final class Reference {
    static final int NONE = Integer.MIN_VALUE;
    static final int MOST = 60000;

    static final class Pin {
        int from = -1;
        int sense = 0;
        int wireEarly;
        int wireLate;
        final int[] early = new int[2];
        final int[] late = new int[2];
    }

    static final class Node {
        char kind;
        Pin[] pins;
        final int[] early = new int[2];
        final int[] late = new int[2];
        final int[] setup = new int[2];
        final int[] hold = new int[2];
    }

    /** A way: its elements, the delays of its steps, and the node and change at which it stands. */
    static final class Way {
        List<Integer> row = new ArrayList<>();
        List<Integer> spans = new ArrayList<>();
        int node;
        int change;
        int early;
        int late;

        Way copy() {
            Way w = new Way();
            w.row.addAll(row);
            w.spans.addAll(spans);
            w.node = node;
            w.change = change;
            w.early = early;
            w.late = late;
            return w;
        }
    }

    static final class ClockWay {
        Way way;
        int register;
        int base;
        int early;
        int late;
        int wireSpan;
    }

    static final class DataWay {
        Way way;
        ClockWay clock;
        int base;
    }

    static final class Timing {
        DataWay data;
        ClockWay clock;
        int end;
        int change;
        int early;
        int late;
        int[] row;
    }

    final List<Node> nodes = new ArrayList<>();
    int period = 1000;
    int width = 500;
    List<List<ClockWay>> clockWays;
    List<DataWay> dataWays;
    List<Timing> timings;

    Reference() {
        add('c', 0);
    }

    int add(char kind, int pins) {
        Node n = new Node();
        n.kind = kind;
        n.pins = new Pin[pins];
        for (int i = 0; i < pins; i++) {
            n.pins[i] = new Pin();
        }
        nodes.add(n);
        return nodes.size() - 1;
    }

    /** Whether gate b is wired to gate a by some chain of gates. */
    private boolean follows(int a, int b, boolean[] seen) {
        for (Pin p : nodes.get(a).pins) {
            if (p.from < 0 || nodes.get(p.from).kind != 'g') {
                continue;
            }
            if (p.from == b) {
                return true;
            }
            if (!seen[p.from]) {
                seen[p.from] = true;
                if (follows(p.from, b, seen)) {
                    return true;
                }
            }
        }
        return false;
    }

    int cycle() {
        for (int g = 0; g < nodes.size(); g++) {
            if (nodes.get(g).kind == 'g' && follows(g, g, new boolean[nodes.size()])) {
                return g;
            }
        }
        return NONE;
    }

    private List<Way> goOn(Way begin) {
        List<Way> all = new ArrayList<>();
        all.add(begin);
        for (int i = 0; i < all.size() && all.size() <= MOST; i++) {
            Way w = all.get(i);
            for (int g = 0; g < nodes.size(); g++) {
                if (nodes.get(g).kind != 'g') {
                    continue;
                }
                for (int p = 0; p < nodes.get(g).pins.length; p++) {
                    Pin pin = nodes.get(g).pins[p];
                    for (int c = 0; c < 2 && pin.from == w.node; c++) {
                        if (pin.sense == 0 && c != w.change || pin.sense == 1 && c == w.change) {
                            continue;
                        }
                        Way x = w.copy();
                        x.row.add(8 * g + 2 * p + c);
                        x.node = g;
                        x.change = c;
                        x.early += pin.wireEarly + pin.early[c];
                        x.late += pin.wireLate + pin.late[c];
                        x.spans.add(pin.wireLate + pin.late[c] - pin.wireEarly - pin.early[c]);
                        all.add(x);
                    }
                }
            }
        }
        return all;
    }

    /** 0 when all is found, -2 when a register has too many ways, 1 when there is too much to write out. */
    int find() {
        List<Way> fromClock = new ArrayList<>();
        for (int c = 0; c < 2; c++) {
            Way w = new Way();
            w.change = c;
            w.row.add(c);
            fromClock.addAll(goOn(w));
        }
        if (fromClock.size() > MOST) {
            return 1;
        }
        clockWays = new ArrayList<>();
        boolean tangle = false;
        for (int r = 0; r < nodes.size(); r++) {
            List<ClockWay> mine = new ArrayList<>();
            clockWays.add(mine);
            if (nodes.get(r).kind != 'r') {
                continue;
            }
            Pin ck = nodes.get(r).pins[1];
            for (Way w : fromClock) {
                if (w.node == ck.from && w.change == 0) {
                    ClockWay way = new ClockWay();
                    way.way = w;
                    way.register = r;
                    way.base = w.row.get(0) == 0 ? 0 : width;
                    way.early = w.early + ck.wireEarly;
                    way.late = w.late + ck.wireLate;
                    way.wireSpan = ck.wireLate - ck.wireEarly;
                    mine.add(way);
                }
            }
            tangle |= mine.size() > 8;
        }
        if (tangle) {
            return -2;
        }
        return findData() ? 0 : 1;
    }

    private boolean findData() {
        dataWays = new ArrayList<>();
        for (int s = 0; s < nodes.size(); s++) {
            Node n = nodes.get(s);
            for (int c = 0; c < 2; c++) {
                if (n.kind == 'i') {
                    Way w = new Way();
                    w.node = s;
                    w.change = c;
                    w.row.add(8 * s + c);
                    w.early = n.early[c];
                    w.late = n.late[c];
                    addData(w, null, 0);
                }
                for (ClockWay k : clockWays.get(s)) {
                    Way w = new Way();
                    w.node = s;
                    w.change = c;
                    w.row.addAll(k.way.row);
                    w.row.add(8 * s + 2 + c);
                    w.early = k.base + k.early + n.early[c];
                    w.late = k.base + k.late + n.late[c];
                    addData(w, k, k.base);
                }
            }
        }
        if (dataWays.size() > MOST) {
            return false;
        }
        timings = new ArrayList<>();
        for (int e = 0; e < nodes.size(); e++) {
            for (DataWay d : dataWays) {
                if (nodes.get(e).kind == 'o' && nodes.get(e).pins[0].from == d.way.node) {
                    timings.add(timing(d, e, null));
                }
                if (nodes.get(e).kind == 'r' && nodes.get(e).pins[0].from == d.way.node) {
                    for (ClockWay k : clockWays.get(e)) {
                        timings.add(timing(d, e, k));
                    }
                }
                if (timings.size() > MOST) {
                    return false;
                }
            }
        }
        return true;
    }

    private void addData(Way begin, ClockWay clock, int base) {
        if (dataWays.size() > MOST) {
            return;
        }
        for (Way w : goOn(begin)) {
            DataWay d = new DataWay();
            d.way = w;
            d.clock = clock;
            d.base = base;
            dataWays.add(d);
        }
    }

    private Timing timing(DataWay d, int end, ClockWay clock) {
        Pin pin = nodes.get(end).pins[0];
        Timing t = new Timing();
        t.data = d;
        t.clock = clock;
        t.end = end;
        t.change = d.way.change;
        t.early = d.way.early + pin.wireEarly;
        t.late = d.way.late + pin.wireLate;
        List<Integer> row = new ArrayList<>(d.way.row);
        row.add(8 * end + t.change);
        if (clock != null) {
            row.addAll(clock.way.row);
        }
        t.row = new int[row.size()];
        for (int i = 0; i < t.row.length; i++) {
            t.row[i] = row.get(i);
        }
        return t;
    }

    private static int credit(ClockWay a, ClockWay b) {
        if (a == null || b == null) {
            return 0;
        }
        int same = 0;
        while (same < a.way.row.size() && same < b.way.row.size()
                && a.way.row.get(same).equals(b.way.row.get(same))) {
            same++;
        }
        int sum = 0;
        for (int i = 1; i < same; i++) {
            sum += a.way.spans.get(i - 1);
        }
        return a == b ? sum + a.wireSpan : sum;
    }

    int slack(Timing t, int check, int withPeriod) {
        int base = t.clock == null ? 0 : t.clock.base;
        int clockEarly = t.clock == null ? 0 : t.clock.early;
        int clockLate = t.clock == null ? 0 : t.clock.late;
        int edge = base > t.data.base ? base : base + withPeriod;
        int credit = credit(t.data.clock, t.clock);
        Node end = nodes.get(t.end);
        if (check == 0) {
            return edge + clockEarly + credit - end.setup[t.change] - t.late;
        }
        return t.early + credit - edge - clockLate - end.hold[t.change] + withPeriod;
    }

    int ends() {
        boolean[] has = new boolean[nodes.size()];
        for (Timing t : timings) {
            has[t.end] = true;
        }
        int n = 0;
        for (boolean b : has) {
            n += b ? 1 : 0;
        }
        return n;
    }

    int slack(int end, int check) {
        int least = NONE;
        for (Timing t : timings) {
            if (t.end == end) {
                int s = slack(t, check, period);
                least = least == NONE ? s : Math.min(least, s);
            }
        }
        return least;
    }

    int worst(int check) {
        int least = NONE;
        for (Timing t : timings) {
            int s = slack(t, check, period);
            least = least == NONE ? s : Math.min(least, s);
        }
        return least;
    }

    int total(int check) {
        int sum = 0;
        for (int e = 0; e < nodes.size(); e++) {
            int s = slack(e, check);
            sum += s == NONE || s > 0 ? 0 : s;
        }
        return sum;
    }

    private boolean keeps(int withPeriod) {
        for (Timing t : timings) {
            if (slack(t, 0, withPeriod) < 0) {
                return false;
            }
        }
        return true;
    }

    int leastPeriod() {
        if (!keeps(1000000)) {
            return NONE;
        }
        int low = width + 1;
        int high = 1000000;
        while (low < high) {
            int mid = (low + high) / 2;
            if (keeps(mid)) {
                high = mid;
            } else {
                low = mid + 1;
            }
        }
        return low;
    }

    int arrival(int node, int change, int base, boolean late) {
        int best = NONE;
        char kind = nodes.get(node).kind;
        boolean atPin = kind == 'r' || kind == 'o';
        for (DataWay d : dataWays) {
            int at = atPin ? nodes.get(node).pins[0].from : node;
            if (d.way.node != at || d.way.change != change || (d.base == 0 ? 0 : 1) != base) {
                continue;
            }
            int time = late ? d.way.late : d.way.early;
            if (atPin) {
                time += late ? nodes.get(node).pins[0].wireLate : nodes.get(node).pins[0].wireEarly;
            }
            best = best == NONE ? time : late ? Math.max(best, time) : Math.min(best, time);
        }
        return best;
    }

    List<Timing> inOrder(int check) {
        List<Timing> sorted = new ArrayList<>(timings);
        sorted.sort((a, b) -> {
            int bySlack = Integer.compare(slack(a, check, period), slack(b, check, period));
            return bySlack != 0 ? bySlack : Arrays.compare(a.row, b.row);
        });
        return sorted;
    }
}
