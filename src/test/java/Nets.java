/** Small nets from which the tests set out, each as a new object. */
final class Nets {
    private Nets() {
    }

    /** Input 1 wired to output 2, all times 0; the clock of a new object. */
    static PathTiming through() {
        PathTiming x = new PathTiming();
        x.input(0, 0, 0, 0);
        x.output();
        x.wire(2, 0, 1, 0, 0);
        return x;
    }

    /** Clock 100, 40; input 1 wired to output 2: setup slacks 81 and 59, hold slacks -16 and -41. */
    static PathTiming inputToOutput() {
        PathTiming x = new PathTiming();
        x.clock(100, 40);
        x.input(3, 5, -2, 7);
        x.output();
        x.wire(2, 0, 1, 1, 4);
        x.check(2, 0, 10, 20);
        x.check(2, 1, 30, 40);
        return x;
    }

    /** Clock 100, 40; registers 1 and 2 on the clock, 1 wired to pin 0 of 2. */
    static PathTiming twoRegisters() {
        PathTiming x = new PathTiming();
        x.clock(100, 40);
        x.register();
        x.register();
        x.wire(1, 1, 0, 1, 2);
        x.wire(2, 1, 0, 3, 5);
        x.wire(2, 0, 1, 7, 11);
        x.delay(1, 1, 0, 13, 17);
        x.delay(1, 1, 1, 19, 23);
        x.check(2, 0, 29, 31);
        x.check(2, 1, 37, 41);
        return x;
    }

    /** Registers 1 (on the clock) and 2 (on the clock turned by gate 3), each wired to the other. */
    static PathTiming halfPeriods() {
        PathTiming x = new PathTiming();
        x.clock(100, 40);
        x.register();
        x.register();
        x.gate(1);
        x.sense(3, 0, 1);
        x.wire(3, 0, 0, 0, 0);
        x.wire(1, 1, 0, 0, 0);
        x.wire(2, 1, 3, 0, 0);
        x.wire(2, 0, 1, 5, 6);
        x.wire(1, 0, 2, 7, 8);
        return x;
    }

    /** Register 1 behind gate 3 behind gate 2 behind the clock, with so many pins of each wired. */
    static PathTiming tangle(int first, int second) {
        PathTiming x = new PathTiming();
        x.register();
        x.gate(3);
        x.gate(3);
        for (int pin = 0; pin < first; pin++) {
            x.wire(2, pin, 0, 0, 0);
        }
        for (int pin = 0; pin < second; pin++) {
            x.wire(3, pin, 2, 0, 0);
        }
        x.wire(1, 1, 3, 0, 0);
        return x;
    }

    /** Input 1, then gates each with its pins wired from the one before, then output 2. */
    static PathTiming chain(int... pins) {
        PathTiming x = new PathTiming();
        x.input(0, 0, 0, 0);
        x.output();
        int from = 1;
        for (int count : pins) {
            int gate = x.gate(count);
            for (int pin = 0; pin < count; pin++) {
                x.wire(gate, pin, from, 0, pin);
            }
            from = gate;
        }
        x.wire(2, 0, from, 0, 0);
        return x;
    }

    /** Input 1, all times 0, wired to so many outputs: two timing paths each. */
    static PathTiming fan(int outputs) {
        PathTiming x = new PathTiming();
        x.input(0, 0, 0, 0);
        for (int i = 0; i < outputs; i++) {
            x.wire(x.output(), 0, 1, 0, 0);
        }
        return x;
    }

    /** 4000 timing paths: outputs that take from different gates of a chain. */
    static PathTiming most() {
        PathTiming x = chain(2, 2, 2, 2, 2, 2, 2, 2, 2);
        // 1024 by output 2; then twice 1024, 512, twice 128, 64, 32, twice 16 and four times 8 more.
        for (int gate : new int[] {11, 11, 10, 8, 8, 7, 6, 5, 5, 4, 4, 4, 4}) {
            x.wire(x.output(), 0, gate, 0, 0);
        }
        return x;
    }

    /** The next number above 4000: every start has two changes, with as many ways from each. */
    static PathTiming tooMany() {
        PathTiming x = most();
        int input = x.input(0, 0, 0, 0);
        x.wire(x.output(), 0, input, 0, 0);
        return x;
    }

    /**
     * Nodes 0 to 7, of each kind and of each number of pins: input 1 and register 3 by gate 2 to
     * register 4, by gate 7 to output 5, and back to register 3. Register 4 has two clock ways by
     * gate 6. No two times are the same, so that a change of one shows.
     */
    static PathTiming sample() {
        PathTiming x = new PathTiming();
        x.clock(500, 200);
        x.input(-3, 5, 7, 11);
        x.gate(2);
        x.register();
        x.register();
        x.output();
        x.gate(1);
        x.gate(3);
        x.wire(2, 0, 1, 13, 17);
        x.wire(2, 1, 3, 19, 23);
        x.wire(3, 0, 4, 29, 31);
        x.wire(3, 1, 0, 37, 41);
        x.wire(4, 0, 2, 43, 47);
        x.wire(4, 1, 6, 53, 59);
        x.wire(5, 0, 7, 61, 67);
        x.wire(6, 0, 0, 71, 73);
        x.wire(7, 2, 4, 79, 83);
        x.sense(2, 1, 1);
        x.sense(6, 0, 2);
        x.delay(2, 0, 0, 89, 97);
        x.delay(2, 0, 1, 101, 103);
        x.delay(2, 1, 0, 107, 109);
        x.delay(2, 1, 1, 113, 127);
        x.delay(3, 1, 0, 131, 137);
        x.delay(3, 1, 1, 139, 149);
        x.delay(4, 1, 0, 151, 157);
        x.delay(4, 1, 1, 163, 167);
        x.delay(6, 0, 0, 173, 179);
        x.delay(7, 2, 0, 181, 191);
        x.delay(7, 2, 1, 193, 197);
        for (int end = 3; end <= 5; end++) {
            x.check(end, 0, 199 * end, -211 * end);
            x.check(end, 1, -223 * end, 227 * end);
        }
        return x;
    }

    /** The sample with outputs without wires behind it, up to the last node. */
    static PathTiming fullSample() {
        PathTiming x = sample();
        for (int node = 8; node < 48; node++) {
            x.output();
        }
        return x;
    }
}
