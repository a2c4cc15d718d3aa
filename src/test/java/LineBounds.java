/** Boundary cases of the times of the line, of noises and of ticks: promises 4, 6 and 15. */
final class LineBounds {
    private final Bounds b;

    LineBounds(Bounds bounds) {
        b = bounds;
    }

    void all() {
        times();
        refusedTimes();
        leastAndGreatestTimes();
        noises();
        refusedNoises();
        noisyTicks();
        refusedTicks();
        spoiltMessages();
        quietTicks();
        lastNoisyTick();
    }

    private void times() {
        b.says(4, "There are a target rotation time T, 1 to 500, initially 60; a slot time S, 1 to 20, initially 4; "
                + "and a gap count G, 1 to 20, initially 3.");
        b.settings("initially", new TokenBus(), 60, 4, 3);
        b.says(4, "- `target`: T, 1 to 500");
        taken(1, 4, 3);
        taken(500, 4, 3);
        b.says(4, "- `slot`: S, 1 to 20");
        taken(60, 1, 3);
        taken(60, 20, 3);
        b.says(4, "- `gap`: G, 1 to 20");
        taken(60, 4, 1);
        taken(60, 4, 20);
        b.says(4, "Returns the previous target rotation time.");
        TokenBus bus = new TokenBus();
        b.is("setTimes(1, 1, 1)", bus.setTimes(1, 1, 1), 60);
        b.is("setTimes(500, 20, 20)", bus.setTimes(500, 20, 20), 1);
        b.is("setTimes(500, 20, 20) again", bus.setTimes(500, 20, 20), 500);
    }

    private void taken(int target, int slot, int gap) {
        TokenBus bus = new TokenBus();
        b.is("setTimes(" + target + ", " + slot + ", " + gap + ")", bus.setTimes(target, slot, gap), 60);
        b.settings("set", bus, target, slot, gap);
    }

    private void refusedTimes() {
        int[] edges = {0, -1, Bounds.LOWEST, Bounds.HIGHEST};
        b.says(4, "Throws `IllegalArgumentException` if an argument is out of range");
        for (int wrong : edges) {
            refusedTime(wrong, 1, 1);
            refusedTime(500, wrong, 20);
            refusedTime(500, 20, wrong);
        }
        refusedTime(501, 1, 1);
        refusedTime(500, 21, 20);
        refusedTime(1, 1, 21);
        refusedTime(0, 21, 0);
    }

    private void refusedTime(int target, int slot, int gap) {
        b.refuses("setTimes(" + target + ", " + slot + ", " + gap + ")", Bounds.ARGUMENT, Recipes::busy,
                x -> x.setTimes(target, slot, gap));
    }

    private void leastAndGreatestTimes() {
        b.says(4, "T, 1 to 500");
        // The allowance of a first visit is T: messages of 20 ticks begin at 0, 20, .., 480.
        b.is("T = 1: the first message", sentByFirstVisit(1, 20), 1);
        b.is("T = 480: 480 is not less", sentByFirstVisit(480, 20), 24);
        b.is("T = 481", sentByFirstVisit(481, 20), 25);
        b.is("T = 500: 500 is not less", sentByFirstVisit(500, 20), 25);
        b.says(4, "S, 1 to 20");
        b.is("S = 1, station 0 makes the token", firstVisit(1, 20, 0), 6 + 1);
        b.is("S = 20, station 31 makes the token", firstVisit(20, 20, 31), 20 * 68 + 1);
        b.is("S = 1, a poll without an answer", firstVisit(1, 1, 0), 6 + 1 + 1 + 1);
        b.is("S = 20, a poll without an answer", firstVisit(20, 1, 0), 120 + 1 + 20 + 1);
    }

    private static int sentByFirstVisit(int target, int length) {
        TokenBus bus = Recipes.with(0);
        bus.setTimes(target, 4, 20);
        for (int i = 0; i < 30; i++) {
            bus.give(0, length, 0);
        }
        bus.run(1);
        return bus.visit(0, 3);
    }

    private static int firstVisit(int slot, int gap, int address) {
        TokenBus bus = Recipes.with(address);
        bus.setTimes(60, slot, gap);
        return bus.run(1);
    }

    private void noises() {
        b.says(6, "- `first`: first tick, 0 to last");
        b.is("addNoise(0, 0)", new TokenBus().addNoise(0, 0), 1);
        b.is("addNoise(0, 1000000)", new TokenBus().addNoise(0, 1000000), 1);
        b.is("addNoise(7, 7)", new TokenBus().addNoise(7, 7), 1);
        b.says(6, "- `last`: first to 1000000");
        b.is("addNoise(1000000, 1000000)", new TokenBus().addNoise(1000000, 1000000), 1);
        b.is("addNoise(999999, 1000000)", new TokenBus().addNoise(999999, 1000000), 1);
        b.says(6, "There are at most 20 noises, each from a first tick to a last tick, both included.");
        TokenBus bus = new TokenBus();
        for (int number = 1; number <= 20; number++) {
            b.is("noise " + number, bus.addNoise(3, 4), number);
            b.is("setting(5)", bus.setting(5), number);
        }
        b.is("undo() of the twentieth", bus.undo(), 3);
        b.is("another twentieth", bus.addNoise(9, 9), 20);
        b.is("isNoisy(9)", bus.isNoisy(9), true);
    }

    private void refusedNoises() {
        b.says(6, "Throws `IllegalArgumentException` if first or last is out of range");
        int[][] wrong = {{-1, -1}, {-1, 0}, {-1, 1000000}, {1, 0}, {8, 7}, {1000000, 999999}, {0, 1000001},
            {1000000, 1000001}, {1000001, 1000001}, {1000001, 1000000}, {Bounds.LOWEST, Bounds.HIGHEST},
            {Bounds.HIGHEST, Bounds.LOWEST}, {Bounds.LOWEST, Bounds.LOWEST}, {Bounds.HIGHEST, Bounds.HIGHEST},
            {Bounds.LOWEST, 5}, {5, Bounds.LOWEST}, {5, Bounds.HIGHEST}};
        for (int[] noise : wrong) {
            String call = "addNoise(" + noise[0] + ", " + noise[1] + ")";
            b.refuses(call, Bounds.ARGUMENT, Recipes::busy, x -> x.addNoise(noise[0], noise[1]));
            b.refuses(call + " as number 21", Bounds.ARGUMENT, Recipes::full, x -> x.addNoise(noise[0], noise[1]));
        }
        b.says(6, "Throws `IllegalStateException` if there are 20 noises");
        b.refuses("addNoise(4, 7)", Bounds.STATE, Recipes::full, x -> x.addNoise(4, 7));
        b.refuses("addNoise(0, 0)", Bounds.STATE, Recipes::full, x -> x.addNoise(0, 0));
        b.refuses("addNoise(0, 1000000)", Bounds.STATE, Recipes::full, x -> x.addNoise(0, 1000000));
    }

    private void noisyTicks() {
        b.says(15, "Tells whether a tick is in a noise.");
        TokenBus bus = new TokenBus();
        b.is("isNoisy(0) without noises", bus.isNoisy(0), false);
        bus.addNoise(5, 7);
        bus.addNoise(9, 9);
        bus.addNoise(7, 8);
        boolean[] due = {false, true, true, true, true, true, false};
        for (int i = 0; i < due.length; i++) {
            b.is("isNoisy(" + (4 + i) + ")", bus.isNoisy(4 + i), due[i]);
        }
        b.says(15, "- `tick`: 0 to 1000000");
        b.is("isNoisy(0)", bus.isNoisy(0), false);
        b.is("isNoisy(1000000)", bus.isNoisy(1000000), false);
        bus.addNoise(0, 0);
        bus.addNoise(1000000, 1000000);
        b.is("isNoisy(0) in a noise", bus.isNoisy(0), true);
        b.is("isNoisy(1)", bus.isNoisy(1), false);
        b.is("isNoisy(999999)", bus.isNoisy(999999), false);
        b.is("isNoisy(1000000) in a noise", bus.isNoisy(1000000), true);
        b.says(15, "There are at most 20 noises");
        TokenBus full = Recipes.full();
        for (int number = 0; number < 20; number++) {
            b.is("isNoisy(" + 10 * number + ")", full.isNoisy(10 * number), true);
            b.is("isNoisy(" + (10 * number + 1) + ")", full.isNoisy(10 * number + 1), false);
        }
    }

    private void refusedTicks() {
        b.says(15, "Throws `IllegalArgumentException` if tick is out of range");
        for (int wrong : new int[] {-1, 1000001, Bounds.LOWEST, Bounds.HIGHEST}) {
            b.refuses("isNoisy(" + wrong + ")", Bounds.ARGUMENT, Recipes::busy, x -> x.isNoisy(wrong));
            b.refuses("isNoisy(" + wrong + ")", Bounds.ARGUMENT, TokenBus::new, x -> x.isNoisy(wrong));
        }
    }

    private void spoiltMessages() {
        b.says(7, "A transmission that takes the ticks from a to b, both included, is spoilt if some noise has a tick from a to b.");
        // The message takes the ticks 24 to 28, passing takes 29, or 29 and 34 behind its noise.
        message(0, 23, 1, 30);
        message(23, 23, 1, 30);
        message(0, 24, 0, 30);
        message(24, 24, 0, 30);
        message(26, 26, 0, 30);
        message(28, 28, 0, 30);
        message(25, 27, 0, 30);
        message(23, 28, 0, 30);
        message(29, 29, 1, 35);
        message(28, 29, 0, 35);
        message(30, 1000000, 1, 30);
        TokenBus twice = Recipes.alone(60);
        twice.give(0, 5, 0);
        twice.addNoise(24, 25);
        twice.addNoise(25, 28);
        twice.run(1);
        b.is("two noises spoil one message", twice.count(2), 1);
        b.says(7, "Whatever takes d ticks at the present time t takes the ticks t to t + d - 1, and the present time becomes t + d.");
        for (int length = 1; length <= 20; length += 19) {
            TokenBus bus = Recipes.alone(60);
            bus.give(0, length, 0);
            bus.addNoise(24 + length - 1, 24 + length - 1);
            b.is("length " + length + ": the last tick is spoilt", bus.run(1), 24 + length + 1);
            b.is("sent", bus.count(1), 0);
            TokenBus behind = Recipes.alone(60);
            behind.give(0, length, 0);
            behind.addNoise(24 + length, 24 + length);
            b.is("length " + length + ": the tick behind is spoilt", behind.run(1), 24 + length + 1 + 4 + 1);
            b.is("sent", behind.count(1), 1);
        }
    }

    private void message(int first, int last, int sent, int time) {
        TokenBus bus = Recipes.alone(60);
        bus.give(0, 5, 0);
        bus.addNoise(first, last);
        b.is("noise " + first + " to " + last, bus.run(1), time);
        b.is("sent with noise " + first + " to " + last, bus.count(1), sent);
        b.is("spoilt by noise " + first + " to " + last, bus.count(2), (sent == 1 ? 0 : 1) + (time == 35 ? 1 : 0));
    }

    /** Making a token and waiting for an answer send nothing that could be spoilt. */
    private void quietTicks() {
        b.says(7, "A transmission that takes the ticks from a to b, both included, is spoilt");
        TokenBus making = Recipes.with(3);
        making.addNoise(0, 47);
        b.is("noise while the token is made", making.run(1), 49);
        b.is("spoilt", making.count(2), 0);
        TokenBus waiting = Recipes.with(3);
        waiting.setTimes(60, 4, 1);
        waiting.addNoise(49, 52);
        b.is("noise between the poll at 48 and the passing at 53", waiting.run(1), 54);
        b.is("spoilt", waiting.count(2), 0);
    }

    /**
     * Seven quiet visits end at 127; from there on every transmission is spoilt and takes 21 ticks with
     * its S, so that number 47614 takes the tick 127 + 21 * 47613 = 1000000.
     */
    private void lastNoisyTick() {
        b.says(6, "`last`: first to 1000000");
        b.is("with noise up to 1000000", spoiltUpTo(1000000), 47614);
        b.is("with noise up to 999999", spoiltUpTo(999999), 47613);
    }

    private static int spoiltUpTo(int last) {
        TokenBus bus = Recipes.with(0);
        bus.setTimes(60, 20, 20);
        bus.run(7);
        bus.addNoise(127, last);
        for (int i = 0; i < 7; i++) {
            bus.run(200);
        }
        return bus.count(2);
    }
}
