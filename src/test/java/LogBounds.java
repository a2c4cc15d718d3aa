/** Boundary cases of the log and of what is told of all visits: promises 16 to 20. */
final class LogBounds {
    private final Bounds b;

    LogBounds(Bounds bounds) {
        b = bounds;
    }

    void all() {
        numberOfLogged();
        latestForty();
        refusedVisits();
        greatestRotations();
        waits();
        use();
    }

    /** Station 0 alone: visit n begins at 23 + n, up to the twentieth; then 5 ticks more for each poll. */
    private static TokenBus visits(int number) {
        TokenBus bus = Recipes.alone(60);
        bus.run(number);
        return bus;
    }

    private void numberOfLogged() {
        b.says(16, "Returns 0 to 40.");
        b.is("a new object", new TokenBus().logged(), 0);
        int[][] numbers = {{0, 0}, {1, 1}, {2, 2}, {39, 39}, {40, 40}, {41, 40}, {79, 40}, {80, 40}, {81, 40}, {200, 40}};
        for (int[] number : numbers) {
            b.is(number[0] + " visits", visits(number[0]).logged(), number[1]);
        }
        TokenBus bus = visits(40);
        bus.run(200);
        b.is("240 visits", bus.logged(), 40);
        b.is("undo()", bus.undo(), 3);
        b.is("40 visits again", bus.logged(), 40);
        b.is("undo()", bus.undo(), 2);
        b.is("none again", bus.logged(), 0);
    }

    private void latestForty() {
        b.says(17, "Visits are logged: the latest 40, the oldest first, each with t0, the address of its holder, its rotation, and the "
                + "number of messages that were sent in it and not spoilt.");
        b.visit("the only one", visits(1), 0, 24, 0, 0, 0);
        b.visit("the first of 40", visits(40), 0, 24, 0, 0, 0);
        b.visit("the last of 40", visits(40), 39, 24 + 39 + 5, 0, 1, 0);
        b.visit("the first of 41", visits(41), 0, 25, 0, 1, 0);
        b.visit("the second last of 41", visits(41), 38, 68, 0, 1, 0);
        b.visit("the last of 41", visits(41), 39, 74, 0, 6, 0);
        TokenBus all = visits(60);
        // Visit 21 begins 5 ticks later than without the poll of visit 20, visit 41 10 ticks later.
        for (int index = 0; index < 40; index++) {
            int number = 21 + index;
            b.is("visit(" + index + ", 0) of 60", all.visit(index, 0), 23 + number + (number > 40 ? 10 : 5));
        }
        TokenBus sent = Recipes.alone(500);
        for (int i = 0; i < 100; i++) {
            sent.give(0, 1, 0);
        }
        sent.run(1);
        b.says(17, "- `what`: 0 its t0, 1 the address of its holder, 2 its rotation, 3 the number of messages sent");
        b.visit("100 messages", sent, 0, 24, 0, 0, 100);
        TokenBus highest = Recipes.with(31);
        highest.run(2);
        b.visit("station 31", highest, 1, 273, 31, 1, 0);
    }

    private void refusedVisits() {
        b.says(17, "- `index`: index of the visit, 0 for the oldest one");
        b.is("visit(39, 0) of 200", visits(200).visit(39, 1), 0);
        b.says(17, "Throws `IndexOutOfBoundsException` if there is no such visit");
        for (int wrong : new int[] {-1, 40, 41, Bounds.LOWEST, Bounds.HIGHEST}) {
            b.refuses("visit(" + wrong + ", 0) of 200", Bounds.INDEX, () -> visits(200), x -> x.visit(wrong, 0));
            b.refuses("visit(" + wrong + ", 4) of 200", Bounds.INDEX, () -> visits(200), x -> x.visit(wrong, 4));
        }
        b.refuses("visit(39, 0) of 39", Bounds.INDEX, () -> visits(39), x -> x.visit(39, 0));
        b.refuses("visit(1, 0) of 1", Bounds.INDEX, () -> visits(1), x -> x.visit(1, 0));
        b.refuses("visit(0, 0) of 0", Bounds.INDEX, () -> visits(0), x -> x.visit(0, 0));
        b.refuses("visit(0, -1) of 0", Bounds.INDEX, TokenBus::new, x -> x.visit(0, -1));
        b.says(17, "Throws `IllegalArgumentException` if what is out of range");
        for (int wrong : new int[] {-1, 4, 5, Bounds.LOWEST, Bounds.HIGHEST}) {
            b.refuses("visit(0, " + wrong + ")", Bounds.ARGUMENT, Recipes::busy, x -> x.visit(0, wrong));
            b.refuses("visit(39, " + wrong + ")", Bounds.ARGUMENT, Recipes::full, x -> x.visit(39, wrong));
        }
    }

    private void greatestRotations() {
        b.says(18, "Returns the greatest rotation of all visits since the beginning.");
        b.is("no visit", new TokenBus().greatestRotation(), 0);
        b.is("one visit", visits(1).greatestRotation(), 0);
        b.is("two visits", visits(2).greatestRotation(), 1);
        b.is("the twentieth visit has a poll", visits(20).greatestRotation(), 1);
        b.is("the rotation of the next one tells", visits(21).greatestRotation(), 6);
        TokenBus bus = Recipes.alone(60);
        bus.give(0, 20, 9);
        bus.run(2);
        b.is("a long message", bus.greatestRotation(), 21);
        bus.run(200);
        b.is("longer ago than 40 visits", bus.greatestRotation(), 21);
        b.is("no such rotation is in the log", bus.visit(0, 2) < 21 && bus.visit(39, 2) < 21, true);
        bus.undo();
        bus.undo();
        b.is("undone", bus.greatestRotation(), 0);
    }

    private void waits() {
        b.says(19, "Returns the greatest wait, converted to double, or the sum of the waits, converted to double, divided by their number, "
                + "converted to double; 0.0 if none has been sent.");
        b.isReal("new, greatest", new TokenBus().waits(true), 0.0);
        b.isReal("new, mean", new TokenBus().waits(false), 0.0);
        b.isReal("none sent, greatest", Recipes.full().waits(true), 0.0);
        b.isReal("none sent, mean", Recipes.full().waits(false), 0.0);
        TokenBus bus = visits(2);
        bus.give(0, 3, 9);
        bus.run(1);
        b.isReal("one wait of 0, greatest", bus.waits(true), 0.0);
        b.isReal("one wait of 0, mean", bus.waits(false), 0.0);
        TokenBus parsed = Recipes.ringOfThree();
        Recipes.put(parsed, "s0;");
        parsed.parse();
        parsed.run(1);
        parsed.give(0, 1, 9);
        parsed.run(1);
        b.isReal("one wait of 0 behind a text, greatest", parsed.waits(true), 0.0);
        TokenBus three = Recipes.alone(60);
        three.give(0, 1, 9);
        three.give(0, 2, 9);
        three.give(0, 1, 9);
        three.run(1);
        b.isReal("24, 25 and 27, greatest", three.waits(true), 27.0);
        b.isReal("24, 25 and 27, mean", three.waits(false), 76.0 / 3.0);
        TokenBus spoilt = Recipes.alone(60);
        spoilt.give(0, 1, 9);
        spoilt.addNoise(24, 24);
        spoilt.run(1);
        b.isReal("one spoilt, greatest", spoilt.waits(true), 0.0);
        b.isReal("one spoilt, mean", spoilt.waits(false), 0.0);
        TokenBus late = Recipes.atLastStart();
        late.setOn(0, false);
        late.setOn(1, true);
        late.run(1);
        b.isReal("given at 0, sent at 900008", late.waits(true), 900008.0);
        b.isReal("given at 0, sent at 900008, mean", late.waits(false), 900008.0);
    }

    private void use() {
        b.says(20, "Returns the ticks of messages that were sent and not spoilt, converted to double, divided by the present time, "
                + "converted to double; 0.0 at time 0.");
        b.isReal("new", new TokenBus().use(), 0.0);
        TokenBus waiting = Recipes.with(0);
        waiting.give(0, 20, 9);
        b.isReal("at time 0", waiting.use(), 0.0);
        waiting.run(0);
        b.isReal("behind run(0)", waiting.use(), 0.0);
        b.isReal("nothing sent", visits(3).use(), 0.0);
        waiting.run(1);
        b.isReal("20 of 45", waiting.use(), 20.0 / 45.0);
        TokenBus spoilt = Recipes.alone(60);
        spoilt.give(0, 1, 9);
        spoilt.addNoise(24, 24);
        spoilt.run(1);
        b.isReal("one spoilt", spoilt.use(), 0.0);
        spoilt.run(1);
        b.isReal("sent the second time: 1 of 28", spoilt.use(), 1.0 / 28.0);
        TokenBus late = Recipes.atLastStart();
        late.setOn(0, false);
        late.setOn(1, true);
        late.run(1);
        b.isReal("1 of 900010", late.use(), 1.0 / 900010.0);
    }
}
