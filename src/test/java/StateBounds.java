/** Boundary cases of saved states, of the digest, of refused calls and of long use: promises 27 and 28. */
final class StateBounds {
    private static final int NONE = Bounds.NONE;
    private static final int[] UNDOABLE = {2, 3, 4, 5, 6, 7, 8, 26};

    private final Bounds b;

    StateBounds(Bounds bounds) {
        b = bounds;
    }

    void all() {
        savesEach();
        savesWithoutChange();
        savesNothingElse();
        fourStates();
        oldestFirst();
        undoneAndGoneOn();
        everythingButText();
        nothingSaved();
        firstListed();
        digestOfEach();
        digestOfAll();
        lastCalls();
    }

    /** Makes a call of a method that is undoable, one that changes something. */
    private static void call(TokenBus bus, int promise) {
        switch (promise) {
            case 2:
                bus.addStation(1);
                break;
            case 3:
                bus.setOn(0, false);
                break;
            case 4:
                bus.setTimes(500, 20, 20);
                break;
            case 5:
                bus.give(0, 20, 9);
                break;
            case 6:
                bus.addNoise(7, 1000000);
                break;
            case 7:
                bus.run(200);
                break;
            case 8:
                bus.loseToken();
                break;
            default:
                bus.parse();
        }
    }

    /** 3 saved states, so that one more drops none. */
    private static TokenBus withThreeSaved() {
        TokenBus bus = Recipes.busy();
        bus.undo();
        return bus;
    }

    private void savesEach() {
        for (int promise : UNDOABLE) {
            b.says(promise, promise == 26 ? "Undoable, if there is no syntax error." : "Undoable.");
            TokenBus tried = withThreeSaved();
            long before = tried.digest();
            call(tried, promise);
            b.is("it changes something", tried.digest() != before, true);
            b.is("undo()", tried.undo(), 3);
            b.is("digest() is as before", tried.digest(), before);
            b.onlyAnswers("the call and undo()", 3, StateBounds::withThreeSaved, x -> calledAndUndone(x, promise));
        }
        b.says(26, "Undoable, if there is no syntax error.");
        TokenBus wrong = Recipes.with(4);
        Recipes.put(wrong, "s1");
        b.is("parse()", wrong.parse(), -12);
        b.is("undo()", wrong.undo(), 0);
        b.is("the station is undone, not the text", wrong.setting(3), 0);
    }

    private static int calledAndUndone(TokenBus bus, int promise) {
        call(bus, promise);
        return bus.undo();
    }

    private void savesWithoutChange() {
        b.says(27, "Each successful call of a method whose description says \"undoable\" saves the state from before the call, even if the "
                + "call changes nothing");
        saves("setOn(0, true)", x -> x.setOn(0, true));
        saves("setTimes(60, 4, 3)", x -> x.setTimes(60, 4, 3));
        saves("run(0)", x -> x.run(0));
        saves("loseToken()", TokenBus::loseToken);
        TokenBus none = new TokenBus();
        none.run(200);
        b.is("run(200) without stations", none.undo(), 0);
        TokenBus empty = new TokenBus();
        empty.parse();
        b.is("parse() of no items", empty.undo(), 0);
        TokenBus off = Recipes.with(0);
        off.setOn(0, false);
        off.setOn(0, false);
        b.is("setOn(0, false) again", off.undo(), 2);
        b.is("it is off still", off.station(0, 0), 0);
    }

    /** Station 0 is the first saved call; the call is the second one and changes nothing but that. */
    private void saves(String call, Bounds.On body) {
        TokenBus bus = Recipes.with(0);
        long before = bus.digest();
        body.answer(bus);
        b.is(call + ", one saved state more", bus.digest(), before + 1);
        b.is("undo() of " + call, bus.undo(), 1);
        b.is("digest() behind it", bus.digest(), before);
    }

    private void savesNothingElse() {
        b.says(27, "Each successful call of a method whose description says \"undoable\"");
        TokenBus bus = Recipes.with(0);
        bus.give(0, 20, 9);
        bus.run(1);
        bus.give(0, 1, 1);
        bus.undo();
        long before = bus.digest();
        bus.setting(0);
        bus.station(0, 0);
        bus.addressAt(0);
        bus.message(0, 0);
        bus.count(0);
        bus.isNoisy(0);
        bus.logged();
        bus.visit(0, 0);
        bus.greatestRotation();
        bus.waits(true);
        bus.use();
        bus.completeAfter();
        bus.leastTarget(100);
        b.is("what only reads", bus.digest(), before);
        bus.append('x');
        bus.parse();
        bus.clearText();
        b.is("the text", bus.digest(), before);
        b.is("undo()", bus.undo(), 2);
    }

    private void fourStates() {
        b.says(27, "at most 4 states are saved, and the oldest is dropped first");
        for (int calls = 1; calls <= 6; calls++) {
            TokenBus bus = new TokenBus();
            for (int address = 0; address < calls; address++) {
                bus.addStation(address);
            }
            int saved = Math.min(4, calls);
            for (int left = saved - 1; left >= 0; left--) {
                b.is("undo() behind " + calls + " calls", bus.undo(), left);
                b.is("stations", bus.setting(3), calls - saved + left);
            }
            b.is("one more", String.valueOf(Check.outcome(bus::undo)).equals(Bounds.STATE.getName()), true);
            b.is("it changes nothing", bus.setting(3), calls - saved);
        }
        b.says(27, "Returns the number of saved states that remain.");
        b.is("of 4", Recipes.full().undo(), 3);
    }

    private void oldestFirst() {
        b.says(27, "the oldest is dropped first");
        TokenBus bus = Recipes.alone(60);
        long[] before = new long[12];
        for (int i = 0; i < 12; i++) {
            before[i] = bus.digest();
            if (i % 3 == 0) {
                bus.give(0, 1 + i, i % 10);
            } else {
                bus.run(i);
            }
        }
        for (int left = 3; left >= 0; left--) {
            b.is("undo()", bus.undo(), left);
            b.is("digest(), with fewer saved states than at that time", bus.digest(), before[8 + left] - 4 + left);
        }
    }

    private void undoneAndGoneOn() {
        b.says(27, "Restores the most recently saved state and removes it from the saved states.");
        TokenBus bus = Recipes.with(0, 1, 2, 3, 4);
        b.is("undo() of station 4", bus.undo(), 3);
        b.is("undo() of station 3", bus.undo(), 2);
        b.is("addStation(31)", bus.addStation(31), 4);
        b.is("addStation(30)", bus.addStation(30), 5);
        b.is("addStation(29)", bus.addStation(29), 6);
        int[] stations = {5, 4, 3, 2};
        for (int left = 3; left >= 0; left--) {
            b.is("undo()", bus.undo(), left);
            b.is("stations", bus.setting(3), stations[3 - left]);
        }
        b.is("addressAt(1)", bus.addressAt(1), 1);
    }

    private void everythingButText() {
        b.says(27, "The saved state contains everything except the station text.");
        TokenBus bus = Recipes.full();
        bus.parse();
        bus.clearText();
        Recipes.put(bus, "s30;");
        b.is("undo() of parse()", bus.undo(), 3);
        b.settings("as before", bus, 500, 1, 1, 8, 8, 20);
        b.is("messages", bus.setting(8), 100);
        b.is("noise 20", bus.isNoisy(190), true);
        b.is("log", bus.logged(), 40);
        b.is("the text is the new one", bus.parse(), 1);
        b.is("addressAt(0)", bus.addressAt(0), 30);
        TokenBus text = new TokenBus();
        text.addStation(3);
        text.append('s');
        text.append('9');
        text.append(';');
        b.is("undo()", text.undo(), 0);
        b.is("the text is as before", text.clearText(), 3);
        TokenBus grown = Recipes.ringOfThree();
        grown.append('s');
        grown.setOn(2, false);
        grown.clearText();
        grown.undo();
        b.is("the text is empty still", grown.clearText(), 0);
    }

    private void nothingSaved() {
        b.says(27, "Throws `IllegalStateException` if there is no saved state");
        b.refuses("undo() of a new object", Bounds.STATE, TokenBus::new, TokenBus::undo);
        b.refuses("undo() once too often", Bounds.STATE, StateBounds::allUndone, TokenBus::undo);
        b.refuses("undo() where only text was told", Bounds.STATE, StateBounds::onlyText, TokenBus::undo);
        b.refuses("undo() where only refused calls were made", Bounds.STATE, StateBounds::onlyRefused, TokenBus::undo);
    }

    private static TokenBus allUndone() {
        TokenBus bus = Recipes.full();
        for (int i = 0; i < 4; i++) {
            bus.undo();
        }
        return bus;
    }

    private static TokenBus onlyText() {
        TokenBus bus = new TokenBus();
        Recipes.put(bus, "s1;x");
        bus.parse();
        return bus;
    }

    private static TokenBus onlyRefused() {
        TokenBus bus = new TokenBus();
        Check.outcome(() -> bus.addStation(32));
        Check.outcome(() -> bus.run(201));
        Check.outcome(() -> bus.setTimes(0, 0, 0));
        Check.outcome(() -> bus.addNoise(1, 0));
        Check.outcome(() -> bus.setOn(0, true));
        Check.outcome(() -> bus.give(0, 1, 1));
        return bus;
    }

    /** Each pair of exceptions that a call may have reason for; what is left of them stands with the promises. */
    private void firstListed() {
        b.says(27, "A call that throws an exception changes nothing. If several exceptions apply, the one that is listed first is thrown.");
        b.refuses("addStation(32), 8 stations", Bounds.ARGUMENT, Recipes::full, x -> x.addStation(32));
        b.refuses("give(1, 0, 0), 100 messages", Bounds.NO_STATION, Recipes::full, x -> x.give(1, 0, 0));
        b.refuses("give(0, 0, 0), 100 messages", Bounds.ARGUMENT, Recipes::full, x -> x.give(0, 0, 0));
        b.refuses("addNoise(1, 0), 20 noises", Bounds.ARGUMENT, Recipes::full, x -> x.addNoise(1, 0));
        b.refuses("run(-1), too late", Bounds.ARGUMENT, Recipes::tooLate, x -> x.run(-1));
        b.refuses("station(1, 7)", Bounds.NO_STATION, Recipes::full, x -> x.station(1, 7));
        b.refuses("queued(1, 100)", Bounds.NO_STATION, Recipes::full, x -> x.queued(1, 100));
        b.refuses("message(100, 5)", Bounds.INDEX, Recipes::full, x -> x.message(100, 5));
        b.refuses("visit(40, 4)", Bounds.INDEX, Recipes::full, x -> x.visit(40, 4));
        b.refuses("waitOf(1), too late", Bounds.INDEX, Recipes::tooLate, x -> x.waitOf(1));
        b.refuses("leastTarget(101), too late", Bounds.ARGUMENT, Recipes::tooLate, x -> x.leastTarget(101));
        b.refuses("append(128), 120 bytes", Bounds.ARGUMENT, Recipes::full, x -> x.append(128));
    }

    private void digestOfEach() {
        b.says(28, "Start with h = 3169 and, for each of the following values v, set h = 31 * h + v");
        int[] values = {0, 60, 4, 3, 0, 0, 0, 0, NONE, 0, 0, 0, 0, 0, 0, 0, 0, 0, 0, 0};
        long empty = 3169;
        for (int value : values) {
            empty = 31 * empty + value;
        }
        b.is("a new object", new TokenBus().digest(), empty);
        TokenBus text = new TokenBus();
        text.append('s');
        long power = 1;
        for (int i = 1; i < values.length; i++) {
            power *= 31;
        }
        b.is("one byte", text.digest(), empty + power);
        TokenBus saved = new TokenBus();
        saved.run(0);
        b.is("one saved state", saved.digest(), empty + 1);
        for (int more = 2; more <= 6; more++) {
            saved.run(0);
            b.is(more + " saved states, 4 at most", saved.digest(), empty + Math.min(4, more));
        }
        b.is("of two new objects", new TokenBus().digest(), new TokenBus().digest());
    }

    private void digestOfAll() {
        b.says(28, "Returns the hash, with the overflow of long arithmetic ignored.");
        b.is("the most of everything", Recipes.full().digest(), new Hash(Recipes::full, 120, 4).value());
        b.is("something of everything", Recipes.busy().digest(), new Hash(Recipes::busy, 8, 4).value());
        b.is("too late", Recipes.tooLate().digest(), new Hash(Recipes::tooLate, 0, 4).value());
        b.is("three stations", Recipes.ringOfThree().digest(), new Hash(Recipes::ringOfThree, 0, 4).value());
        b.is("all undone", allUndone().digest(), new Hash(StateBounds::allUndone, 120, 0).value());
        b.is("only text", onlyText().digest(), new Hash(StateBounds::onlyText, 4, 0).value());
    }

    private void lastCalls() {
        b.says(28, "An object is used for at most 512 calls after it has been made; what later calls answer is free.");
        TokenBus single = Recipes.with(0);
        for (int call = 2; call <= 511; call++) {
            single.run(1);
        }
        TokenBus twin = Recipes.with(0);
        twin.run(200);
        twin.run(200);
        twin.run(107);
        twin.run(1);
        twin.run(1);
        twin.run(1);
        b.is("510 visits one by one, call 512", single.digest(), twin.digest());
        TokenBus much = Recipes.with(0);
        much.setTimes(60, 1, 20);
        for (int call = 3; call <= 511; call++) {
            much.run(200);
        }
        // 509 * 200 visits, each 20th one with a poll of 1 + 1 ticks.
        b.is("509 times 200 visits, call 512", much.setting(6), 6 + 509 * 200 + 509 * 10 * 2);
        TokenBus texts = Recipes.full();
        for (int call = 253; call <= 511; call++) {
            texts.parse();
        }
        b.is("259 texts, call 512", texts.undo(), 3);
        TokenBus asked = Recipes.alone(60);
        asked.give(0, 1, 0);
        for (int call = 4; call <= 511; call++) {
            asked.leastTarget(100);
        }
        b.is("508 questions, call 512", asked.leastTarget(1), 20);
    }
}
