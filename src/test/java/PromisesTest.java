import java.util.NoSuchElementException;

/** Each promise of the document with answers worked out by hand. */
public final class PromisesTest {
    private static final Check CHECK = new Check();
    private static final int NONE = -1;
    private static final Class<IllegalArgumentException> ARGUMENT = IllegalArgumentException.class;
    private static final Class<IllegalStateException> STATE = IllegalStateException.class;
    private static final Class<IndexOutOfBoundsException> INDEX = IndexOutOfBoundsException.class;
    private static final Class<NoSuchElementException> NO_STATION = NoSuchElementException.class;
    private static final int LOWEST = Integer.MIN_VALUE;
    private static final int HIGHEST = Integer.MAX_VALUE;

    private PromisesTest() {
    }

    public static void main(String[] args) {
        p01NewObject();
        p02AddStation();
        p03SetOn();
        p04SetTimes();
        p05Give();
        p06AddNoise();
        p07Run();
        p08LoseToken();
        p09Setting();
        p10Station();
        p11AddressAt();
        p12Queued();
        p13Message();
        p14Count();
        p15IsNoisy();
        p16And17Log();
        p18GreatestRotation();
        p19And20WaitsAndUse();
        p21WaitOf();
        p22CompleteAfter();
        p23LeastTarget();
        p24And25Text();
        p26Parse();
        p26SyntaxErrors();
        p27Undo();
        p28Digest();
        CHECK.end();
    }

    // ---- helpers

    private static void is(String call, long got, long due) {
        CHECK.is(call, got, due);
    }

    /** A call that throws, on an object that stays as it was. */
    private static void fails(TokenBus bus, String call, Class<? extends RuntimeException> due, Check.Call body) {
        long before = bus.digest();
        CHECK.fails(call, due, body);
        is(call + ": digest() behind it", bus.digest(), before);
    }

    private static TokenBus with(int... addresses) {
        return Recipes.with(addresses);
    }

    private static void put(TokenBus bus, String text) {
        Recipes.put(bus, text);
    }

    private static int parsed(TokenBus bus, String text) {
        put(bus, text);
        return bus.parse();
    }

    private static void settings(TokenBus bus, String when, int... due) {
        for (int what = 0; what < due.length; what++) {
            is(when + " setting(" + what + ")", bus.setting(what), due[what]);
        }
    }

    private static void station(TokenBus bus, String when, int address, int... due) {
        for (int what = 0; what < due.length; what++) {
            is(when + " station(" + address + ", " + what + ")", bus.station(address, what), due[what]);
        }
    }

    private static void counts(TokenBus bus, String when, int... due) {
        for (int what = 0; what < due.length; what++) {
            is(when + " count(" + what + ")", bus.count(what), due[what]);
        }
    }

    private static void queue(TokenBus bus, String when, int address, int... due) {
        is(when + " station(" + address + ", 4)", bus.station(address, 4), due.length);
        for (int place = 0; place < due.length; place++) {
            is(when + " queued(" + address + ", " + place + ")", bus.queued(address, place), due[place]);
        }
    }

    private static void latest(TokenBus bus, String when, int... due) {
        int index = bus.logged() - 1;
        for (int what = 0; what < due.length; what++) {
            is(when + " visit(" + index + ", " + what + ")", bus.visit(index, what), due[what]);
        }
    }

    // ---- promises

    private static void p01NewObject() {
        TokenBus bus = new TokenBus();
        settings(bus, "new", 60, 4, 3, 0, 0, 0, 0, NONE, 0);
        counts(bus, "new", 0, 0, 0, 0, 0, 0, 0);
        is("new logged()", bus.logged(), 0);
        is("new greatestRotation()", bus.greatestRotation(), 0);
        CHECK.isReal("new waits(true)", bus.waits(true), 0.0);
        CHECK.isReal("new waits(false)", bus.waits(false), 0.0);
        CHECK.isReal("new use()", bus.use(), 0.0);
        CHECK.is("new isNoisy(0)", bus.isNoisy(0), false);
        is("new completeAfter()", bus.completeAfter(), 0);
        is("new leastTarget(0)", bus.leastTarget(0), 20);
        is("new clearText()", bus.clearText(), 0);
        fails(bus, "new undo()", STATE, bus::undo);
        fails(bus, "new addressAt(0)", INDEX, () -> bus.addressAt(0));
        is("run(200) without stations", bus.run(200), 0);
        settings(bus, "without stations", 60, 4, 3, 0, 0, 0, 0, NONE, 0);
        counts(bus, "without stations", 0, 0, 0, 0, 0, 0, 0);
        is("two objects", new TokenBus().setting(3) + with(4).setting(3), 1);
    }

    private static void p02AddStation() {
        TokenBus bus = new TokenBus();
        is("addStation(31)", bus.addStation(31), 1);
        is("addStation(0)", bus.addStation(0), 2);
        is("addStation(7)", bus.addStation(7), 3);
        station(bus, "added", 31, 1, 0, 31, 31, 0, 0, NONE);
        station(bus, "added", 7, 1, 0, 7, 7, 0, 0, NONE);
        fails(bus, "addStation(-1)", ARGUMENT, () -> bus.addStation(-1));
        fails(bus, "addStation(32)", ARGUMENT, () -> bus.addStation(32));
        fails(bus, "addStation(highest)", ARGUMENT, () -> bus.addStation(HIGHEST));
        fails(bus, "addStation(lowest)", ARGUMENT, () -> bus.addStation(LOWEST));
        fails(bus, "addStation(7) again", STATE, () -> bus.addStation(7));
        for (int address = 10; address < 15; address++) {
            is("addStation(" + address + ")", bus.addStation(address), address - 6);
        }
        fails(bus, "a ninth station", STATE, () -> bus.addStation(20));
        fails(bus, "a ninth station out of range", ARGUMENT, () -> bus.addStation(32));
        is("undo()", bus.undo(), 3);
        is("stations then", bus.setting(3), 7);
        is("an eighth one again", bus.addStation(20), 8);
        station(bus, "again", 20, 1, 0, 20, 20, 0, 0, NONE);
        fails(bus, "station(14, 0)", NO_STATION, () -> bus.station(14, 0));
    }

    private static void p03SetOn() {
        TokenBus bus = Recipes.ringOfTwo();
        bus.give(2, 5, 3);
        CHECK.is("setOn(2, true) of one that is on", bus.setOn(2, true), true);
        station(bus, "still in the ring", 2, 1, 1, 0, 3, 1, 1, 33);
        CHECK.is("setOn(2, false)", bus.setOn(2, false), true);
        station(bus, "off", 2, 0, 0, 0, 3, 1, 1, 33);
        is("the holder is another one", bus.setting(7), 0);
        CHECK.is("setOn(2, false) again", bus.setOn(2, false), false);
        CHECK.is("setOn(2, true)", bus.setOn(2, true), false);
        station(bus, "on again", 2, 1, 0, 0, 3, 1, 1, 33);
        CHECK.is("setOn(0, false) of the holder", bus.setOn(0, false), true);
        is("no holder", bus.setting(7), NONE);
        is("none in the ring", bus.setting(4), 0);
        is("leaving so is not counted", bus.count(5), 0);
        is("undo()", bus.undo(), 3);
        is("the holder again", bus.setting(7), 0);
        fails(bus, "setOn(1, true)", NO_STATION, () -> bus.setOn(1, true));
        fails(bus, "setOn(-1, false)", NO_STATION, () -> bus.setOn(-1, false));
        fails(bus, "setOn(32, false)", NO_STATION, () -> bus.setOn(32, false));
        fails(bus, "setOn(highest, true)", NO_STATION, () -> bus.setOn(HIGHEST, true));
        TokenBus same = with(3);
        CHECK.is("setOn(3, true) of a new one", same.setOn(3, true), true);
        is("what changes nothing is saved, too", same.undo(), 1);
    }

    private static void p04SetTimes() {
        TokenBus bus = new TokenBus();
        is("setTimes(1, 1, 1)", bus.setTimes(1, 1, 1), 60);
        is("setTimes(500, 20, 20)", bus.setTimes(500, 20, 20), 1);
        settings(bus, "set", 500, 20, 20);
        fails(bus, "setTimes(0, 1, 1)", ARGUMENT, () -> bus.setTimes(0, 1, 1));
        fails(bus, "setTimes(501, 1, 1)", ARGUMENT, () -> bus.setTimes(501, 1, 1));
        fails(bus, "setTimes(1, 0, 1)", ARGUMENT, () -> bus.setTimes(1, 0, 1));
        fails(bus, "setTimes(1, 21, 1)", ARGUMENT, () -> bus.setTimes(1, 21, 1));
        fails(bus, "setTimes(1, 1, 0)", ARGUMENT, () -> bus.setTimes(1, 1, 0));
        fails(bus, "setTimes(1, 1, 21)", ARGUMENT, () -> bus.setTimes(1, 1, 21));
        fails(bus, "setTimes(lowest ..)", ARGUMENT, () -> bus.setTimes(LOWEST, HIGHEST, LOWEST));
        is("undo()", bus.undo(), 1);
        settings(bus, "before", 1, 1, 1);
        bus.undo();
        settings(bus, "at first", 60, 4, 3);
    }

    private static void p05Give() {
        TokenBus bus = with(4, 9);
        bus.setOn(9, false);
        is("give(4, 1, 0)", bus.give(4, 1, 0), 0);
        is("give(9, 20, 9) to one that is off", bus.give(9, 20, 9), 1);
        is("give(4, 20, 9)", bus.give(4, 20, 9), 2);
        is("give(4, 3, 5)", bus.give(4, 3, 5), 3);
        is("give(4, 3, 9)", bus.give(4, 3, 9), 4);
        is("give(4, 3, 0)", bus.give(4, 3, 0), 5);
        is("give(4, 3, 4)", bus.give(4, 3, 4), 6);
        queue(bus, "by urgency", 4, 2, 4, 3, 6, 0, 5);
        queue(bus, "by urgency", 9, 1);
        fails(bus, "give(3, 1, 1)", NO_STATION, () -> bus.give(3, 1, 1));
        fails(bus, "give(3, 0, 1)", NO_STATION, () -> bus.give(3, 0, 1));
        fails(bus, "give(32, 1, 1)", NO_STATION, () -> bus.give(32, 1, 1));
        fails(bus, "give(-1, 1, 1)", NO_STATION, () -> bus.give(-1, 1, 1));
        fails(bus, "give(4, 0, 1)", ARGUMENT, () -> bus.give(4, 0, 1));
        fails(bus, "give(4, 21, 1)", ARGUMENT, () -> bus.give(4, 21, 1));
        fails(bus, "give(4, 1, -1)", ARGUMENT, () -> bus.give(4, 1, -1));
        fails(bus, "give(4, 1, 10)", ARGUMENT, () -> bus.give(4, 1, 10));
        is("undo()", bus.undo(), 3);
        queue(bus, "one less", 4, 2, 4, 3, 0, 5);
        is("the number is given again", bus.give(4, 2, 1), 6);
        for (int number = 7; number < 100; number++) {
            is("message " + number, bus.give(9, 1, number % 10), number);
        }
        fails(bus, "a hundred and first message", STATE, () -> bus.give(4, 1, 1));
        fails(bus, "a hundred and first one of no length", ARGUMENT, () -> bus.give(4, 0, 1));
        fails(bus, "a hundred and first one for nobody", NO_STATION, () -> bus.give(5, 1, 1));
        is("message 99", bus.message(99, 1), 9);
        is("sending makes no room", bus.run(1), 4 * 14 + 3 + 20 + 3 + 2 + 1 + 3 + 1);
        fails(bus, "all numbers are used up", STATE, () -> bus.give(4, 1, 1));
    }

    private static void p06AddNoise() {
        TokenBus bus = new TokenBus();
        is("addNoise(0, 0)", bus.addNoise(0, 0), 1);
        is("addNoise(1000000, 1000000)", bus.addNoise(1000000, 1000000), 2);
        fails(bus, "addNoise(-1, 5)", ARGUMENT, () -> bus.addNoise(-1, 5));
        fails(bus, "addNoise(6, 5)", ARGUMENT, () -> bus.addNoise(6, 5));
        fails(bus, "addNoise(5, 1000001)", ARGUMENT, () -> bus.addNoise(5, 1000001));
        fails(bus, "addNoise(1000001, 1000001)", ARGUMENT, () -> bus.addNoise(1000001, 1000001));
        fails(bus, "addNoise(-2, -1)", ARGUMENT, () -> bus.addNoise(-2, -1));
        for (int number = 3; number <= 20; number++) {
            is("noise " + number, bus.addNoise(10 * number, 10 * number), number);
        }
        fails(bus, "noise 21", STATE, () -> bus.addNoise(5, 5));
        fails(bus, "noise 21 out of range", ARGUMENT, () -> bus.addNoise(5, 4));
        CHECK.is("isNoisy(5)", bus.isNoisy(5), false);
        is("undo()", bus.undo(), 3);
        is("noises then", bus.setting(5), 19);
        CHECK.is("isNoisy(200)", bus.isNoisy(200), false);
        CHECK.is("isNoisy(190)", bus.isNoisy(190), true);
    }

    private static void p07Run() {
        claimsTheToken();
        pollsTheGap();
        polls31Addresses();
        sendsByAllowance();
        stopsAtSpoiltMessages();
        spoilsByEachTick();
        spoilsPollsAndAnswers();
        passesOverSilentOnes();
        dropsAfterThreeFailures();
        asksUpToItself();
        endsAtLastStart();
    }

    private static void claimsTheToken() {
        TokenBus bus = with(5, 3);
        is("run(0)", bus.run(0), 0);
        is("run(0) is undoable", bus.undo(), 2);
        is("run(1): 4 * (6 + 2 * 3), and 1 to pass", bus.run(1), 49);
        settings(bus, "claimed", 60, 4, 3, 2, 1, 0, 49, 3, 0);
        station(bus, "claimed", 3, 1, 1, 3, 3, 0, 1, 48);
        counts(bus, "claimed", 1, 0, 0, 1, 0, 0, 0);
        latest(bus, "claimed", 48, 3, 0, 0);
        fails(bus, "run(-1)", ARGUMENT, () -> bus.run(-1));
        fails(bus, "run(201)", ARGUMENT, () -> bus.run(201));
        // A station of the ring goes before a lower one that is not in it.
        TokenBus ring = with(6, 9);
        ring.setTimes(60, 4, 20);
        ring.run(1);
        ring.addStation(2);
        is("loseToken()", ring.loseToken(), 6);
        is("made anew", ring.run(1), 4 * 18 + 1 + 4 * 18 + 1);
        is("the holder", ring.setting(7), 6);
        is("lost tokens", ring.count(3), 2);
        is("its rotation counts the making", ring.greatestRotation(), 73);
        // The gap pointer stays when a station comes in so, its next address does not.
        TokenBus alone = Recipes.ringOfTwo();
        alone.setOn(2, false);
        alone.setOn(0, false);
        is("nobody is on", alone.run(3), 39);
        counts(alone, "nobody is on", 3, 0, 0, 1, 1, 0, 0);
        alone.setOn(2, true);
        is("2 makes it anew", alone.run(1), 39 + 4 * 10 + 1);
        station(alone, "it was not in the ring", 2, 1, 1, 2, 3, 0, 2, 79);
    }

    private static void pollsTheGap() {
        TokenBus bus = with(3, 5);
        bus.setTimes(60, 4, 1);
        is("address 4 does not answer", bus.run(1), 48 + 1 + 4 + 1);
        is("the gap pointer", bus.station(3, 3), 4);
        is("address 5 answers", bus.run(1), 54 + 1 + 1 + 1);
        station(bus, "polled in", 5, 1, 1, 3, 5, 0, 0, NONE);
        station(bus, "the one that polled", 3, 1, 1, 5, 5, 0, 2, 54);
        is("polled in", bus.count(4), 1);
        is("the token goes to it", bus.setting(7), 5);
        is("5 polls 6", bus.run(1), 57 + 1 + 4 + 1);
        is("3 goes back to 4", bus.run(1), 63 + 1 + 4 + 1);
        is("the gap pointer goes round", bus.station(3, 3), 4);
        latest(bus, "rotation", 63, 3, 9, 0);
        // Every third visit only, and none where nothing is between.
        TokenBus third = with(7, 8);
        is("visits 1 and 2", third.run(2), 80 + 2);
        is("visit 3", third.run(1), 82 + 2 + 1);
        is("8 is in", third.setting(4), 2);
        is("nothing is between 7 and 8", third.run(6), 85 + 6 + 4 + 1);
        station(third, "8 has polled", 8, 1, 1, 7, 9, 0, 3, 89);
        station(third, "7 has not", 7, 1, 1, 8, 8, 0, 6, 95);
    }

    private static void polls31Addresses() {
        TokenBus bus = with(30);
        bus.setTimes(60, 1, 1);
        is("one round", bus.run(31), 66 + 31 * 3);
        is("it ends before itself", bus.station(30, 3), 29);
        bus.run(1);
        is("it skips itself", bus.station(30, 3), 31);
        bus.run(1);
        is("0 follows 31", bus.station(30, 3), 0);
    }

    private static void sendsByAllowance() {
        TokenBus bus = with(0);
        bus.setTimes(1, 4, 20);
        bus.give(0, 2, 4);
        bus.give(0, 2, 4);
        bus.give(0, 3, 5);
        bus.give(0, 3, 9);
        is("an urgent one uses up the allowance", bus.run(1), 24 + 3 + 1);
        latest(bus, "first", 24, 0, 0, 1);
        is("an urgent one goes without any", bus.run(1), 28 + 3 + 1);
        latest(bus, "second", 28, 0, 4, 1);
        is("another one does not", bus.run(1), 33);
        is("nor with an allowance of 0", bus.run(1), 34);
        queue(bus, "they stay", 0, 0, 1);
        is("message(3, 4)", bus.message(3, 4), 24);
        is("message(2, 4)", bus.message(2, 4), 28);
        // The elapsed time is compared before each message, not behind it.
        TokenBus slow = with(0);
        slow.setTimes(6, 4, 20);
        for (int i = 0; i < 4; i++) {
            slow.give(0, 3, 0);
        }
        is("0 and 3 are less than 6, 6 is not", slow.run(1), 24 + 6 + 1);
        TokenBus tight = with(0);
        tight.setTimes(7, 4, 20);
        for (int i = 0; i < 4; i++) {
            tight.give(0, 3, 0);
        }
        is("6 is less than 7", tight.run(1), 24 + 9 + 1);
        is("rotation 10, nothing is allowed", tight.run(1), 35);
        is("rotation 1, the last one goes", tight.run(1), 35 + 3 + 1);
        // Only the first urgent one goes without an allowance.
        TokenBus urgent = with(0);
        urgent.setTimes(1, 4, 20);
        urgent.give(0, 1, 9);
        urgent.give(0, 1, 9);
        urgent.give(0, 1, 9);
        is("one of three urgent ones", urgent.run(1), 24 + 1 + 1);
        is("and another one", urgent.run(1), 26 + 1 + 1);
    }

    private static void stopsAtSpoiltMessages() {
        TokenBus bus = with(0);
        bus.setTimes(100, 4, 20);
        bus.give(0, 5, 7);
        bus.give(0, 2, 1);
        bus.addNoise(26, 26);
        is("the first urgent one is spoilt", bus.run(1), 24 + 5 + 1);
        latest(bus, "spoilt", 24, 0, 0, 0);
        counts(bus, "spoilt", 1, 0, 1, 1, 0, 0, 0);
        queue(bus, "both stay", 0, 0, 1);
        is("both are sent", bus.run(1), 30 + 5 + 2 + 1);
        latest(bus, "sent", 30, 0, 6, 2);
        is("the wait counts from the sending", bus.message(0, 4), 30);
        is("the other wait", bus.message(1, 4), 35);
        counts(bus, "sent", 2, 2, 1, 1, 0, 0, 7);
        TokenBus second = with(0);
        second.setTimes(100, 4, 20);
        second.give(0, 2, 1);
        second.give(0, 2, 1);
        second.give(0, 2, 1);
        second.addNoise(27, 27);
        is("the second one is spoilt", second.run(1), 24 + 4 + 1);
        latest(second, "one of three", 24, 0, 0, 1);
        queue(second, "two stay", 0, 1, 2);
    }

    private static void spoilsByEachTick() {
        int[] times = {30, 30, 30, 30, 35};
        int[] spoilt = {0, 1, 1, 1, 1};
        int[] ticks = {23, 24, 27, 28, 29};
        for (int i = 0; i < ticks.length; i++) {
            TokenBus bus = with(0);
            bus.give(0, 5, 0);
            bus.addNoise(ticks[i], ticks[i]);
            is("a message in 24 to 28, noise at " + ticks[i], bus.run(1), times[i]);
            is("spoilt by " + ticks[i], bus.count(2), spoilt[i]);
            is("sent with " + ticks[i], bus.count(1), ticks[i] > 23 && ticks[i] < 29 ? 0 : 1);
        }
        TokenBus wide = with(0);
        wide.give(0, 5, 0);
        wide.addNoise(3, 24);
        wide.addNoise(28, 28);
        wide.run(1);
        is("two noises spoil one transmission", wide.count(2), 1);
    }

    private static void spoilsPollsAndAnswers() {
        TokenBus poll = with(3, 4);
        poll.setTimes(60, 4, 1);
        poll.addNoise(48, 48);
        is("a spoilt poll gets no answer", poll.run(1), 48 + 1 + 4 + 1);
        counts(poll, "spoilt poll", 1, 0, 1, 1, 0, 0, 0);
        TokenBus answer = with(3, 4);
        answer.setTimes(60, 4, 1);
        answer.addNoise(49, 49);
        is("a spoilt answer", answer.run(1), 48 + 2 + 4 + 1);
        counts(answer, "spoilt answer", 1, 0, 1, 1, 0, 0, 0);
        is("it is not in the ring", answer.station(4, 1), 0);
        TokenBus off = with(3, 4);
        off.setOn(4, false);
        off.setTimes(60, 4, 1);
        is("one that is off does not answer", off.run(1), 48 + 1 + 4 + 1);
        TokenBus empty = with(3);
        empty.setTimes(60, 4, 1);
        empty.addNoise(48, 48);
        empty.run(1);
        is("a poll of nobody is spoilt, too", empty.count(2), 1);
    }

    private static void passesOverSilentOnes() {
        TokenBus bus = Recipes.ringOfThree();
        bus.setOn(2, false);
        is("a poll, three failures, 3, 4", bus.run(1), 54 + 5 + 15 + 5 + 1);
        station(bus, "0", 0, 1, 1, 4, 1, 0, 4, 54);
        is("the holder", bus.setting(7), 4);
        counts(bus, "it had left already", 7, 0, 0, 1, 2, 0, 0);
        TokenBus noisy = Recipes.ringOfThree();
        noisy.setOn(2, false);
        noisy.addNoise(79, 79);
        is("the question is spoilt", noisy.run(1), 79 + 5 + 27 * 5);
        station(noisy, "0 is left alone", 0, 1, 1, 0, 1, 0, 4, 54);
        is("the holder stays", noisy.setting(7), 0);
        is("4 is in the ring still", noisy.setting(4), 2);
        counts(noisy, "spoilt question", 7, 0, 1, 1, 2, 0, 0);
        TokenBus once = Recipes.ringOfTwo();
        once.addNoise(39, 39);
        is("the second try", once.run(1), 39 + 5 + 1);
        is("has reached it", once.setting(7), 2);
        TokenBus twice = Recipes.ringOfTwo();
        twice.addNoise(39, 44);
        is("the third try", twice.run(1), 39 + 10 + 1);
        is("has reached it, too", twice.setting(7), 2);
        is("two were spoilt", twice.count(2), 2);
        is("nobody has left", twice.count(5), 0);
    }

    private static void dropsAfterThreeFailures() {
        TokenBus bus = Recipes.ringOfTwo();
        bus.addNoise(39, 49);
        is("three failures, and 3 to 31", bus.run(1), 39 + 15 + 29 * 5);
        station(bus, "0", 0, 1, 1, 0, 2, 0, 3, 39);
        station(bus, "2 keeps its next address", 2, 1, 0, 0, 3, 0, 1, 33);
        counts(bus, "2 has left", 4, 0, 3, 1, 1, 1, 0);
        is("the holder stays", bus.setting(7), 0);
        is("from now on it passes to itself", bus.run(1), 199 + 1);
    }

    private static void asksUpToItself() {
        TokenBus bus = with(0);
        bus.setTimes(60, 4, 20);
        bus.addNoise(24, 34);
        is("three failures, and 1 to 31", bus.run(1), 24 + 15 + 31 * 5);
        station(bus, "it does not drop itself", 0, 1, 1, 0, 0, 0, 1, 24);
        counts(bus, "alone", 1, 0, 3, 1, 0, 0, 0);
        is("the holder", bus.setting(7), 0);
        // 31 behind 0: the next address is the last one before its own, so none is asked.
        TokenBus last = with(0, 31);
        last.setTimes(60, 4, 1);
        is("31 is the last one polled", last.run(31), 24 + 30 * 6 + 3);
        last.setOn(31, false);
        last.loseToken();
        last.setTimes(60, 4, 20);
        is("nobody is left to ask", last.run(1), 207 + 24 + 15);
        is("its own address", last.station(0, 2), 0);
    }

    private static void endsAtLastStart() {
        TokenBus bus = Recipes.atLastStart();
        is("run(0) at 900000", bus.run(0), 900000);
        is("waitOf at 900000", bus.waitOf(0), NONE);
        is("completeAfter at 900000", bus.completeAfter(), 0);
        is("leastTarget at 900000", bus.leastTarget(1), 20);
        bus.setTimes(60, 1, 20);
        is("run(1) at 900000", bus.run(1), 900001);
        fails(bus, "run(0) above 900000", STATE, () -> bus.run(0));
        fails(bus, "run(201) above 900000", ARGUMENT, () -> bus.run(201));
        fails(bus, "waitOf(0) above 900000", STATE, () -> bus.waitOf(0));
        fails(bus, "waitOf(1) above 900000", INDEX, () -> bus.waitOf(1));
        fails(bus, "completeAfter() above 900000", STATE, bus::completeAfter);
        fails(bus, "leastTarget(0) above 900000", STATE, () -> bus.leastTarget(0));
        fails(bus, "leastTarget(101) above 900000", ARGUMENT, () -> bus.leastTarget(101));
        is("a text has its own time", parsed(bus, "s1;"), 1);
        is("run(0) at time 0", bus.run(0), 0);
        bus.undo();
        bus.undo();
        bus.undo();
        is("back at 900000", bus.run(0), 900000);
    }

    private static void p08LoseToken() {
        TokenBus bus = with(3);
        is("loseToken() without one", bus.loseToken(), NONE);
        is("it is undoable even so", bus.undo(), 1);
        bus.run(1);
        is("loseToken()", bus.loseToken(), 3);
        is("setting(7)", bus.setting(7), NONE);
        is("the station stays in the ring", bus.setting(4), 1);
        is("a token is lost when it is made anew", bus.count(3), 1);
        is("undo()", bus.undo(), 2);
        is("setting(7) again", bus.setting(7), 3);
    }

    private static void p09Setting() {
        TokenBus bus = Recipes.ringOfTwo();
        bus.give(2, 1, 1);
        bus.addStation(31);
        bus.addNoise(4, 5);
        settings(bus, "all", 60, 4, 20, 3, 2, 1, 39, 0, 1);
        fails(bus, "setting(-1)", ARGUMENT, () -> bus.setting(-1));
        fails(bus, "setting(9)", ARGUMENT, () -> bus.setting(9));
        fails(bus, "setting(lowest)", ARGUMENT, () -> bus.setting(LOWEST));
    }

    private static void p10Station() {
        TokenBus bus = Recipes.ringOfTwo();
        bus.give(2, 1, 1);
        station(bus, "all", 0, 1, 1, 2, 2, 0, 2, 30);
        station(bus, "all", 2, 1, 1, 0, 3, 1, 1, 33);
        fails(bus, "station(1, 0)", NO_STATION, () -> bus.station(1, 0));
        fails(bus, "station(-1, 0)", NO_STATION, () -> bus.station(-1, 0));
        fails(bus, "station(32, 9)", NO_STATION, () -> bus.station(32, 9));
        fails(bus, "station(0, -1)", ARGUMENT, () -> bus.station(0, -1));
        fails(bus, "station(0, 7)", ARGUMENT, () -> bus.station(0, 7));
    }

    private static void p11AddressAt() {
        TokenBus bus = with(17, 31, 0, 5);
        int[] due = {0, 5, 17, 31};
        for (int place = 0; place < due.length; place++) {
            is("addressAt(" + place + ")", bus.addressAt(place), due[place]);
        }
        fails(bus, "addressAt(4)", INDEX, () -> bus.addressAt(4));
        fails(bus, "addressAt(-1)", INDEX, () -> bus.addressAt(-1));
        fails(bus, "addressAt(highest)", INDEX, () -> bus.addressAt(HIGHEST));
        is("undo()", bus.undo(), 3);
        is("addressAt(1) then", bus.addressAt(1), 17);
        fails(bus, "addressAt(3) then", INDEX, () -> bus.addressAt(3));
    }

    private static void p12Queued() {
        TokenBus bus = with(2, 6);
        bus.give(2, 1, 3);
        bus.give(6, 1, 3);
        bus.give(2, 1, 8);
        bus.give(2, 1, 3);
        queue(bus, "given", 2, 2, 0, 3);
        queue(bus, "given", 6, 1);
        fails(bus, "queued(2, 3)", INDEX, () -> bus.queued(2, 3));
        fails(bus, "queued(2, -1)", INDEX, () -> bus.queued(2, -1));
        fails(bus, "queued(2, highest)", INDEX, () -> bus.queued(2, HIGHEST));
        fails(bus, "queued(3, 0)", NO_STATION, () -> bus.queued(3, 0));
        fails(bus, "queued(-1, -1)", NO_STATION, () -> bus.queued(-1, -1));
        bus.setTimes(1, 4, 20);
        bus.run(1);
        queue(bus, "the first one has gone", 2, 0, 3);
        bus.give(2, 1, 2);
        bus.give(2, 1, 9);
        queue(bus, "given later", 2, 5, 0, 3, 4);
        bus.setOn(2, false);
        queue(bus, "off", 2, 5, 0, 3, 4);
    }

    private static void p13Message() {
        TokenBus bus = with(2, 6);
        bus.setTimes(1, 4, 20);
        bus.run(2);
        bus.give(2, 20, 9);
        bus.give(6, 7, 0);
        int[] first = {20, 9, 2, 42, NONE};
        int[] second = {7, 0, 6, 42, NONE};
        for (int what = 0; what <= 4; what++) {
            is("message(0, " + what + ")", bus.message(0, what), first[what]);
            is("message(1, " + what + ")", bus.message(1, what), second[what]);
        }
        fails(bus, "message(2, 0)", INDEX, () -> bus.message(2, 0));
        fails(bus, "message(-1, 0)", INDEX, () -> bus.message(-1, 0));
        fails(bus, "message(2, 5)", INDEX, () -> bus.message(2, 5));
        fails(bus, "message(0, -1)", ARGUMENT, () -> bus.message(0, -1));
        fails(bus, "message(0, 5)", ARGUMENT, () -> bus.message(0, 5));
        bus.run(1);
        is("sent at once", bus.message(0, 4), 0);
        is("the other one waits", bus.message(1, 4), NONE);
    }

    private static void p14Count() {
        TokenBus bus = Recipes.ringOfThree();
        bus.give(0, 6, 9);
        bus.give(0, 6, 0);
        bus.addNoise(60, 60);
        is("one is sent, one is spoilt", bus.run(1), 54 + 12 + 5 + 1);
        counts(bus, "all", 7, 1, 1, 1, 2, 0, 6);
        bus.addNoise(72, 1000);
        bus.run(1);
        is("2 has dropped 4", bus.count(5), 1);
        fails(bus, "count(-1)", ARGUMENT, () -> bus.count(-1));
        fails(bus, "count(7)", ARGUMENT, () -> bus.count(7));
    }

    private static void p15IsNoisy() {
        TokenBus bus = new TokenBus();
        bus.addNoise(5, 7);
        bus.addNoise(9, 9);
        bus.addNoise(6, 6);
        boolean[] due = {false, true, true, true, false, true, false};
        for (int i = 0; i < due.length; i++) {
            CHECK.is("isNoisy(" + (4 + i) + ")", bus.isNoisy(4 + i), due[i]);
        }
        CHECK.is("isNoisy(0)", bus.isNoisy(0), false);
        CHECK.is("isNoisy(1000000)", bus.isNoisy(1000000), false);
        bus.addNoise(0, 1000000);
        CHECK.is("isNoisy(0) then", bus.isNoisy(0), true);
        CHECK.is("isNoisy(1000000) then", bus.isNoisy(1000000), true);
        fails(bus, "isNoisy(-1)", ARGUMENT, () -> bus.isNoisy(-1));
        fails(bus, "isNoisy(1000001)", ARGUMENT, () -> bus.isNoisy(1000001));
    }

    private static void p16And17Log() {
        TokenBus bus = with(0);
        bus.setTimes(60, 4, 20);
        bus.give(0, 5, 0);
        bus.run(1);
        is("logged() 1", bus.logged(), 1);
        latest(bus, "one", 24, 0, 0, 1);
        fails(bus, "visit(1, 0)", INDEX, () -> bus.visit(1, 0));
        fails(bus, "visit(-1, 0)", INDEX, () -> bus.visit(-1, 0));
        fails(bus, "visit(1, 4)", INDEX, () -> bus.visit(1, 4));
        fails(bus, "visit(0, -1)", ARGUMENT, () -> bus.visit(0, -1));
        fails(bus, "visit(0, 4)", ARGUMENT, () -> bus.visit(0, 4));
        bus.setTimes(60, 4, 19);
        bus.run(18);
        is("logged() 19", bus.logged(), 19);
        bus.setTimes(60, 4, 18);
        bus.run(16);
        bus.setTimes(60, 4, 20);
        bus.run(4);
        is("logged() 39", bus.logged(), 39);
        bus.run(1);
        is("logged() 40", bus.logged(), 40);
        is("the oldest one", bus.visit(0, 0), 24);
        is("the second one", bus.visit(1, 0), 30);
        bus.setTimes(60, 4, 19);
        bus.run(1);
        is("logged() stays 40", bus.logged(), 40);
        is("the oldest one is dropped", bus.visit(0, 0), 30);
        is("its rotation", bus.visit(0, 2), 6);
        is("it has sent nothing", bus.visit(0, 3), 0);
        is("the latest one", bus.visit(39, 0), bus.station(0, 6));
        fails(bus, "visit(40, 0)", INDEX, () -> bus.visit(40, 0));
        is("undo()", bus.undo(), 3);
        is("undo() brings the oldest one back", bus.visit(0, 0), 24);
        bus.setOn(0, false);
        bus.run(5);
        is("what is no visit is not logged", bus.visit(0, 0), 24);
    }

    private static void p18GreatestRotation() {
        TokenBus bus = with(0);
        bus.setTimes(60, 4, 20);
        bus.run(1);
        is("the first visit has none", bus.greatestRotation(), 0);
        bus.run(1);
        is("to itself", bus.greatestRotation(), 1);
        bus.give(0, 20, 9);
        bus.run(1);
        is("the rotation before the message", bus.greatestRotation(), 1);
        bus.run(1);
        is("the rotation behind it", bus.greatestRotation(), 21);
        bus.run(60);
        is("it outlasts the log", bus.greatestRotation(), 21);
        parsed(bus, "s1;");
        is("a new line", bus.greatestRotation(), 0);
    }

    private static void p19And20WaitsAndUse() {
        TokenBus bus = with(0);
        bus.setTimes(1, 4, 20);
        bus.give(0, 3, 9);
        bus.give(0, 4, 9);
        bus.run(1);
        CHECK.isReal("use() 3 / 28", bus.use(), 3.0 / 28.0);
        bus.run(1);
        CHECK.isReal("waits(true)", bus.waits(true), 28.0);
        CHECK.isReal("waits(false)", bus.waits(false), 26.0);
        CHECK.isReal("use() 7 / 33", bus.use(), 7.0 / 33.0);
        bus.give(0, 1, 9);
        bus.run(1);
        CHECK.isReal("waits(true) stays", bus.waits(true), 28.0);
        CHECK.isReal("waits(false) of 24, 28 and 0", bus.waits(false), 52.0 / 3.0);
        bus.addNoise(35, 35);
        bus.give(0, 9, 9);
        bus.run(1);
        CHECK.isReal("what is spoilt is no use", bus.use(), 8.0 / 45.0);
        parsed(bus, "s1;m1,9;");
        CHECK.isReal("use() at time 0", bus.use(), 0.0);
        CHECK.isReal("waits(true) of none", bus.waits(true), 0.0);
        CHECK.isReal("waits(false) of none", bus.waits(false), 0.0);
    }

    private static void p21WaitOf() {
        TokenBus bus = with(0, 2);
        bus.setTimes(60, 4, 1);
        bus.give(2, 5, 1);
        bus.give(0, 5, 1);
        bus.setTimes(60, 4, 1);
        long before = bus.digest();
        is("waitOf(1)", bus.waitOf(1), 24);
        // 24, the message, a poll of 1, to itself, a poll of 2 and its answer, the passing.
        is("waitOf(0)", bus.waitOf(0), 24 + 5 + 5 + 1 + 2 + 1);
        is("nothing has changed", bus.digest(), before);
        bus.run(3);
        is("it was so", bus.message(0, 4), 38);
        fails(bus, "waitOf(0), sent", STATE, () -> bus.waitOf(0));
        fails(bus, "waitOf(2)", INDEX, () -> bus.waitOf(2));
        fails(bus, "waitOf(-1)", INDEX, () -> bus.waitOf(-1));
        bus.give(2, 1, 9);
        bus.setOn(2, false);
        is("its station is off", bus.waitOf(2), NONE);
        // Station 0 is asked in at its 300th visit at the earliest by a gap count of 20: 20 * 15.
        TokenBus edge = with(0, 15);
        edge.setTimes(60, 1, 20);
        edge.give(15, 1, 9);
        is("301 visits are too many", edge.waitOf(0), NONE);
        edge.run(1);
        CHECK.is("300 visits are not", edge.waitOf(0) > 0, true);
    }

    private static void p22CompleteAfter() {
        TokenBus bus = with(0, 2, 4);
        bus.setTimes(60, 4, 1);
        long before = bus.digest();
        is("completeAfter()", bus.completeAfter(), 5);
        is("nothing has changed", bus.digest(), before);
        bus.run(4);
        is("one more", bus.completeAfter(), 1);
        bus.run(1);
        is("now", bus.completeAfter(), 0);
        bus.addStation(31);
        bus.setOn(31, false);
        is("one that is off does not count", bus.completeAfter(), 0);
        TokenBus edge = with(0, 15);
        edge.setTimes(60, 1, 20);
        is("300 visits", edge.completeAfter(), 300);
        TokenBus later = with(0, 16);
        later.setTimes(60, 1, 20);
        later.run(19);
        is("301 visits are too many", later.completeAfter(), NONE);
        later.run(1);
        is("300 visits are not", later.completeAfter(), 300);
        later.setOn(16, false);
        later.setOn(0, false);
        is("nobody is on", later.completeAfter(), 0);
    }

    private static void p23LeastTarget() {
        TokenBus bus = with(0, 9);
        bus.setTimes(500, 4, 20);
        is("nothing waits", bus.leastTarget(0), 20);
        bus.give(0, 20, 0);
        bus.give(0, 20, 0);
        bus.give(0, 20, 0);
        long before = bus.digest();
        is("leastTarget(0)", bus.leastTarget(0), NONE);
        is("leastTarget(1): three in a visit", bus.leastTarget(1), 60);
        is("leastTarget(2): no allowance in the second", bus.leastTarget(2), 60);
        is("leastTarget(3): two, none, one", bus.leastTarget(3), 40);
        is("leastTarget(4)", bus.leastTarget(4), 40);
        is("leastTarget(5): one in every other visit", bus.leastTarget(5), 20);
        is("leastTarget(100)", bus.leastTarget(100), 20);
        is("nothing has changed", bus.digest(), before);
        fails(bus, "leastTarget(-1)", ARGUMENT, () -> bus.leastTarget(-1));
        fails(bus, "leastTarget(101)", ARGUMENT, () -> bus.leastTarget(101));
        bus.give(9, 1, 0);
        is("9 is not asked in", bus.leastTarget(20), NONE);
        bus.setOn(9, false);
        is("what waits at one that is off does not count", bus.leastTarget(1), 60);
        TokenBus much = with(0);
        for (int i = 0; i < 20; i++) {
            much.give(0, 20, 0);
        }
        is("400 ticks need a target of 400", much.leastTarget(1), 400);
        much.give(0, 20, 0);
        is("420 ticks need more", much.leastTarget(1), NONE);
    }

    private static void p24And25Text() {
        TokenBus bus = with(1);
        is("append(0)", bus.append(0), 1);
        is("append(127)", bus.append(127), 2);
        fails(bus, "append(-1)", ARGUMENT, () -> bus.append(-1));
        fails(bus, "append(128)", ARGUMENT, () -> bus.append(128));
        for (int length = 3; length <= 120; length++) {
            is("length " + length, bus.append('s'), length);
        }
        fails(bus, "byte 121", STATE, () -> bus.append('s'));
        fails(bus, "byte 121 out of range", ARGUMENT, () -> bus.append(128));
        is("the text is not undone", bus.undo(), 0);
        fails(bus, "nothing of it was saved", STATE, bus::undo);
        is("clearText()", bus.clearText(), 120);
        is("clearText() again", bus.clearText(), 0);
        is("append behind it", bus.append('s'), 1);
    }

    private static void p26Parse() {
        TokenBus bus = Recipes.ringOfThree();
        bus.give(0, 20, 9);
        bus.run(2);
        bus.addNoise(3, 400);
        bus.give(4, 2, 2);
        // What-if calls must leave nothing behind that a text could take over.
        is("a what-if call", bus.waitOf(1) > 0 ? 1 : 0, 1);
        long before = bus.digest();
        is("parse()", parsed(bus, "s31;m20,0;m1,9;s0;s05;m07,5;"), 6);
        settings(bus, "parsed", 60, 4, 1, 3, 0, 0, 0, NONE, 3);
        counts(bus, "parsed", 0, 0, 0, 0, 0, 0, 0);
        is("the log is empty", bus.logged(), 0);
        is("no rotation", bus.greatestRotation(), 0);
        CHECK.isReal("no wait", bus.waits(true), 0.0);
        CHECK.is("no noise is left", bus.isNoisy(5), false);
        station(bus, "parsed", 0, 1, 0, 0, 0, 0, 0, NONE);
        station(bus, "parsed", 5, 1, 0, 5, 5, 1, 0, NONE);
        queue(bus, "parsed", 31, 1, 0);
        queue(bus, "parsed", 5, 2);
        int[][] messages = {{20, 0, 31, 0, NONE}, {1, 9, 31, 0, NONE}, {7, 5, 5, 0, NONE}};
        for (int number = 0; number < 3; number++) {
            for (int what = 0; what <= 4; what++) {
                is("message " + number, bus.message(number, what), messages[number][what]);
            }
        }
        is("undo() is one step", bus.undo(), 3);
        bus.clearText();
        is("undo() brings all back, with 3 saved states instead of 4", bus.digest(), before - 1);
        CHECK.is("the noise, too", bus.isNoisy(400), true);
        parsed(bus, "s0;m2,9;m2,1;");
        is("the message waits for the token", bus.run(1), 24 + 4 + 5 + 1);
        CHECK.isReal("the greatest wait", bus.waits(true), 26.0);
        CHECK.isReal("the mean wait", bus.waits(false), 25.0);
        counts(bus, "the new line", 1, 2, 0, 1, 0, 0, 4);
        latest(bus, "the new line", 24, 0, 0, 2);
        is("one visit is logged", bus.logged(), 1);
        put(bus, "s12;");
        is("a shorter text behind a longer one", parsed(bus, "s1"), -12);
        is("nor a sign of it", parsed(bus, "s"), -11);
        bus.clearText();
        is("no items", bus.parse(), 0);
        settings(bus, "no items", 60, 4, 1, 0, 0, 0, 0, NONE, 0);
        is("eight stations", parsed(bus, "s1;s2;s3;s4;s5;s6;s7;s8;m1,1;"), 9);
        is("they are eight", bus.setting(3), 8);
        is("the text stays", bus.parse(), 9);
        is("clearText()", bus.clearText(), 29);
    }

    private static void p26SyntaxErrors() {
        Object[][] texts = {
            {"x", 0}, {"S1;", 0}, {";", 0}, {" s1;", 0}, {"1", 0}, {"m1,1;", 0}, {"\0", 0},
            {"s", 1}, {"sx", 1}, {"s;", 1}, {"s-1;", 1}, {"s1", 2}, {"s12", 3}, {"s1,", 2}, {"s1 ;", 2},
            {"s123", 3}, {"s001;", 3}, {"s999", 3}, {"s1;;", 3}, {"s1;x", 3}, {"s1; s2;", 3},
            {"s32;", 1}, {"s32", 1}, {"s32x", 1}, {"s99,", 1}, {"s31x", 3}, {"s31", 3}, {"s3", 2},
            {"s1;s1;", 4}, {"s1;s1", 4}, {"s1;s01;", 4}, {"s01;s1x", 5}, {"s1;s10", 6}, {"s1;s100;", 6},
            {"s1;m", 4}, {"s1;mx", 4}, {"s1;m,", 4}, {"s1;m0,1;", 4}, {"s1;m0", 4}, {"s1;m00;", 4},
            {"s1;m21,1;", 4}, {"s1;m99", 4}, {"s1;m21x", 4}, {"s1;m210", 6}, {"s1;m020,1;", 6}, {"s1;m20", 6},
            {"s1;m5", 5}, {"s1;m5;", 5}, {"s1;m5,", 6}, {"s1;m5,;", 6}, {"s1;m5,x", 6}, {"s1;m5,1", 7},
            {"s1;m5,12;", 7}, {"s1;m5,1,", 7}, {"s1;m5,1;m", 9}, {"s1;m5 ,1;", 5}, {"s1;m5, 1;", 6},
            {"s1;s2;s3;s4;s5;s6;s7;s8;s9;", 24}, {"s1;s2;s3;s4;s5;s6;s7;s8;s", 24}, {"s1;s2;s3;s4;s5;s6;s7;s8;s1;", 24},
            {"s1;s2;s3;s4;s5;s6;s7;s8", 23}, {"s/;", 1}, {"s:;", 1}, {"s1:", 2}, {"s1/", 2}, {"s1;m5,/;", 6},
            {"s1;m5,:;", 6},
        };
        for (Object[] text : texts) {
            TokenBus bus = with(9);
            bus.run(1);
            put(bus, (String) text[0]);
            long before = bus.digest();
            is("parse() of " + text[0], bus.parse(), -10 - (int) text[1]);
            is("nothing has changed by " + text[0], bus.digest(), before);
            is("nothing was saved by " + text[0], bus.undo(), 1);
        }
    }

    private static void p27Undo() {
        TokenBus bus = new TokenBus();
        fails(bus, "undo() of nothing", STATE, bus::undo);
        bus.addStation(1);
        bus.addStation(2);
        long two = bus.digest() - 2;
        bus.addStation(3);
        bus.addStation(4);
        bus.addStation(5);
        bus.addStation(6);
        is("undo() 1", bus.undo(), 3);
        is("undo() 2", bus.undo(), 2);
        is("undo() 3", bus.undo(), 1);
        is("undo() 4", bus.undo(), 0);
        is("two states are dropped", bus.setting(3), 2);
        is("all is as it was, but for the number of saved states", bus.digest(), two);
        fails(bus, "undo() of no more", STATE, bus::undo);
        undoesEach();
        undoesCounts();
        keepsAfterUndo();
    }

    private static void undoesEach() {
        for (int way = 0; way < 9; way++) {
            TokenBus bus = Recipes.ringOfTwo();
            bus.give(0, 3, 2);
            bus.undo();
            bus.give(0, 3, 2);
            put(bus, "s9;m1,1;");
            bus.loseToken();
            bus.undo();
            long before = bus.digest();
            doUndoable(bus, way);
            is("undo() of way " + way, bus.undo(), 3);
            is("way " + way + " is undone", bus.digest(), before);
            CHECK.is("its noises, too", bus.isNoisy(50), false);
            is("but not the text", bus.clearText(), 8);
        }
    }

    private static void undoesCounts() {
        TokenBus bus = Recipes.ringOfThree();
        bus.give(2, 7, 9);
        bus.give(2, 3, 9);
        bus.addNoise(54, 54);
        bus.run(2);
        bus.run(1);
        bus.addNoise(bus.setting(6), bus.setting(6) + 14);
        long before = bus.digest();
        double greatest = bus.waits(true);
        double mean = bus.waits(false);
        bus.give(0, 1, 9);
        bus.run(100);
        CHECK.is("the mean wait has changed", bus.waits(false) != mean, true);
        bus.undo();
        bus.undo();
        is("the counts are back, with 2 saved states instead of 4", bus.digest(), before - 2);
        CHECK.isReal("the greatest wait is back", bus.waits(true), greatest);
        CHECK.isReal("the mean wait is back", bus.waits(false), mean);
        bus.undo();
        bus.run(1);
        TokenBus noisy = with(0);
        noisy.addNoise(24, 24);
        noisy.addNoise(29, 29);
        noisy.addStation(8);
        noisy.undo();
        CHECK.is("the first noise is back", noisy.isNoisy(24), true);
        CHECK.is("the second noise is back", noisy.isNoisy(29), true);
        is("both spoil", noisy.run(1), 24 + 5 + 5 + 1);
        TokenBus ring = with(0, 7);
        ring.run(1);
        ring.setOn(0, false);
        ring.undo();
        ring.undo();
        ring.undo();
        ring.addStation(3);
        station(ring, "a place that was used before", 3, 1, 0, 3, 3, 0, 0, NONE);
    }

    private static void doUndoable(TokenBus bus, int way) {
        switch (way) {
            case 0:
                bus.addStation(1);
                break;
            case 1:
                bus.setOn(0, false);
                break;
            case 2:
                bus.setTimes(1, 2, 3);
                break;
            case 3:
                bus.give(0, 5, 9);
                break;
            case 4:
                bus.addNoise(50, 50);
                break;
            case 5:
                bus.run(50);
                break;
            case 6:
                bus.loseToken();
                break;
            case 7:
                bus.parse();
                break;
            default:
                bus.setOn(0, true);
        }
    }

    private static void keepsAfterUndo() {
        TokenBus bus = with(0, 2);
        bus.give(0, 5, 9);
        bus.give(2, 5, 3);
        bus.run(1);
        int time = bus.run(3);
        long later = bus.digest();
        bus.undo();
        is("the same again", bus.run(3), time);
        is("with the same outcome", bus.digest(), later);
        bus.undo();
        bus.undo();
        is("the message waits again", bus.message(0, 4), NONE);
        queue(bus, "again", 0, 0);
        is("what only reads saves nothing", savedByReading(), 1);
    }

    private static int savedByReading() {
        TokenBus bus = with(0, 2);
        bus.give(2, 1, 1);
        bus.undo();
        bus.give(2, 1, 1);
        bus.waitOf(0);
        bus.completeAfter();
        bus.leastTarget(3);
        bus.append('s');
        bus.parse();
        bus.clearText();
        bus.use();
        bus.undo();
        return bus.undo();
    }

    private static void p28Digest() {
        long empty = 3169;
        int[] values = {0, 60, 4, 3, 0, 0, 0, 0, NONE, 0, 0, 0, 0, 0, 0, 0, 0, 0, 0, 0};
        for (int value : values) {
            empty = 31 * empty + value;
        }
        is("digest() of a new object", new TokenBus().digest(), empty);
        is("digest() of a small one", small().digest(), new Hash(PromisesTest::small, 1, 4).value());
        is("digest() of a long one", grown().digest(), new Hash(PromisesTest::grown, 1, 4).value());
        is("digest() with fewer saved states", shrunk().digest(), new Hash(PromisesTest::shrunk, 1, 3).value());
    }

    private static TokenBus small() {
        TokenBus bus = Recipes.ringOfThree();
        for (int i = 0; i < 12; i++) {
            bus.give(2 * (i % 3), i + 1, (7 * i) % 10);
        }
        bus.addNoise(90, 95);
        bus.append('s');
        return bus;
    }

    private static TokenBus grown() {
        TokenBus bus = small();
        bus.run(50);
        bus.setOn(4, false);
        return bus;
    }

    private static TokenBus shrunk() {
        TokenBus bus = grown();
        bus.undo();
        return bus;
    }
}
