/** Boundary cases of run, of making the token, of rotations and of messages: promises 7 and 14. */
final class TokenBounds {
    private static final int NONE = Bounds.NONE;

    private final Bounds b;

    TokenBounds(Bounds bounds) {
        b = bounds;
    }

    void all() {
        visitsAtOnce();
        refusedVisits();
        lastStart();
        nobodyOn();
        whoMakesTheToken();
        timeOfMaking();
        comesInByMaking();
        rotations();
        allowances();
        fullVisits();
        urgentFirst();
        spoiltMessages();
        counts();
        refusedCounts();
    }

    private void visitsAtOnce() {
        b.says(7, "- `visits`: 0 to 200");
        TokenBus bus = Recipes.alone(60);
        b.is("run(0)", bus.run(0), 0);
        b.is("run(0): the token is not made", bus.setting(7), NONE);
        b.is("run(0): no visit", bus.count(0), 0);
        b.is("run(1)", bus.run(1), 25);
        b.is("run(1): one visit", bus.count(0), 1);
        // 201 visits by then, the 20th, 40th, .., 200th with a poll of 1 + 4 ticks.
        b.is("run(200)", bus.run(200), 25 + 200 + 10 * 5);
        b.is("run(200): 200 visits more", bus.count(0), 201);
        b.is("run(0)", bus.run(0), 275);
    }

    private void refusedVisits() {
        b.says(7, "Throws `IllegalArgumentException` if visits is out of range");
        for (int wrong : new int[] {-1, 201, Bounds.LOWEST, Bounds.HIGHEST}) {
            b.refuses("run(" + wrong + ")", Bounds.ARGUMENT, Recipes::busy, x -> x.run(wrong));
            b.refuses("run(" + wrong + ") without stations", Bounds.ARGUMENT, TokenBus::new, x -> x.run(wrong));
            b.refuses("run(" + wrong + ") above 900000", Bounds.ARGUMENT, Recipes::tooLate, x -> x.run(wrong));
        }
    }

    private void lastStart() {
        b.says(7, "Throws `IllegalStateException` if the present time is above 900000");
        b.is("the time", Recipes.atLastStart().setting(6), 900000);
        b.is("run(0) at 900000", Recipes.atLastStart().run(0), 900000);
        b.is("run(1) at 900000", Recipes.atLastStart().run(1), 900001);
        // 1590 visits by then; ten polls of 1 + 1 ticks are due in 200 more.
        b.is("run(200) at 900000", Recipes.atLastStart().run(200), 900000 + 200 + 10 * 2);
        b.refuses("run(0) at 900001", Bounds.STATE, Recipes::tooLate, x -> x.run(0));
        b.refuses("run(1) at 900001", Bounds.STATE, Recipes::tooLate, x -> x.run(1));
        b.refuses("run(200) at 900001", Bounds.STATE, Recipes::tooLate, x -> x.run(200));
        b.refuses("run(0) at 900001 with nobody on", Bounds.STATE, TokenBounds::tooLateAndOff, x -> x.run(0));
        TokenBus back = Recipes.tooLate();
        back.undo();
        b.is("run(1) when the late one is undone", back.run(1), 900001);
        TokenBus young = Recipes.tooLate();
        young.clearText();
        b.is("parse()", young.parse(), 0);
        b.is("run(0) of the new line", young.run(0), 0);
    }

    private static TokenBus tooLateAndOff() {
        TokenBus bus = Recipes.tooLate();
        bus.setOn(0, false);
        return bus;
    }

    private void nobodyOn() {
        b.says(7, "if no station is on, nothing happens, and the visit is over (it is not counted, not logged, and takes no time; "
                + "whoever makes visits goes on to the next one)");
        TokenBus none = new TokenBus();
        b.is("run(200) without stations", none.run(200), 0);
        b.settings("without stations", none, 60, 4, 3, 0, 0, 0, 0, NONE, 0);
        b.counts("without stations", none, 0, 0, 0, 0, 0, 0, 0);
        b.is("logged()", none.logged(), 0);
        TokenBus off = Recipes.ringOfThree();
        off.setOn(2, false);
        off.setOn(4, false);
        b.is("setOn(0, false)", off.setOn(0, false), true);
        b.is("run(200) with all off", off.run(200), 54);
        b.settings("all off", off, 60, 4, 1, 3, 0, 0, 54, NONE, 0);
        b.counts("all off", off, 6, 0, 0, 1, 2, 0, 0);
        b.is("logged()", off.logged(), 6);
        b.station("all off", off, 0, 0, 0, 2, 1, 0, 3, 39);
    }

    private void whoMakesTheToken() {
        b.says(7, "let h be the station with the lowest address of those that are on and in the ring, or, without such ones, "
                + "of those that are on");
        TokenBus both = Recipes.with(31, 0);
        b.is("of 0 and 31, none in the ring", both.run(1), 24 + 1);
        b.is("the holder", both.setting(7), 0);
        TokenBus ring = Recipes.with(31);
        ring.run(1);
        ring.addStation(0);
        ring.loseToken();
        b.is("31 is in the ring, 0 is not", ring.run(1), 272 + 1 + 272 + 1);
        b.is("the holder", ring.setting(7), 31);
        TokenBus off = Recipes.with(0, 31);
        off.setOn(0, false);
        b.is("0 is off, 31 is not in the ring", off.run(1), 272 + 1);
        b.is("the holder", off.setting(7), 31);
        TokenBus left = Recipes.ringOfThree();
        left.setOn(0, false);
        b.is("2 and 4 are left in the ring", left.run(1), 54 + 40 + 5 + 1);
        b.is("2 has made it and passed it to 4", left.setting(7), 4);
        TokenBus back = Recipes.ringOfThree();
        back.setOn(0, false);
        back.setOn(0, true);
        back.setOn(2, false);
        back.setTimes(60, 4, 20);
        b.is("0 and 2 have left, 4 is in the ring", back.run(1), 54 + 4 * 14 + 15 + 3 * 5);
        b.is("the holder", back.setting(7), 4);
    }

    private void timeOfMaking() {
        b.says(7, "The present time increases by S * (6 + 2 * (address of h)).");
        int[][] makings = {{0, 1, 6}, {0, 20, 120}, {31, 1, 68}, {31, 20, 1360}, {1, 4, 32}, {30, 4, 264}};
        for (int[] making : makings) {
            TokenBus bus = Recipes.with(making[0]);
            bus.setTimes(60, making[1], 20);
            b.is("address " + making[0] + ", S = " + making[1], bus.run(1), making[2] + 1);
            b.visit("its visit begins then", bus, 0, making[2], making[0], 0, 0);
        }
    }

    private void comesInByMaking() {
        b.says(7, "If h is not in the ring, it comes into the ring, and its next address becomes its own one (its gap pointer stays).");
        TokenBus bus = Recipes.ringOfTwo();
        bus.setOn(2, false);
        bus.setOn(2, true);
        bus.setOn(0, false);
        b.station("2 before", bus, 2, 1, 0, 0, 3, 0, 1, 33);
        b.is("run(1)", bus.run(1), 39 + 40 + 1);
        b.station("2 is in again", bus, 2, 1, 1, 2, 3, 0, 2, 79);
        b.is("not by a poll", bus.count(4), 1);
        b.says(7, "h is the holder, and the number of lost tokens increases by 1.");
        b.is("setting(7)", bus.setting(7), 2);
        b.is("count(3)", bus.count(3), 2);
        TokenBus ring = Recipes.ringOfTwo();
        ring.loseToken();
        b.is("one in the ring makes it", ring.run(1), 39 + 24 + 1);
        b.station("it keeps its next address", ring, 0, 1, 1, 2, 2, 0, 3, 63);
    }

    private void rotations() {
        b.says(7, "The rotation of the holder is t0 minus the time at which it has begun its latest visit, 0 if it has had none");
        TokenBus bus = Recipes.alone(60);
        bus.run(1);
        b.visit("the first visit", bus, 0, 24, 0, 0, 0);
        bus.run(1);
        b.visit("the second visit", bus, 1, 25, 0, 1, 0);
        bus.setOn(0, false);
        bus.setOn(0, true);
        bus.run(1);
        b.visit("the third visit, the token made anew", bus, 2, 26 + 24, 0, 25, 0);
        b.says(7, "Let t0 be the present time.");
        b.is("behind the making", bus.visit(2, 0), 50);
        b.is("of the latest visit", bus.station(0, 6), 50);
        TokenBus polled = Recipes.ringOfTwo();
        b.visit("the first visit of one that was polled", polled, 2, 33, 2, 0, 0);
        b.says(7, "The number of visits of the holder, and of all, increases by 1.");
        b.is("station(0, 5)", bus.station(0, 5), 3);
        b.is("count(0)", bus.count(0), 3);
        b.is("station(2, 5)", polled.station(2, 5), 1);
        b.is("count(0) of two", polled.count(0), 3);
    }

    private void allowances() {
        b.says(7, "Its allowance is T minus the rotation.");
        // At 26 the rotation is 1; a message of 1 tick and no urgency goes with an allowance of 1.
        b.is("T = 1, rotation 1: 0", afterQuietVisits(1), 27);
        b.is("T = 2, rotation 1: 1", afterQuietVisits(2), 28);
        // Behind an urgent message of 20 ticks the next visit is at 45, with a rotation of 21.
        b.is("T = 20, rotation 21: less than 0", afterLongMessage(20), 45 + 1);
        b.is("T = 21, rotation 21: 0", afterLongMessage(21), 45 + 1);
        b.is("T = 22, rotation 21: 1", afterLongMessage(22), 45 + 1 + 1);
        b.says(7, "as long as its queue is not empty and (present time - t0) is less than the allowance, the first message is sent");
        b.is("3 + 3 of an allowance of 6", sentOfThrees(6), 2);
        b.is("3 + 3 of an allowance of 7", sentOfThrees(7), 3);
        b.is("3 of an allowance of 3", sentOfThrees(3), 1);
        b.is("3 of an allowance of 4", sentOfThrees(4), 2);
        b.is("3 of an allowance of 1", sentOfThrees(1), 1);
    }

    private static int afterQuietVisits(int target) {
        TokenBus bus = Recipes.alone(target);
        bus.run(2);
        bus.give(0, 1, 0);
        return bus.run(1);
    }

    private static int afterLongMessage(int target) {
        TokenBus bus = Recipes.alone(1);
        bus.give(0, 20, 9);
        bus.run(1);
        bus.setTimes(target, 4, 20);
        bus.give(0, 1, 0);
        return bus.run(1);
    }

    private static int sentOfThrees(int target) {
        TokenBus bus = Recipes.alone(target);
        for (int i = 0; i < 5; i++) {
            bus.give(0, 3, 0);
        }
        bus.run(1);
        return bus.count(1);
    }

    private void fullVisits() {
        b.says(7, "Then, as long as its queue is not empty");
        int[][] visits = {{500, 100}, {101, 100}, {100, 100}, {99, 99}, {1, 1}};
        for (int[] visit : visits) {
            TokenBus bus = Recipes.alone(visit[0]);
            for (int i = 0; i < 100; i++) {
                bus.give(0, 1, 0);
            }
            b.is("100 messages, T = " + visit[0], bus.run(1), 24 + visit[1] + 1);
            b.visit("100 messages, T = " + visit[0], bus, 0, 24, 0, 0, visit[1]);
            b.is("they wait still, T = " + visit[0], bus.station(0, 4), 100 - visit[1]);
        }
        TokenBus empty = Recipes.alone(500);
        b.is("an empty queue", empty.run(1), 25);
    }

    private void urgentFirst() {
        b.says(7, "if its queue is not empty and the first message is urgent, the first message is sent");
        TokenBus bus = Recipes.alone(1);
        bus.run(2);
        bus.give(0, 1, 5);
        bus.give(0, 1, 4);
        bus.give(0, 1, 5);
        b.is("no allowance: one urgent one", bus.run(1), 26 + 1 + 1);
        b.is("the other urgent one", bus.run(1), 28 + 1 + 1);
        b.is("the other one waits", bus.run(1), 31);
        b.queue("waiting", bus, 0, 1);
        TokenBus long20 = Recipes.alone(20);
        long20.give(0, 20, 9);
        long20.give(0, 20, 9);
        b.is("the urgent one has taken all of T = 20", long20.run(1), 24 + 20 + 1);
        TokenBus long21 = Recipes.alone(21);
        long21.give(0, 20, 9);
        long21.give(0, 20, 0);
        long21.give(0, 20, 0);
        b.is("of T = 21 a tick is left", long21.run(1), 24 + 20 + 20 + 1);
    }

    private void spoiltMessages() {
        b.says(7, "If it is spoilt, it stays in the queue, the number of spoilt transmissions increases by 1, and no further message is "
                + "sent in this visit (also if it was the first urgent one).");
        TokenBus urgent = threeWaiting(9);
        urgent.addNoise(24, 24);
        b.is("the first urgent one is spoilt", urgent.run(1), 24 + 2 + 1);
        b.queue("all stay", urgent, 0, 0, 1, 2);
        b.counts("the first one is spoilt", urgent, 1, 0, 1, 1, 0, 0, 0);
        b.visit("nothing was sent", urgent, 0, 24, 0, 0, 0);
        b.message("its wait", urgent, 0, 2, 9, 0, 0, NONE);
        b.is("they go in the next visit", urgent.run(1), 27 + 6 + 1);
        b.message("its wait", urgent, 0, 2, 9, 0, 0, 27);
        TokenBus other = threeWaiting(0);
        other.addNoise(25, 25);
        b.is("the first one is spoilt, not urgent", other.run(1), 24 + 2 + 1);
        TokenBus last = threeWaiting(9);
        last.addNoise(29, 29);
        b.is("the third one is spoilt", last.run(1), 24 + 6 + 1);
        b.queue("it stays", last, 0, 2);
        b.visit("two were sent", last, 0, 24, 0, 0, 2);
        b.counts("two were sent", last, 1, 2, 1, 1, 0, 0, 4);
        TokenBus second = threeWaiting(9);
        second.addNoise(26, 26);
        b.is("the second one is spoilt", second.run(1), 24 + 4 + 1);
        b.queue("two stay", second, 0, 1, 2);
        b.says(7, "If it is not spoilt, it leaves the queue");
        TokenBus all = threeWaiting(9);
        all.run(1);
        b.queue("none stays", all, 0);
    }

    private static TokenBus threeWaiting(int urgency) {
        TokenBus bus = Recipes.alone(60);
        for (int i = 0; i < 3; i++) {
            bus.give(0, 2, urgency);
        }
        return bus;
    }

    private void counts() {
        b.says(14, "- `what`: 0 visits, 1 messages sent, 2 spoilt transmissions, 3 lost tokens, 4 stations that have come into the ring by "
                + "a poll, 5 stations that have left the ring by the third failure of passing, 6 ticks of messages that were sent and not spoilt");
        b.counts("nothing yet", new TokenBus(), 0, 0, 0, 0, 0, 0, 0);
        TokenBus bus = Recipes.ringOfTwo();
        bus.give(0, 20, 9);
        bus.give(0, 1, 0);
        bus.give(0, 1, 0);
        bus.addNoise(60, 1000);
        // 20 and 1 ticks are sent at 39 to 59; the third message and all that follows is spoilt.
        b.is("run(1)", bus.run(1), 39 + 22 + 15 + 29 * 5);
        b.counts("behind it", bus, 4, 2, 1 + 3 + 29, 1, 1, 1, 21);
        bus.loseToken();
        b.is("a lost token is counted when it is made anew", bus.count(3), 1);
        bus.run(1);
        b.is("then", bus.count(3), 2);
    }

    private void refusedCounts() {
        b.says(14, "Throws `IllegalArgumentException` if what is out of range");
        for (int wrong : new int[] {-1, 7, 8, Bounds.LOWEST, Bounds.HIGHEST}) {
            b.refuses("count(" + wrong + ")", Bounds.ARGUMENT, Recipes::busy, x -> x.count(wrong));
            b.refuses("count(" + wrong + ")", Bounds.ARGUMENT, TokenBus::new, x -> x.count(wrong));
        }
    }
}
