/** Boundary cases of the calls that ask what would be: promises 21 to 23. */
final class WhatIfBounds {
    private static final int NONE = Bounds.NONE;

    private final Bounds b;

    WhatIfBounds(Bounds bounds) {
        b = bounds;
    }

    void all() {
        waitsWithin300();
        waitsOfEach();
        refusedWaits();
        completeWithin300();
        completeNow();
        refusedComplete();
        targets();
        targetsOfNothing();
        hundredVisits();
        refusedTargets();
        changeNothing();
    }

    /** Station 0 polls an address every 20 visits, so that the other one comes in at visit 20 times its address. */
    private static TokenBus slowRing(int other) {
        TokenBus bus = Recipes.with(0, other);
        bus.setTimes(60, 1, 20);
        bus.give(other, 1, 0);
        return bus;
    }

    private void waitsWithin300() {
        b.says(21, "Returns its wait; NONE if it would not be sent within 300 visits.");
        // 15 comes in at visit 300; 301 begins at 6 + 300 + 14 * 2 + 2.
        b.is("sent in visit 301", slowRing(15).waitOf(0), NONE);
        TokenBus later = slowRing(15);
        later.run(1);
        b.is("sent in visit 300 from now on", later.waitOf(0), 336);
        TokenBus off = slowRing(15);
        off.run(1);
        off.setOn(15, false);
        b.is("its station is off", off.waitOf(0), NONE);
        off.setOn(0, false);
        b.is("nobody is on", off.waitOf(0), NONE);
        TokenBus noisy = Recipes.alone(60);
        noisy.give(0, 1, 9);
        noisy.addNoise(0, 1000000);
        b.is("always spoilt", noisy.waitOf(0), NONE);
    }

    private void waitsOfEach() {
        b.says(21, "- `message`: number of a message that has not been sent");
        TokenBus now = Recipes.alone(60);
        now.run(1);
        now.give(0, 5, 9);
        b.is("a wait of 0", now.waitOf(0), 0);
        TokenBus many = Recipes.alone(500);
        for (int i = 0; i < 100; i++) {
            many.give(0, 1, 0);
        }
        b.is("waitOf(0)", many.waitOf(0), 24);
        b.is("waitOf(99)", many.waitOf(99), 24 + 99);
        many.setOn(0, false);
        many.run(200);
        many.setOn(0, true);
        b.is("waitOf(99) again", many.waitOf(99), 24 + 99);
        b.says(21, "Tells how long a message would wait if only visits were made.");
        TokenBus last = Recipes.atLastStart();
        last.setOn(1, true);
        last.setTimes(60, 1, 1);
        b.is("given at 0, polled and sent from 900000 on", last.waitOf(0) > 900000, true);
        b.is("run(0)", last.run(0), 900000);
    }

    private void refusedWaits() {
        b.says(21, "Throws `IndexOutOfBoundsException` if there is no such message");
        for (int wrong : new int[] {-1, 100, Bounds.LOWEST, Bounds.HIGHEST}) {
            b.refuses("waitOf(" + wrong + ")", Bounds.INDEX, Recipes::full, x -> x.waitOf(wrong));
            b.refuses("waitOf(" + wrong + ") above 900000", Bounds.INDEX, Recipes::tooLate, x -> x.waitOf(wrong));
        }
        b.refuses("waitOf(5)", Bounds.INDEX, Recipes::busy, x -> x.waitOf(5));
        b.refuses("waitOf(1) above 900000", Bounds.INDEX, Recipes::tooLate, x -> x.waitOf(1));
        b.refuses("waitOf(0)", Bounds.INDEX, TokenBus::new, x -> x.waitOf(0));
        b.says(21, "Throws `IllegalStateException` if it has been sent, or the present time is above 900000");
        b.refuses("waitOf(0), sent", Bounds.STATE, WhatIfBounds::oneSent, x -> x.waitOf(0));
        b.refuses("waitOf(0) at 900001", Bounds.STATE, Recipes::tooLate, x -> x.waitOf(0));
        b.onlyAnswers("waitOf(0) at 900000", NONE, Recipes::atLastStart, x -> x.waitOf(0));
        b.is("waitOf(1), not sent", oneSent().waitOf(1), 26);
    }

    /** Message 0 was sent at 24, message 1 begins at 26, if its visit were made. */
    private static TokenBus oneSent() {
        TokenBus bus = Recipes.alone(1);
        bus.give(0, 1, 9);
        bus.give(0, 1, 9);
        bus.run(1);
        return bus;
    }

    private void completeWithin300() {
        b.says(22, "Returns the number of visits, 0 if they are now (also if no station is on); NONE if they would not be within 300 visits.");
        b.is("the poll of visit 20", slowRing(1).completeAfter(), 20);
        b.is("the poll of visit 280", slowRing(14).completeAfter(), 280);
        b.is("the poll of visit 300", slowRing(15).completeAfter(), 300);
        b.is("the poll of visit 320", slowRing(16).completeAfter(), NONE);
        TokenBus later = slowRing(16);
        later.run(19);
        b.is("301 visits", later.completeAfter(), NONE);
        later.run(1);
        b.is("300 visits", later.completeAfter(), 300);
        later.run(1);
        b.is("299 visits", later.completeAfter(), 299);
        later.run(200);
        later.run(98);
        b.is("1 visit", later.completeAfter(), 1);
        later.run(1);
        b.is("0 visits", later.completeAfter(), 0);
        TokenBus noisy = Recipes.with(0, 1);
        noisy.addNoise(0, 1000000);
        b.is("all polls are spoilt", noisy.completeAfter(), NONE);
    }

    private void completeNow() {
        b.says(22, "0 if they are now (also if no station is on)");
        b.is("no stations", new TokenBus().completeAfter(), 0);
        TokenBus off = Recipes.with(0, 31);
        b.is("none in the ring", off.completeAfter(), 93);
        off.setOn(0, false);
        b.is("one that is on makes the token", off.completeAfter(), 1);
        off.setOn(31, false);
        b.is("all off", off.completeAfter(), 0);
        TokenBus lowest = Recipes.with(31);
        lowest.run(1);
        lowest.addStation(0);
        b.is("all but the lowest one", lowest.completeAfter(), 2);
        TokenBus highest = Recipes.with(0);
        highest.run(1);
        highest.addStation(1);
        b.is("all but the highest one", highest.completeAfter(), 2);
        TokenBus ring = Recipes.ringOfThree();
        b.is("all in the ring", ring.completeAfter(), 0);
        ring.loseToken();
        b.is("all in the ring without a holder", ring.completeAfter(), 0);
        ring.addStation(9);
        ring.setOn(9, false);
        b.is("one that is off is not asked for", ring.completeAfter(), 0);
    }

    private void refusedComplete() {
        b.says(22, "Throws `IllegalStateException` if the present time is above 900000");
        b.onlyAnswers("completeAfter() at 900000", 0, Recipes::atLastStart, TokenBus::completeAfter);
        b.refuses("completeAfter() at 900001", Bounds.STATE, Recipes::tooLate, TokenBus::completeAfter);
        b.refuses("completeAfter() at 900001, all off", Bounds.STATE, WhatIfBounds::tooLateAndOff, TokenBus::completeAfter);
    }

    private static TokenBus tooLateAndOff() {
        TokenBus bus = Recipes.tooLate();
        bus.setOn(0, false);
        return bus;
    }

    /** As many messages, not urgent, of a length, and a last one. */
    private static TokenBus waiting(int number, int length, int last) {
        TokenBus bus = Recipes.alone(500);
        for (int i = 0; i < number; i++) {
            bus.give(0, length, 0);
        }
        bus.give(0, last, 0);
        return bus;
    }

    private void targets() {
        b.says(23, "Finds the smallest target rotation time of 20, 40, 60, .., 400 with which all messages that wait at stations that are on "
                + "would be sent within a number of visits.");
        b.is("one message", waiting(0, 1, 20).leastTarget(1), 20);
        b.is("the last one begins at 19", waiting(1, 19, 20).leastTarget(1), 20);
        b.is("the last one begins at 20", waiting(1, 20, 1).leastTarget(1), 40);
        b.is("the last one begins at 39", waiting(3, 13, 20).leastTarget(1), 40);
        b.is("the last one begins at 40", waiting(2, 20, 1).leastTarget(1), 60);
        b.is("the last one begins at 360", waiting(18, 20, 1).leastTarget(1), 380);
        b.is("the last one begins at 380", waiting(19, 20, 1).leastTarget(1), 400);
        b.is("the last one begins at 399", waiting(21, 19, 1).leastTarget(1), 400);
        b.says(23, "NONE if there is none of these");
        b.is("the last one begins at 400", waiting(20, 20, 1).leastTarget(1), NONE);
        b.is("no visit", waiting(0, 1, 1).leastTarget(0), NONE);
        TokenBus noisy = Recipes.alone(60);
        noisy.give(0, 1, 9);
        noisy.addNoise(0, 1000000);
        b.is("always spoilt", noisy.leastTarget(100), NONE);
    }

    private void targetsOfNothing() {
        b.says(23, "Returns the target, 20 if no message waits at such a station");
        b.is("no stations", new TokenBus().leastTarget(0), 20);
        b.is("no stations, 100 visits", new TokenBus().leastTarget(100), 20);
        b.is("no messages", Recipes.alone(1).leastTarget(0), 20);
        TokenBus off = Recipes.with(0, 31);
        off.give(31, 20, 9);
        b.is("it waits at one that is on", off.leastTarget(0), NONE);
        off.setOn(31, false);
        b.is("it waits at one that is off", off.leastTarget(0), 20);
        b.is("it waits at one that is off, 100 visits", off.leastTarget(100), 20);
        b.is("all sent", oneSent().leastTarget(1), 20);
        TokenBus sent = oneSent();
        sent.run(1);
        b.is("none waits any more", sent.leastTarget(0), 20);
    }

    private void hundredVisits() {
        b.says(23, "- `visits`: 0 to 100");
        // Station 9 comes in at visit 9 * 11 and sends in visit 100.
        TokenBus bus = Recipes.with(0, 9);
        bus.setTimes(60, 1, 11);
        bus.give(9, 1, 0);
        b.is("leastTarget(99)", bus.leastTarget(99), NONE);
        b.is("leastTarget(100)", bus.leastTarget(100), 20);
        TokenBus ten = Recipes.with(0, 10);
        ten.setTimes(60, 1, 10);
        ten.give(10, 1, 0);
        b.is("101 visits", ten.leastTarget(100), NONE);
        ten.run(1);
        b.is("100 visits from now on", ten.leastTarget(100), 20);
        b.is("one message, 1 visit", waiting(0, 1, 1).leastTarget(1), 20);
        // One of two in a visit, the next one when the rotation is short again.
        b.is("two messages of 20, 3 visits", waiting(1, 20, 20).leastTarget(3), 20);
        b.is("two messages of 20, 2 visits", waiting(1, 20, 20).leastTarget(2), 40);
    }

    private void refusedTargets() {
        b.says(23, "Throws `IllegalArgumentException` if visits is out of range");
        for (int wrong : new int[] {-1, 101, Bounds.LOWEST, Bounds.HIGHEST}) {
            b.refuses("leastTarget(" + wrong + ")", Bounds.ARGUMENT, Recipes::busy, x -> x.leastTarget(wrong));
            b.refuses("leastTarget(" + wrong + ") of nothing", Bounds.ARGUMENT, TokenBus::new, x -> x.leastTarget(wrong));
            b.refuses("leastTarget(" + wrong + ") above 900000", Bounds.ARGUMENT, Recipes::tooLate, x -> x.leastTarget(wrong));
        }
        b.says(23, "Throws `IllegalStateException` if the present time is above 900000");
        b.onlyAnswers("leastTarget(0) at 900000", 20, Recipes::atLastStart, x -> x.leastTarget(0));
        b.onlyAnswers("leastTarget(100) at 900000", 20, Recipes::atLastStart, x -> x.leastTarget(100));
        b.refuses("leastTarget(0) at 900001", Bounds.STATE, Recipes::tooLate, x -> x.leastTarget(0));
        b.refuses("leastTarget(100) at 900001", Bounds.STATE, Recipes::tooLate, x -> x.leastTarget(100));
    }

    private void changeNothing() {
        b.says(21, "if only visits were made");
        b.onlyAnswers("waitOf(3)", Recipes.busy().waitOf(3), Recipes::busy, x -> x.waitOf(3));
        b.onlyAnswers("waitOf(4)", Recipes.busy().waitOf(4), Recipes::busy, x -> x.waitOf(4));
        b.onlyAnswers("waitOf(99)", Recipes.full().waitOf(99), Recipes::full, x -> x.waitOf(99));
        b.says(22, "if only visits were made");
        b.onlyAnswers("completeAfter()", Recipes.busy().completeAfter(), Recipes::busy, TokenBus::completeAfter);
        b.onlyAnswers("completeAfter()", Recipes.full().completeAfter(), Recipes::full, TokenBus::completeAfter);
        b.says(23, "would be sent within a number of visits");
        b.onlyAnswers("leastTarget(100)", Recipes.busy().leastTarget(100), Recipes::busy, x -> x.leastTarget(100));
        b.onlyAnswers("leastTarget(100)", Recipes.full().leastTarget(100), Recipes::full, x -> x.leastTarget(100));
    }
}
