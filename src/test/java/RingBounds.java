/** Boundary cases of polling the gap and of passing the token: promise 7, steps 4 and 5. */
final class RingBounds {
    private static final int NONE = Bounds.NONE;

    private final Bounds b;

    RingBounds(Bounds bounds) {
        b = bounds;
    }

    void all() {
        dueVisits();
        gapsOfRings();
        gapAcrossTheHighest();
        gapOfOneAlone();
        pointerOutside();
        answers();
        answerOfOneInTheRing();
        spoiltPolls();
        timeOfPolls();
        passToItself();
        tries();
        triesToOneThatIsOff();
        leavesAfterThird();
        asksOthers();
        asksAcrossTheHighest();
        asksNobody();
        staysAlone();
    }

    private void dueVisits() {
        b.says(7, "if the number of visits of the holder is divisible by G");
        TokenBus bus = Recipes.alone(60);
        b.is("19 visits", bus.run(19), 24 + 19);
        b.is("no poll yet", bus.station(0, 3), 0);
        b.is("the twentieth visit", bus.run(1), 43 + 5 + 1);
        b.is("polls 1", bus.station(0, 3), 1);
        b.is("19 more", bus.run(19), 49 + 19);
        b.is("no other poll yet", bus.station(0, 3), 1);
        b.is("the fortieth visit", bus.run(1), 68 + 5 + 1);
        b.is("polls 2", bus.station(0, 3), 2);
        bus.setTimes(60, 4, 1);
        b.is("G = 1: each visit", bus.run(3), 74 + 3 * 6);
        b.is("polls 3, 4 and 5", bus.station(0, 3), 5);
    }

    /** Two stations become a ring by polls of the lower one from its own address on. */
    private static TokenBus ring(int low, int high) {
        TokenBus bus = Recipes.with(low, high);
        bus.setTimes(60, 4, 1);
        bus.run(high - low);
        return bus;
    }

    private void gapsOfRings() {
        b.says(7, "there are addresses between its own and its next address (those behind its own one, up to the one before its next "
                + "address; if its next address is its own one, all others)");
        TokenBus beside = ring(7, 8);
        b.is("7 polls 8", beside.setting(6), 4 * 20 + 2 + 1);
        b.is("8 polls 9, 7 has nobody between", beside.run(2), 83 + 6 + 1);
        b.is("the gap pointer of 7 stays", beside.station(7, 3), 8);
        b.is("once more", beside.run(2), 90 + 6 + 1);
        b.is("8 polls 10 then", beside.station(8, 3), 10);
        TokenBus one = ring(7, 9);
        b.is("7 polls 8, then 9", one.setting(6), 4 * 20 + 6 + 3);
        b.is("9 polls 10, 7 polls 8", one.run(2), 89 + 6 + 6);
        b.is("8 is the only one between 7 and 9", one.station(7, 3), 8);
        b.is("9 polls 11, 7 polls 8 again", one.run(2), 101 + 6 + 6);
        b.is("8 again", one.station(7, 3), 8);
        b.is("11", one.station(9, 3), 11);
    }

    private void gapAcrossTheHighest() {
        b.says(7, "\"Behind a\" means the addresses a + 1, a + 2, .., 31, 0, .., a in this order.");
        TokenBus ends = ring(0, 31);
        b.is("0 polls 1 to 31", ends.setting(6), 24 + 30 * 6 + 3);
        b.is("nobody is between 31 and 0", ends.run(1), 207 + 1);
        b.is("the gap pointer of 31 stays", ends.station(31, 3), 31);
        b.is("0 begins with 1 again", ends.run(1), 208 + 6);
        b.is("the gap pointer of 0", ends.station(0, 3), 1);
        TokenBus highest = ring(0, 30);
        b.is("0 polls 1 to 30", highest.setting(6), 24 + 29 * 6 + 3);
        b.is("30 polls 31", highest.run(1), 201 + 6);
        b.is("the gap pointer of 30", highest.station(30, 3), 31);
        b.is("0 polls 1, 30 polls 31 again", highest.run(2), 207 + 6 + 6);
        b.is("the gap pointer of 30 again", highest.station(30, 3), 31);
        TokenBus lowest = ring(1, 31);
        b.is("1 polls 2 to 31", lowest.setting(6), 32 + 29 * 6 + 3);
        b.is("31 polls 0", lowest.run(1), 209 + 6);
        b.is("the gap pointer of 31", lowest.station(31, 3), 0);
        b.is("1 polls 2, 31 polls 0 again", lowest.run(2), 215 + 6 + 6);
        b.is("the gap pointer of 1", lowest.station(1, 3), 2);
        b.is("the gap pointer of 31 again", lowest.station(31, 3), 0);
        TokenBus round = ring(2, 30);
        int[] due = {31, 0, 1, 31, 0};
        for (int address : due) {
            round.run(1);
            b.is("30 polls up to the one before 2", round.station(30, 3), address);
            round.run(1);
        }
    }

    private void gapOfOneAlone() {
        b.says(7, "if its next address is its own one, all others");
        int[] owns = {0, 15, 30, 31};
        for (int own : owns) {
            TokenBus bus = Recipes.with(own);
            bus.setTimes(60, 1, 1);
            for (int step = 1; step <= 31; step++) {
                bus.run(1);
                b.is("poll " + step + " of " + own, bus.station(own, 3), (own + step) % 32);
            }
            b.is("31 polls without an answer", bus.setting(6), 6 + 2 * own + 31 * 3);
            bus.run(1);
            b.is("its own address is left out", bus.station(own, 3), (own + 1) % 32);
        }
    }

    private void pointerOutside() {
        b.says(7, "the gap pointer moves to the next address behind it if this is one of these, otherwise to the first of these");
        TokenBus bus = ring(0, 4);
        b.is("0 has come to 4", bus.station(0, 3), 4);
        int[] due = {1, 2, 3, 1, 2, 3};
        for (int address : due) {
            bus.run(2);
            b.is("between 0 and 4", bus.station(0, 3), address);
        }
        // A station comes in at 2, so that the pointer of 0 stands outside its gap.
        bus.addStation(2);
        bus.run(2);
        b.is("1", bus.station(0, 3), 1);
        bus.run(2);
        b.is("2 comes in", bus.station(0, 2), 2);
        b.is("the pointer stays at 2", bus.station(0, 3), 2);
        bus.run(3);
        b.is("1 is the first and only one then", bus.station(0, 3), 1);
        bus.setOn(2, false);
        bus.run(1);
        b.is("1 again, before 2 is passed over", bus.station(0, 3), 1);
        bus.run(2);
        b.is("2 is between 0 and 4 again", bus.station(0, 3), 2);
    }

    private void answers() {
        b.says(7, "If the address has a station that is on and not in the ring, and the poll is not spoilt, the answer takes 1 tick; if the "
                + "answer is not spoilt, the station comes into the ring, its next address becomes that of the holder, its gap pointer its "
                + "own address, and the next address of the holder becomes that of the station.");
        TokenBus first = ring(3, 4);
        b.is("a poll, an answer, a pass", first.setting(6), 48 + 1 + 1 + 1);
        b.station("the holder", first, 3, 1, 1, 4, 4, 0, 1, 48);
        b.station("its next address is that of the holder, its own", first, 4, 1, 1, 3, 4, 0, 0, NONE);
        b.counts("polled in", first, 1, 0, 0, 1, 1, 0, 0);
        TokenBus between = ring(0, 4);
        between.addStation(1);
        between.run(2);
        b.station("the holder", between, 0, 1, 1, 1, 1, 0, 5, between.station(0, 6));
        b.station("its next address is that of the holder, 4", between, 1, 1, 1, 4, 1, 0, 0, NONE);
        b.is("the holder of the token", between.setting(7), 1);
        TokenBus off = Recipes.with(3, 4);
        off.setOn(4, false);
        off.setTimes(60, 4, 1);
        b.is("one that is off does not answer", off.run(1), 48 + 1 + 4 + 1);
        b.is("count(4)", off.count(4), 0);
        TokenBus again = ring(3, 5);
        again.run(1);
        b.is("5 has polled 6", again.station(5, 3), 6);
        again.setOn(5, false);
        again.setTimes(60, 4, 20);
        b.is("3 passes 5 over", again.run(1), 63 + 15 + 29 * 5);
        again.setOn(5, true);
        again.setTimes(60, 4, 1);
        again.run(1);
        b.is("3 polls 6 next, then 7", again.station(3, 3), 6);
        again.run(30);
        b.is("31 polls later it answers", again.station(3, 3), 5);
        b.station("its gap pointer is its own address again", again, 5, 1, 1, 3, 5, 0, 1, 57);
    }

    private void answerOfOneInTheRing() {
        b.says(7, "If the address has a station that is on and not in the ring");
        TokenBus bus = Recipes.ringOfThree();
        bus.setOn(2, false);
        // 5 for the poll, 15 for the tries, 5 for address 3; the question to 4 at 79 is spoilt.
        bus.addNoise(79, 79);
        b.is("0 is left alone", bus.run(1), 79 + 28 * 5);
        b.is("4 is in the ring still", bus.station(4, 1), 1);
        b.is("polls of 2 and 3", bus.run(2), 219 + 2 * 6);
        b.is("4 does not answer", bus.run(1), 231 + 1 + 4 + 1);
        b.is("it was polled", bus.station(0, 3), 4);
        b.is("0 has itself as the next one", bus.station(0, 2), 0);
        b.is("count(4)", bus.count(4), 2);
    }

    private void spoiltPolls() {
        b.says(7, "If the poll or the answer is spoilt, the number of spoilt transmissions increases by 1.");
        // The poll is at 48, the answer at 49; passing is at 50 (then at 55), without an answer at 53 or 54.
        int[][] noises = {{48, 1, 54}, {49, 1, 55}, {50, 1, 56}, {47, 0, 51}, {51, 0, 51}};
        for (int[] noise : noises) {
            TokenBus bus = Recipes.with(3, 4);
            bus.setTimes(60, 4, 1);
            bus.addNoise(noise[0], noise[0]);
            b.is("noise at " + noise[0], bus.run(1), noise[2]);
            b.is("spoilt by noise at " + noise[0], bus.count(2), noise[1]);
            b.is("in the ring with noise at " + noise[0], bus.station(4, 1), noise[0] == 48 || noise[0] == 49 ? 0 : 1);
        }
        TokenBus nobody = Recipes.with(3);
        nobody.setTimes(60, 4, 1);
        nobody.addNoise(48, 49);
        b.is("a poll of nobody", nobody.run(1), 54);
        b.is("is spoilt, its answer is not sent", nobody.count(2), 1);
        TokenBus both = Recipes.with(3, 4);
        both.setTimes(60, 4, 1);
        both.addNoise(48, 49);
        b.is("a spoilt poll has no answer", both.run(1), 54);
        b.is("which could be spoilt", both.count(2), 1);
    }

    private void timeOfPolls() {
        b.says(7, "Unless the station has come into the ring, S ticks pass then.");
        for (int slot = 1; slot <= 20; slot += 19) {
            TokenBus nobody = Recipes.with(0);
            nobody.setTimes(60, slot, 1);
            b.is("nobody, S = " + slot, nobody.run(1), 6 * slot + 1 + slot + 1);
            TokenBus in = Recipes.with(0, 1);
            in.setTimes(60, slot, 1);
            b.is("an answer, S = " + slot, in.run(1), 6 * slot + 1 + 1 + 1);
        }
    }

    private void passToItself() {
        b.says(7, "the holder sends the token to its next address (perhaps its own), which takes 1 tick");
        TokenBus bus = Recipes.alone(60);
        b.is("run(5)", bus.run(5), 24 + 5);
        b.is("setting(7)", bus.setting(7), 0);
        b.is("the ring", bus.setting(4), 1);
        b.says(7, "If the next address has a station that is on and in the ring, and this is not spoilt, that station is the holder.");
        TokenBus two = Recipes.ringOfTwo();
        b.is("to the next one", two.run(1), 40);
        b.is("setting(7)", two.setting(7), 2);
        b.is("from the highest to the lowest one", two.run(1), 41);
        b.is("setting(7) again", two.setting(7), 0);
    }

    private void tries() {
        b.says(7, "Otherwise, if it is spoilt, the number of spoilt transmissions increases by 1; in any case S ticks pass (after the third "
                + "failure, too), and the holder tries again, three times in all.");
        // The tries are at 39, 44 and 49.
        int[][] noises = {{38, 38, 40, 0, 2}, {39, 39, 45, 1, 2}, {40, 43, 40, 0, 2}, {39, 43, 45, 1, 2}, {39, 44, 50, 2, 2},
            {39, 48, 50, 2, 2}, {44, 49, 40, 0, 2}};
        for (int[] noise : noises) {
            TokenBus bus = Recipes.ringOfTwo();
            bus.addNoise(noise[0], noise[1]);
            String with = "noise " + noise[0] + " to " + noise[1];
            b.is(with, bus.run(1), noise[2]);
            b.is("spoilt by " + with, bus.count(2), noise[3]);
            b.is("the holder with " + with, bus.setting(7), noise[4]);
            b.is("nobody has left with " + with, bus.count(5), 0);
        }
        for (int slot = 1; slot <= 20; slot += 19) {
            TokenBus third = Recipes.ringOfTwo();
            third.setTimes(60, slot, 20);
            third.addNoise(39, 39 + 2 * (1 + slot));
            b.is("three failures, then 29 questions, S = " + slot, third.run(1), 39 + 32 * (1 + slot));
        }
    }

    private void triesToOneThatIsOff() {
        b.says(7, "Otherwise, if it is spoilt");
        TokenBus off = Recipes.ringOfTwo();
        off.setOn(2, false);
        b.is("three failures, 29 questions", off.run(1), 39 + 15 + 29 * 5);
        b.is("nothing was spoilt", off.count(2), 0);
        TokenBus noisy = Recipes.ringOfTwo();
        noisy.setOn(2, false);
        noisy.addNoise(44, 44);
        b.is("the same time", noisy.run(1), 39 + 15 + 29 * 5);
        b.is("the second try was spoilt", noisy.count(2), 1);
        TokenBus back = Recipes.ringOfTwo();
        back.setOn(2, false);
        back.setOn(2, true);
        b.is("on, but not in the ring", back.run(1), 39 + 15 + 29 * 5);
    }

    private void leavesAfterThird() {
        b.says(7, "After the third failure the station at the next address, if there is one that is in the ring and is not the holder "
                + "itself, leaves the ring");
        TokenBus bus = Recipes.ringOfTwo();
        bus.addNoise(39, 49);
        b.is("run(1)", bus.run(1), 39 + 15 + 29 * 5);
        b.is("2 has left", bus.station(2, 1), 0);
        b.is("2 is on", bus.station(2, 0), 1);
        b.counts("2 has left", bus, 4, 0, 3, 1, 1, 1, 0);
        TokenBus off = Recipes.ringOfTwo();
        off.setOn(2, false);
        off.run(1);
        b.is("one that was not in the ring is not counted", off.count(5), 0);
        TokenBus itself = Recipes.alone(60);
        itself.addNoise(24, 34);
        b.is("the holder itself", itself.run(1), 24 + 15 + 31 * 5);
        b.is("is in the ring still", itself.station(0, 1), 1);
        b.counts("the holder itself", itself, 1, 0, 3, 1, 0, 0, 0);
        b.says(7, "A station that leaves the ring keeps its next address and its gap pointer.");
        b.station("2 has left", bus, 2, 1, 0, 0, 3, 0, 1, 33);
    }

    private void asksOthers() {
        b.says(7, "the holder asks the addresses behind its next address, one after the other, up to its own one: asking another address "
                + "takes 1 tick; if the address has a station that is on and in the ring, and the question is not spoilt, that address "
                + "becomes the next address of the holder, and the station there the holder of the token; if the question is spoilt, the "
                + "number of spoilt transmissions increases by 1; without an answer, also where the question is spoilt, S ticks pass.");
        TokenBus bus = Recipes.ringOfThree();
        bus.addStation(3);
        bus.setOn(2, false);
        bus.setTimes(60, 4, 20);
        // 3 is on and not in the ring, so that only 4 answers.
        b.is("three failures, 3, 4", bus.run(1), 54 + 15 + 5 + 1);
        b.station("the holder", bus, 0, 1, 1, 4, 1, 0, 4, 54);
        b.is("setting(7)", bus.setting(7), 4);
        TokenBus spoilt = Recipes.ringOfThree();
        spoilt.setTimes(60, 4, 20);
        spoilt.addNoise(54, 69);
        // The question to 3 at 69 is spoilt, the one to 4 at 74 is not.
        b.is("2 leaves, 3 is asked in vain", spoilt.run(1), 54 + 15 + 5 + 1);
        b.counts("three tries and a question", spoilt, 7, 0, 4, 1, 2, 1, 0);
        b.is("setting(7)", spoilt.setting(7), 4);
        TokenBus other = Recipes.ringOfThree();
        other.setTimes(60, 4, 20);
        other.addNoise(54, 64);
        other.addNoise(74, 74);
        b.is("the question to 4 is spoilt", other.run(1), 54 + 15 + 29 * 5);
        b.is("setting(7)", other.setting(7), 0);
        b.is("4 is in the ring still", other.station(4, 1), 1);
        b.is("the next address", other.station(0, 2), 0);
        b.counts("three tries and a question", other, 7, 0, 4, 1, 2, 1, 0);
    }

    /** Station 30 passes to 31, which is off by then, and asks 0 behind it. */
    private static TokenBus ringAcross() {
        TokenBus bus = Recipes.with(30);
        bus.setTimes(60, 4, 20);
        bus.run(1);
        bus.addStation(31);
        bus.setTimes(60, 4, 1);
        bus.run(1);
        bus.addStation(0);
        bus.run(1);
        bus.setTimes(60, 4, 20);
        bus.run(1);
        bus.setOn(31, false);
        return bus;
    }

    private void asksAcrossTheHighest() {
        b.says(7, "\"Behind a\" means the addresses a + 1, a + 2, .., 31, 0, .., a in this order.");
        TokenBus bus = ringAcross();
        b.settings("30, 31 and 0", bus, 60, 4, 20, 3, 2, 0, 272, 30, 0);
        b.is("0 is asked behind 31", bus.run(1), 272 + 15 + 1);
        b.is("setting(7)", bus.setting(7), 0);
        b.station("the next address of 30", bus, 30, 1, 1, 0, 31, 0, 3, 272);
        TokenBus spoilt = ringAcross();
        spoilt.addNoise(287, 287);
        b.is("0 to 29 are asked behind 31", spoilt.run(1), 272 + 15 + 30 * 5);
        b.is("setting(7)", spoilt.setting(7), 30);
    }

    private void asksNobody() {
        b.says(7, "When its own address is reached, its next address becomes its own one (without asking), and it stays the holder.");
        TokenBus bus = ring(0, 31);
        bus.setTimes(60, 4, 20);
        b.is("31 passes to 0", bus.run(1), 207 + 1);
        bus.setOn(31, false);
        b.is("nobody is behind 31 but 0 itself", bus.run(1), 208 + 15);
        b.is("the next address", bus.station(0, 2), 0);
        b.is("setting(7)", bus.setting(7), 0);
        TokenBus beside = ring(7, 8);
        beside.setTimes(60, 4, 20);
        beside.setOn(7, false);
        b.is("nobody is behind 7 but 8 itself", beside.run(1), 83 + 15);
        b.is("the next address", beside.station(8, 2), 8);
        b.is("setting(7)", beside.setting(7), 8);
    }

    private void staysAlone() {
        b.says(7, "up to its own one");
        TokenBus bus = Recipes.alone(60);
        bus.addNoise(24, 24 + 14);
        b.is("31 others are asked behind its own address", bus.run(1), 24 + 15 + 31 * 5);
        b.station("it stays", bus, 0, 1, 1, 0, 0, 0, 1, 24);
        b.is("setting(7)", bus.setting(7), 0);
        TokenBus highest = Recipes.with(31);
        highest.setTimes(60, 1, 20);
        highest.addNoise(68, 72);
        b.is("0 to 30 are asked behind 31", highest.run(1), 68 + 6 + 31 * 2);
        b.is("setting(7)", highest.setting(7), 31);
        b.is("the next address", highest.station(31, 2), 31);
        TokenBus all = Recipes.alone(60);
        all.addNoise(24, 1000);
        b.is("the questions are spoilt, too", all.run(1), 24 + 15 + 31 * 5);
        b.is("3 tries and 31 questions", all.count(2), 34);
    }
}
