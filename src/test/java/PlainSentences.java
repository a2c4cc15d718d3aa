/** The sentences of the document that name no boundary case, in its order, on lines that run as usual. */
final class PlainSentences {
    private static final int NONE = Bounds.NONE;

    private final Bounds b;

    PlainSentences(Bounds bounds) {
        b = bounds;
    }

    void all() {
        whatItIs();
        stationsAndMessages();
        stepsOfVisit();
        pollsAtEachGapCount();
        textItems();
        stationsAndLine();
        messagesAndVisits();
        valuesOfLineAndStation();
        valuesOfMessagesAndCounts();
        valuesOfTheLog();
        wholeCourse();
        whatIf();
        text();
        digest();
    }

    /**
     * Stations 3, 10 and 20 with T = 30, S = 2, G = 2 and messages 1 (urgent) and 0 for 3, 2 (urgent) for
     * 10, 3 for 20. The token is made up to 24. Station 3 sends from 24 to 33; its visits 2, 4, .., 14
     * (35, 40, .., 65) poll 4, 5, .., 10. Station 10 sends from 68 to 72 and polls 11, 12, .., 20 in its
     * visits 2, 4, .., 20 (75, 85, .., 165), while 3 passes on. Station 20 comes in by visit 53 of all and
     * sends from 168 to 170 in visit 54, which ends at 172.
     */
    private static TokenBus usual() {
        TokenBus bus = Recipes.with(3, 10, 20);
        bus.setTimes(30, 2, 2);
        bus.give(3, 4, 1);
        bus.give(3, 6, 7);
        bus.give(10, 5, 5);
        bus.give(20, 3, 0);
        return bus;
    }

    private static TokenBus usual(int visits) {
        TokenBus bus = usual();
        bus.run(visits);
        return bus;
    }

    private void whatItIs() {
        b.says(7, "A simulator of a token bus: stations with addresses form a logical ring on one line, the token goes from each one to the "
                + "next higher address");
        TokenBus ring = Recipes.ringOfThree();
        ring.setTimes(60, 4, 20);
        ring.run(6);
        int[] holders = {0, 2, 4, 0, 2, 4};
        for (int i = 0; i < holders.length; i++) {
            b.visit("round and round", ring, 6 + i, 54 + i, holders[i]);
        }
        b.says(7, "urgent messages go first and others as long as the rotation time allows");
        TokenBus sent = usual(1);
        b.message("the urgent one", sent, 1, 6, 7, 3, 0, 24);
        b.message("the other one", sent, 0, 4, 1, 3, 0, 30);
        b.says(7, "new stations are asked in by polls");
        b.is("10 comes in", usual(14).station(10, 1), 1);
        b.says(7, "silent ones are passed over");
        TokenBus silent = Recipes.ringOfThree();
        silent.setOn(2, false);
        silent.run(1);
        b.is("the token goes from 0 to 4", silent.setting(7), 4);
        b.says(7, "noise spoils what is sent");
        TokenBus noisy = usual();
        noisy.addNoise(33, 33);
        noisy.run(1);
        b.is("message 0 from 30 to 33", noisy.message(0, 4), NONE);
        b.says(7, "lost tokens are made anew");
        TokenBus lost = Recipes.ringOfThree();
        lost.loseToken();
        lost.run(1);
        b.is("count(3)", lost.count(3), 2);
        b.says(26, "and systems are read from a text.");
        TokenBus read = new TokenBus();
        Recipes.put(read, "s3;m4,1;m6,7;s10;m5,5;s20;m3,0;");
        read.parse();
        read.setTimes(30, 2, 2);
        b.is("it runs as one that is told by calls", read.run(54), 172);
        b.is("count(6)", read.count(6), 18);
    }

    private void stationsAndMessages() {
        b.says(10, "A station is on or off, is in the ring or not, and has a next address, a gap pointer, and a queue of messages.");
        TokenBus bus = usual(16);
        bus.setOn(20, false);
        b.station("the one that polled", bus, 3, 1, 1, 10, 10, 0, 15, 74);
        b.station("the one that was polled", bus, 10, 1, 1, 3, 10, 0, 1, 68);
        b.station("off, not in the ring", bus, 20, 0, 0, 20, 20, 1, 0, NONE);
        b.queue("off", bus, 20, 3);
        b.says(5, "A message has a length, 1 to 20 ticks, and an urgency, 0 to 9");
        b.says(7, "Sending a message takes its length.");
        for (int length = 1; length <= 20; length++) {
            for (int urgency = 0; urgency <= 9; urgency++) {
                TokenBus one = Recipes.alone(60);
                one.give(0, length, urgency);
                b.message("given", one, 0, length, urgency);
                b.is("length " + length + ", urgency " + urgency, one.run(1), 24 + length + 1);
                b.is("its ticks", one.count(6), length);
            }
        }
    }

    /** Made up to 24, message 0 from 24 to 28, a poll at 29, its answer at 30, the token passed at 31. */
    private static TokenBus oneOfEach(int noise) {
        TokenBus bus = Recipes.with(0, 1);
        bus.setTimes(60, 4, 1);
        bus.give(0, 5, 9);
        bus.addNoise(noise, noise);
        bus.run(1);
        return bus;
    }

    /** The time behind the visit, messages sent, spoilt transmissions, stations polled in, the holder. */
    private void step(int noise, int... due) {
        TokenBus bus = oneOfEach(noise);
        String with = "noise at " + noise;
        b.is(with + ", setting(6)", bus.setting(6), due[0]);
        b.is(with + ", count(1)", bus.count(1), due[1]);
        b.is(with + ", count(2)", bus.count(2), due[2]);
        b.is(with + ", count(4)", bus.count(4), due[3]);
        b.is(with + ", setting(7)", bus.setting(7), due[4]);
        b.visit(with, bus, 0, 24, 0, 0, due[1]);
    }

    private void stepsOfVisit() {
        b.says(7, "A visit goes like this: If there is no holder, the token is made anew:");
        step(0, 32, 1, 0, 1, 1);
        step(23, 32, 1, 0, 1, 1);
        TokenBus held = oneOfEach(0);
        b.is("with a holder it is not made anew", held.run(1), 32 + 6);
        b.is("count(3)", held.count(3), 1);
        b.says(7, "Otherwise, let h be the station with the lowest address");
        b.is("0 made it", held.visit(0, 1), 0);
        b.says(7, "Messages: if its queue is not empty");
        step(24, 32, 0, 1, 1, 1);
        step(28, 32, 0, 1, 1, 1);
        b.says(7, "Gap: if the number of visits of the holder is divisible by G, and there are addresses");
        step(29, 29 + 5 + 1, 1, 1, 0, 0);
        step(30, 29 + 6 + 1, 1, 1, 0, 0);
        b.says(7, "Passing: the holder sends the token to its next address");
        step(31, 31 + 5 + 1, 1, 1, 1, 1);
        step(32, 32, 1, 0, 1, 1);
        b.says(7, "leaves the ring, and the holder asks the addresses behind its next address");
        TokenBus silent = Recipes.ringOfThree();
        silent.setTimes(60, 4, 20);
        silent.addNoise(54, 64);
        b.is("2 leaves, 3 is asked, then 4", silent.run(1), 54 + 15 + 5 + 1);
        b.is("station(2, 1)", silent.station(2, 1), 0);
        b.is("setting(7)", silent.setting(7), 4);
        b.says(7, "The rotation of the holder is t0 minus the time at which it has begun its latest visit, 0 if it has had none; t0 is the "
                + "time of its latest visit from now on.");
        TokenBus bus = usual();
        int[] latest = new int[32];
        for (int visit = 0; visit < 40; visit++) {
            bus.run(1);
            int holder = bus.visit(visit, 1);
            int begin = bus.visit(visit, 0);
            b.is("rotation of visit " + visit, bus.visit(visit, 2), latest[holder] == 0 ? 0 : begin - latest[holder]);
            b.is("station(" + holder + ", 6)", bus.station(holder, 6), begin);
            latest[holder] = begin;
        }
    }

    private void pollsAtEachGapCount() {
        b.says(7, "the holder polls this address, which takes 1 tick. If the address has a station");
        for (int gap = 1; gap <= 20; gap++) {
            TokenBus bus = Recipes.with(0);
            bus.setTimes(60, 4, gap);
            int polls = 30 / gap;
            b.is("30 visits, G = " + gap, bus.run(30), 24 + 30 + polls * (1 + 4));
            b.is("the gap pointer, G = " + gap, bus.station(0, 3), polls);
        }
    }

    private void textItems() {
        b.says(26, "It is a sequence of items, each terminated by a semicolon: \"s\" and an address of one or two digits");
        b.says(26, "There are no spaces; there may be no items");
        String whole = "s12;m2,3;s4;m15,0;";
        b.is("parse()", Recipes.withText(whole).parse(), 4);
        for (int place = 0; place <= whole.length(); place++) {
            String spaced = whole.substring(0, place) + " " + whole.substring(place);
            b.onlyAnswers("a space at " + place, -10 - place, () -> Recipes.withText(spaced), TokenBus::parse);
            if (place < whole.length() && whole.charAt(place) == ';') {
                String open = whole.substring(0, place) + whole.substring(place + 1);
                b.onlyAnswers("no semicolon at " + place, -10 - place, () -> Recipes.withText(open), TokenBus::parse);
            }
        }
    }

    private void stationsAndLine() {
        b.says(1, "- `NONE = -1`: There is no such thing.");
        b.is("NONE", TokenBus.NONE, NONE);
        b.says(2, "Adds a station.");
        b.says(2, "Returns the number of stations.");
        TokenBus bus = new TokenBus();
        int[] addresses = {9, 4, 27};
        for (int i = 0; i < addresses.length; i++) {
            b.is("addStation(" + addresses[i] + ")", bus.addStation(addresses[i]), i + 1);
            b.station("added", bus, addresses[i], 1, 0, addresses[i], addresses[i], 0, 0, NONE);
        }
        b.says(3, "Switches a station on or off.");
        b.says(3, "- `address`: address of a station - `on`: true for on");
        b.is("setOn(4, false)", bus.setOn(4, false), true);
        b.is("station(4, 0)", bus.station(4, 0), 0);
        b.is("station(9, 0), another one", bus.station(9, 0), 1);
        b.is("setOn(4, true)", bus.setOn(4, true), false);
        b.is("station(4, 0) again", bus.station(4, 0), 1);
        b.says(3, "and if it is the holder, there is no holder then; one that is switched on again is not in the ring");
        bus.run(1);
        b.is("the holder", bus.setting(7), 4);
        bus.setOn(4, false);
        b.is("no holder", bus.setting(7), NONE);
        bus.setOn(4, true);
        b.is("station(4, 1)", bus.station(4, 1), 0);
        b.says(4, "Sets the times of the line.");
        bus.setTimes(123, 7, 11);
        b.settings("set", bus, 123, 7, 11, 3);
        b.says(6, "Adds a noise.");
        b.says(6, "Returns the number of noises.");
        b.is("addNoise(40, 42)", bus.addNoise(40, 42), 1);
        b.is("addNoise(50, 50)", bus.addNoise(50, 50), 2);
        b.says(15, "Tells whether a tick is in a noise.");
        b.says(15, "Returns whether it is.");
        for (int tick = 38; tick <= 52; tick++) {
            b.is("isNoisy(" + tick + ")", bus.isNoisy(tick), tick >= 40 && tick <= 42 || tick == 50);
        }
    }

    private void messagesAndVisits() {
        b.says(5, "- `address`: address of the station");
        b.says(5, "Returns the number of the message.");
        TokenBus bus = Recipes.with(3, 10);
        b.is("give(10, 4, 2)", bus.give(10, 4, 2), 0);
        b.is("give(3, 5, 1)", bus.give(3, 5, 1), 1);
        b.is("give(10, 6, 6)", bus.give(10, 6, 6), 2);
        b.queue("of 10", bus, 10, 2, 0);
        b.queue("of 3", bus, 3, 1);
        b.says(7, "Makes visits.");
        b.says(7, "Returns the present time.");
        TokenBus one = usual();
        int[] times = {35, 39, 40, 44, 45, 49, 50, 54, 55, 59, 60, 64, 65, 68, 74, 75, 79, 83, 84};
        for (int visit = 0; visit < times.length; visit++) {
            b.is("visit " + (visit + 1), one.run(1), times[visit]);
            b.is("setting(6)", one.setting(6), times[visit]);
            b.is("count(0)", one.count(0), visit + 1);
        }
        b.is("53 at once", usual().run(53), 168);
        b.is("the same ones", usual(53).digest(), madeByTwo(20, 33));
        b.is("54 at once", usual().run(54), 172);
    }

    /** The digest when the visits are made by two calls; 4 states are saved either way. */
    private static long madeByTwo(int first, int second) {
        TokenBus bus = usual(first);
        bus.run(second);
        return bus.digest();
    }

    private void valuesOfLineAndStation() {
        TokenBus bus = usual(54);
        b.says(9, "Returns a setting or a count.");
        b.says(9, "Returns that value.");
        b.settings("behind 54 visits", bus, 30, 2, 2, 3, 3, 0, 172, 3, 4);
        b.says(10, "Returns something about a station. - `address`: address of a station");
        b.says(10, "Returns that value.");
        // 3 had 14 visits when 10 came in, and one behind each of the 20 of 10 but the last one; the visits
        // 16, 18, .., 32 polled 4 to 9, then 4, 5 and 6.
        b.station("behind 54 visits", bus, 3, 1, 1, 10, 6, 0, 33, 164);
        b.station("behind 54 visits", bus, 10, 1, 1, 20, 20, 0, 20, 165);
        b.station("behind 54 visits", bus, 20, 1, 1, 3, 20, 0, 1, 168);
        b.says(11, "Returns the address of a station by its place among all addresses of stations, in ascending order.");
        b.says(11, "Returns the address.");
        b.is("addressAt(0)", bus.addressAt(0), 3);
        b.is("addressAt(1)", bus.addressAt(1), 10);
        b.is("addressAt(2)", bus.addressAt(2), 20);
        b.says(12, "Returns a message of a queue. - `address`: address of a station");
        b.says(12, "Returns the number of the message.");
        TokenBus waiting = usual();
        b.is("queued(3, 0)", waiting.queued(3, 0), 1);
        b.is("queued(3, 1)", waiting.queued(3, 1), 0);
        b.is("queued(10, 0)", waiting.queued(10, 0), 2);
        b.is("queued(20, 0)", waiting.queued(20, 0), 3);
    }

    private void valuesOfMessagesAndCounts() {
        b.says(13, "Returns something about a message. - `message`: number of a message");
        b.says(13, "Returns that value.");
        int[][] messages = {{4, 1, 3, 0, 30}, {6, 7, 3, 0, 24}, {5, 5, 10, 0, 68}, {3, 0, 20, 0, 168}};
        TokenBus bus = usual(54);
        for (int message = 0; message < messages.length; message++) {
            b.message("sent", bus, message, messages[message]);
        }
        b.message("not sent yet", usual(53), 3, 3, 0, 20, 0, NONE);
        b.says(14, "Counts since the beginning.");
        b.says(14, "Returns that number.");
        b.counts("behind 54 visits", bus, 54, 4, 0, 1, 2, 0, 18);
        b.counts("behind 15 visits", usual(15), 15, 3, 0, 1, 1, 0, 15);
        bus.addNoise(172, 200);
        bus.run(1);
        // A poll, 3 tries and the questions to 11, 12, .., 16, 3 ticks each from 172 on, are spoilt; 20 answers.
        b.counts("behind a noise", bus, 55, 4, 10, 1, 2, 1, 18);
    }

    private void valuesOfTheLog() {
        b.says(16, "Returns the number of visits in the log.");
        for (int visits = 0; visits <= 42; visits++) {
            b.is(visits + " visits", usual(visits).logged(), Math.min(40, visits));
        }
        TokenBus bus = usual(54);
        b.says(17, "Returns something about a visit in the log.");
        b.says(17, "Returns that value.");
        b.visit("the oldest one", bus, 0, 68, 10, 0, 1);
        b.visit("the second one", bus, 1, 74, 3, 9, 0);
        b.visit("the third one", bus, 2, 75, 10, 7, 0);
        b.visit("the latest but one", bus, 38, 165, 10, 2, 0);
        b.visit("the latest one", bus, 39, 168, 20, 0, 1);
        b.visit("of 1", usual(1), 0, 24, 3, 0, 2);
        b.says(18, "Returns the greatest rotation of all visits since the beginning. Returns the greatest rotation.");
        int[] greatest = {0, 0, 11, 11};
        for (int visits = 0; visits < greatest.length; visits++) {
            b.is(visits + " visits", usual(visits).greatestRotation(), greatest[visits]);
        }
        b.is("it is no longer in the log", bus.greatestRotation(), 11);
    }

    private void wholeCourse() {
        b.says(19, "Returns the greatest or the mean wait of the messages sent. - `greatest`: true for the greatest wait, false for the mean "
                + "one");
        b.isReal("of 24 and 30, greatest", usual(1).waits(true), 30.0);
        b.isReal("of 24 and 30, mean", usual(1).waits(false), 27.0);
        b.isReal("of 24, 30 and 68, greatest", usual(15).waits(true), 68.0);
        b.isReal("of 24, 30 and 68, mean", usual(15).waits(false), 122.0 / 3.0);
        b.isReal("of all four, greatest", usual(54).waits(true), 168.0);
        b.isReal("of all four, mean", usual(54).waits(false), 72.5);
        b.says(20, "Returns the use of the line.");
        b.isReal("10 of 35", usual(1).use(), 10.0 / 35.0);
        b.isReal("15 of 74", usual(15).use(), 15.0 / 74.0);
        b.isReal("18 of 172", usual(54).use(), 18.0 / 172.0);
    }

    private void whatIf() {
        b.says(21, "Tells how long a message would wait if only visits were made.");
        int[] waits = {30, 24, 68, 168};
        for (int message = 0; message < waits.length; message++) {
            b.is("waitOf(" + message + ")", usual().waitOf(message), waits[message]);
        }
        b.is("waitOf(3) behind 20 visits", usual(20).waitOf(3), 168);
        b.says(22, "Tells after how many visits all stations that are on would be in the ring if only visits were made.");
        b.is("completeAfter()", usual().completeAfter(), 53);
        b.is("behind 20 visits", usual(20).completeAfter(), 33);
        b.is("behind 53 visits", usual(53).completeAfter(), 0);
        TokenBus off = usual();
        off.setOn(20, false);
        b.is("20 is off", off.completeAfter(), 14);
        b.says(23, "Finds the smallest target rotation time");
        b.is("leastTarget(54)", usual().leastTarget(54), 20);
        b.is("leastTarget(53)", usual().leastTarget(53), NONE);
        b.is("leastTarget(15), 20 is off", off.leastTarget(15), 20);
        b.is("leastTarget(14), 20 is off", off.leastTarget(14), NONE);
    }

    private void text() {
        b.says(24, "Appends a byte to the station text.");
        TokenBus bus = new TokenBus();
        String told = "s20;m8,6;";
        for (int i = 0; i < told.length(); i++) {
            b.is("append(" + told.charAt(i) + ")", bus.append(told.charAt(i)), i + 1);
        }
        b.is("parse()", bus.parse(), 2);
        b.message("of the text", bus, 0, 8, 6, 20, 0, NONE);
        bus.append('s');
        b.is("parse() with one byte more", bus.parse(), -10 - 10);
        b.is("clearText()", bus.clearText(), 10);
    }

    private void digest() {
        b.says(28, "Returns a hash of the state.");
        b.says(28, "for each of the following values v, set h = 31 * h + v: the length of the text; setting() for 0 to 8; for each station in "
                + "ascending order of the addresses its address, the values of station() for what = 0 to 6, and its queue (the numbers of its "
                + "messages in order); for each message the values of message() for what = 0 to 4; count() for 0 to 6; greatestRotation(); the "
                + "number of visits in the log and, for each of them, the values of visit() for what = 0 to 3; the number of saved states.");
        for (int visits = 0; visits <= 54; visits += 18) {
            int made = visits;
            Bounds.Recipe recipe = () -> usual(made);
            b.is("behind " + made + " visits", recipe.make().digest(), new Hash(recipe, 0, 4).value());
        }
    }
}
