/** Boundary cases of giving messages and of what is asked of them: promises 5, 12 and 13. */
final class MessageBounds {
    private static final int NONE = Bounds.NONE;
    private static final int[] NO_ADDRESSES = {-1, 1, 30, 32, Bounds.LOWEST, Bounds.HIGHEST};

    private final Bounds b;

    MessageBounds(Bounds bounds) {
        b = bounds;
    }

    void all() {
        lengths();
        urgencies();
        receivers();
        numbers();
        refusedHundredAndFirst();
        order();
        urgentFromFive();
        queuePlaces();
        messageValues();
        refusedMessageValues();
    }

    private void lengths() {
        b.says(5, "- `length`: 1 to 20");
        TokenBus bus = Recipes.with(0);
        b.is("give(0, 1, 3)", bus.give(0, 1, 3), 0);
        b.is("give(0, 20, 3)", bus.give(0, 20, 3), 1);
        b.is("message(0, 0)", bus.message(0, 0), 1);
        b.is("message(1, 0)", bus.message(1, 0), 20);
        b.says(5, "Throws `IllegalArgumentException` if length or urgency is out of range");
        for (int wrong : new int[] {0, 21, -1, Bounds.LOWEST, Bounds.HIGHEST}) {
            b.refuses("give(0, " + wrong + ", 3)", Bounds.ARGUMENT, Recipes::busy, x -> x.give(0, wrong, 3));
            b.refuses("give(0, " + wrong + ", 10)", Bounds.ARGUMENT, Recipes::busy, x -> x.give(0, wrong, 10));
        }
    }

    private void urgencies() {
        b.says(5, "- `urgency`: 0 to 9");
        TokenBus bus = Recipes.with(0);
        b.is("give(0, 3, 0)", bus.give(0, 3, 0), 0);
        b.is("give(0, 3, 9)", bus.give(0, 3, 9), 1);
        b.is("message(0, 1)", bus.message(0, 1), 0);
        b.is("message(1, 1)", bus.message(1, 1), 9);
        b.says(5, "Throws `IllegalArgumentException` if length or urgency is out of range");
        for (int wrong : new int[] {-1, 10, Bounds.LOWEST, Bounds.HIGHEST}) {
            b.refuses("give(0, 3, " + wrong + ")", Bounds.ARGUMENT, Recipes::busy, x -> x.give(0, 3, wrong));
        }
    }

    private void receivers() {
        b.says(5, "Gives a message to a station, on or off.");
        TokenBus bus = Recipes.with(0, 31);
        bus.setOn(31, false);
        b.is("give(31, 2, 2), off", bus.give(31, 2, 2), 0);
        b.is("give(0, 2, 2), on", bus.give(0, 2, 2), 1);
        b.queue("off", bus, 31, 0);
        b.queue("on", bus, 0, 1);
        b.says(5, "Throws `NoSuchElementException` if the address has no station");
        for (int wrong : NO_ADDRESSES) {
            b.refuses("give(" + wrong + ", 1, 1)", Bounds.NO_STATION, Recipes::busy, x -> x.give(wrong, 1, 1));
        }
        b.refuses("give(0, 1, 1)", Bounds.NO_STATION, TokenBus::new, x -> x.give(0, 1, 1));
    }

    private void numbers() {
        b.says(5, "Messages are numbered from 0 in the order in which they were given, over all stations; at most 100 can be given.");
        TokenBus bus = Recipes.with(0, 31);
        for (int number = 0; number < 100; number++) {
            int to = number % 3 == 0 ? 0 : 31;
            b.is("message " + number, bus.give(to, 1, number % 10), number);
        }
        b.is("setting(8)", bus.setting(8), 100);
        b.is("message(0, 2)", bus.message(0, 2), 0);
        b.is("message(98, 2)", bus.message(98, 2), 31);
        b.is("message(99, 2)", bus.message(99, 2), 0);
        b.is("station(0, 4)", bus.station(0, 4), 34);
        b.is("station(31, 4)", bus.station(31, 4), 66);
        b.is("undo() of message 99", bus.undo(), 3);
        b.is("message 99 for the other one", bus.give(31, 20, 9), 99);
        b.is("queued(31, 6), behind 19, 29, 49, 59, 79 and 89", bus.queued(31, 6), 99);
    }

    private void refusedHundredAndFirst() {
        b.says(5, "Throws `IllegalStateException` if 100 messages have been given");
        b.refuses("message 100", Bounds.STATE, Recipes::full, x -> x.give(0, 1, 1));
        b.refuses("message 100 for another one", Bounds.STATE, Recipes::full, x -> x.give(31, 20, 9));
        b.refuses("message 100 where all have been sent", Bounds.STATE, MessageBounds::allSent, x -> x.give(0, 1, 1));
        b.says(5, "If several exceptions apply, the one that is listed first is thrown.");
        b.refuses("message 100 of no length", Bounds.ARGUMENT, Recipes::full, x -> x.give(0, 0, 1));
        b.refuses("message 100, too urgent", Bounds.ARGUMENT, Recipes::full, x -> x.give(0, 1, 10));
        b.refuses("message 100 for nobody", Bounds.NO_STATION, Recipes::full, x -> x.give(1, 1, 1));
        b.refuses("message 100 of no length for nobody", Bounds.NO_STATION, Recipes::full, x -> x.give(1, 0, 1));
        b.refuses("no length for nobody", Bounds.NO_STATION, Recipes::busy, x -> x.give(1, 0, 1));
        b.refuses("too urgent for nobody", Bounds.NO_STATION, Recipes::busy, x -> x.give(32, 1, 10));
    }

    /** Station 0 has sent 100 messages of 1 tick in one visit. */
    private static TokenBus allSent() {
        TokenBus bus = Recipes.alone(500);
        for (int i = 0; i < 100; i++) {
            bus.give(0, 1, 0);
        }
        bus.run(1);
        return bus;
    }

    private void order() {
        b.says(5, "In a queue they are ordered by descending urgency, equal ones by ascending numbers.");
        TokenBus bus = Recipes.with(4);
        for (int i = 0; i < 100; i++) {
            bus.give(4, 1, (i * 7) % 10);
        }
        // 7 * i gives the digit d for i = 3 * d, 3 * d + 10, ..
        for (int place = 0; place < 100; place++) {
            int digit = 9 - place / 10;
            b.is("queued(4, " + place + ")", bus.queued(4, place), (3 * digit) % 10 + 10 * (place % 10));
        }
        TokenBus equal = Recipes.with(4);
        TokenBus rising = Recipes.with(4);
        for (int i = 0; i < 10; i++) {
            equal.give(4, 20 - i, 9);
            rising.give(4, 1, i);
        }
        b.queue("equal ones", equal, 4, 0, 1, 2, 3, 4, 5, 6, 7, 8, 9);
        b.queue("rising ones", rising, 4, 9, 8, 7, 6, 5, 4, 3, 2, 1, 0);
    }

    private void urgentFromFive() {
        b.says(5, "it is urgent if its urgency is at least 5");
        for (int urgency = 0; urgency <= 9; urgency++) {
            TokenBus bus = withoutAllowance();
            b.is("give", bus.give(0, 1, urgency), 0);
            int due = urgency < 5 ? 26 + 1 : 26 + 1 + 1;
            b.is("a visit without an allowance, urgency " + urgency, bus.run(1), due);
            b.is("sent, urgency " + urgency, bus.count(1), urgency < 5 ? 0 : 1);
        }
    }

    /** At 26 the next visit of station 0 has a rotation of 1, as much as T. */
    private static TokenBus withoutAllowance() {
        TokenBus bus = Recipes.alone(1);
        bus.run(2);
        return bus;
    }

    private void queuePlaces() {
        b.says(12, "- `place`: place in the queue, from 0");
        TokenBus bus = Recipes.with(4);
        bus.give(4, 1, 1);
        b.is("queued(4, 0)", bus.queued(4, 0), 0);
        b.says(12, "Throws `IndexOutOfBoundsException` if the queue has no such place");
        for (int wrong : new int[] {-1, 2, 3, Bounds.LOWEST, Bounds.HIGHEST}) {
            b.refuses("queued(2, " + wrong + ")", Bounds.INDEX, MessageBounds::withTwoWaiting, x -> x.queued(2, wrong));
        }
        b.is("queued(2, 1)", withTwoWaiting().queued(2, 1), 0);
        b.refuses("queued(4, 0), empty", Bounds.INDEX, () -> Recipes.with(4), x -> x.queued(4, 0));
        b.refuses("queued(0, 0), all sent", Bounds.INDEX, MessageBounds::allSent, x -> x.queued(0, 0));
        b.refuses("queued(0, 100)", Bounds.INDEX, MessageBounds::hundredWaiting, x -> x.queued(0, 100));
        b.is("queued(0, 99)", hundredWaiting().queued(0, 99), 0);
        b.is("queued(0, 0)", hundredWaiting().queued(0, 0), 99);
        b.says(12, "Throws `NoSuchElementException` if the address has no station");
        for (int wrong : NO_ADDRESSES) {
            b.refuses("queued(" + wrong + ", 0)", Bounds.NO_STATION, Recipes::busy, x -> x.queued(wrong, 0));
            b.refuses("queued(" + wrong + ", -1)", Bounds.NO_STATION, Recipes::busy, x -> x.queued(wrong, -1));
        }
    }

    private static TokenBus withTwoWaiting() {
        TokenBus bus = Recipes.with(0, 2);
        bus.give(2, 1, 1);
        bus.give(0, 1, 1);
        bus.give(2, 1, 2);
        return bus;
    }

    /** The last one given is the most urgent one, the first one the last of the queue. */
    private static TokenBus hundredWaiting() {
        TokenBus bus = Recipes.with(0);
        for (int i = 0; i < 99; i++) {
            bus.give(0, 1, i == 0 ? 0 : 1);
        }
        bus.give(0, 1, 9);
        return bus;
    }

    private void messageValues() {
        b.says(13, "- `what`: 0 its length, 1 its urgency, 2 the address of its station, 3 the time at which it was given, "
                + "4 its wait (NONE if it has not been sent)");
        TokenBus bus = withoutAllowance();
        bus.addStation(31);
        bus.give(0, 1, 9);
        bus.give(31, 20, 0);
        b.message("not sent", bus, 0, 1, 9, 0, 26, NONE);
        b.message("not sent", bus, 1, 20, 0, 31, 26, NONE);
        bus.run(1);
        b.message("sent at once, a wait of 0", bus, 0, 1, 9, 0, 26, 0);
        b.message("not sent yet", bus, 1, 20, 0, 31, 26, NONE);
        b.says(13, "its wait is the tick at which sending began minus the time at which it was given");
        TokenBus late = Recipes.alone(60);
        late.give(0, 20, 9);
        late.give(0, 3, 8);
        late.run(1);
        b.is("the first one begins at 24", late.message(0, 4), 24);
        b.is("the second one behind it", late.message(1, 4), 44);
    }

    private void refusedMessageValues() {
        b.says(13, "Throws `IndexOutOfBoundsException` if there is no such message");
        b.is("message(99, 0)", Recipes.full().message(99, 0), 20);
        b.is("message(0, 4)", Recipes.full().message(0, 4), NONE);
        for (int wrong : new int[] {-1, 100, Bounds.LOWEST, Bounds.HIGHEST}) {
            b.refuses("message(" + wrong + ", 0)", Bounds.INDEX, Recipes::full, x -> x.message(wrong, 0));
            b.refuses("message(" + wrong + ", 5)", Bounds.INDEX, Recipes::full, x -> x.message(wrong, 5));
        }
        b.refuses("message(5, 0)", Bounds.INDEX, Recipes::busy, x -> x.message(5, 0));
        b.refuses("message(0, -1)", Bounds.INDEX, TokenBus::new, x -> x.message(0, -1));
        b.says(13, "Throws `IllegalArgumentException` if what is out of range");
        for (int wrong : new int[] {-1, 5, 6, Bounds.LOWEST, Bounds.HIGHEST}) {
            b.refuses("message(0, " + wrong + ")", Bounds.ARGUMENT, Recipes::busy, x -> x.message(0, wrong));
            b.refuses("message(99, " + wrong + ")", Bounds.ARGUMENT, Recipes::full, x -> x.message(99, wrong));
        }
    }
}
