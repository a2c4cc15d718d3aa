/** Boundary cases of new objects, stations and what is asked of them: promises 1 to 3 and 8 to 11. */
final class StationBounds {
    private static final int NONE = Bounds.NONE;
    private static final int[] NO_ADDRESSES = {-1, 32, -32, 33, 63, 255, 256, Bounds.LOWEST, Bounds.HIGHEST};

    private final Bounds b;

    StationBounds(Bounds bounds) {
        b = bounds;
    }

    void all() {
        newObject();
        addressesOfAdded();
        numberOfStations();
        refusedStations();
        addedStation();
        switched();
        switchedOffHolder();
        switchedWithoutChange();
        unknownSwitched();
        lostToken();
        settings();
        stationValues();
        places();
    }

    private void newObject() {
        b.says(1, "Creates a line without stations, at time 0.");
        TokenBus bus = new TokenBus();
        b.settings("new", bus, 60, 4, 3, 0, 0, 0, 0, NONE, 0);
        b.counts("new", bus, 0, 0, 0, 0, 0, 0, 0);
        for (int address = 0; address <= 31; address++) {
            int asked = address;
            b.refuses("station(" + asked + ", 0)", Bounds.NO_STATION, TokenBus::new, x -> x.station(asked, 0));
        }
        b.refuses("addressAt(0)", Bounds.INDEX, TokenBus::new, x -> x.addressAt(0));
        b.refuses("message(0, 0)", Bounds.INDEX, TokenBus::new, x -> x.message(0, 0));
        b.refuses("visit(0, 0)", Bounds.INDEX, TokenBus::new, x -> x.visit(0, 0));
        b.is("run(200)", bus.run(200), 0);
        b.says(1, "Time is counted in ticks, from 0.");
        b.is("setting(6)", new TokenBus().setting(6), 0);
        b.says(1, "There is a holder of the token or none (initially none).");
        b.is("setting(7)", new TokenBus().setting(7), NONE);
        b.says(1, "`NONE = -1`: There is no such thing.");
        b.is("NONE", TokenBus.NONE, -1);
    }

    private void addressesOfAdded() {
        b.says(2, "- `address`: 0 to 31");
        b.is("addStation(0)", new TokenBus().addStation(0), 1);
        b.is("addStation(31)", new TokenBus().addStation(31), 1);
        for (int wrong : NO_ADDRESSES) {
            b.refuses("addStation(" + wrong + ")", Bounds.ARGUMENT, Recipes::busy, x -> x.addStation(wrong));
            b.refuses("addStation(" + wrong + ")", Bounds.ARGUMENT, TokenBus::new, x -> x.addStation(wrong));
        }
        b.says(2, "Addresses are the numbers 0 to 31; each can have at most one station, and there are at most 8 stations.");
        for (int address = 0; address <= 31; address++) {
            TokenBus bus = new TokenBus();
            b.is("addStation(" + address + ")", bus.addStation(address), 1);
            b.is("addressAt(0)", bus.addressAt(0), address);
            b.is("station(" + address + ", 2)", bus.station(address, 2), address);
        }
    }

    private void numberOfStations() {
        b.says(2, "there are at most 8 stations");
        TokenBus bus = new TokenBus();
        int[] addresses = {31, 0, 30, 1, 16, 15, 17, 14};
        for (int i = 0; i < 8; i++) {
            b.is("addStation(" + addresses[i] + ")", bus.addStation(addresses[i]), i + 1);
            b.is("setting(3)", bus.setting(3), i + 1);
        }
        b.is("undo() of the eighth", bus.undo(), 3);
        b.is("another eighth", bus.addStation(2), 8);
        b.refuses("a ninth", Bounds.STATE, () -> Recipes.with(31, 0, 30, 1, 16, 15, 17, 14), x -> x.addStation(2));
        b.refuses("a ninth", Bounds.STATE, Recipes::full, x -> x.addStation(1));
        b.refuses("a ninth where one has been switched off", Bounds.STATE, StationBounds::fullWithOneOff,
                x -> x.addStation(1));
    }

    private static TokenBus fullWithOneOff() {
        TokenBus bus = Recipes.full();
        bus.setOn(31, false);
        return bus;
    }

    private void refusedStations() {
        b.says(2, "each can have at most one station");
        b.refuses("addStation(0)", Bounds.STATE, Recipes::busy, x -> x.addStation(0));
        b.refuses("addStation(31)", Bounds.STATE, Recipes::busy, x -> x.addStation(31));
        b.refuses("addStation(31), off", Bounds.STATE, StationBounds::withOneOff, x -> x.addStation(31));
        b.refuses("addStation(9), from the text", Bounds.STATE, StationBounds::fromText, x -> x.addStation(9));
        b.says(2, "Throws `IllegalStateException` if the address has a station, or there are 8 stations");
        b.refuses("addStation(31), both", Bounds.STATE, Recipes::full, x -> x.addStation(31));
        b.says(2, "Throws `IllegalArgumentException` if address is out of range");
        b.refuses("addStation(32) as a ninth one", Bounds.ARGUMENT, Recipes::full, x -> x.addStation(32));
        b.refuses("addStation(-1) as a ninth one", Bounds.ARGUMENT, Recipes::full, x -> x.addStation(-1));
    }

    private static TokenBus withOneOff() {
        TokenBus bus = Recipes.with(0, 31);
        bus.setOn(31, false);
        return bus;
    }

    private static TokenBus fromText() {
        TokenBus bus = Recipes.withText("s9;");
        bus.parse();
        return bus;
    }

    private void addedStation() {
        b.says(2, "When it is added it is on, not in the ring, its next address and its gap pointer are its own address, "
                + "and its queue is empty.");
        int[] addresses = {0, 31, 5};
        for (int address : addresses) {
            b.station("in a new object", Recipes.with(address), address, 1, 0, address, address, 0, 0, NONE);
        }
        TokenBus bus = Recipes.ringOfThree();
        bus.addStation(31);
        b.station("beside a ring", bus, 31, 1, 0, 31, 31, 0, 0, NONE);
        b.is("the ring", bus.setting(4), 3);
        b.refuses("queued(31, 0)", Bounds.INDEX, () -> Recipes.with(31), x -> x.queued(31, 0));
        // The same address once more, behind an undone life.
        TokenBus again = Recipes.with(1);
        again.setTimes(60, 4, 1);
        again.addStation(2);
        again.give(2, 9, 9);
        again.setOn(2, false);
        again.run(3);
        for (int left = 3; left >= 0; left--) {
            b.is("undo()", again.undo(), left);
        }
        b.is("addStation(2)", again.addStation(2), 2);
        b.station("added again", again, 2, 1, 0, 2, 2, 0, 0, NONE);
    }

    private void switched() {
        b.says(3, "A station that is switched off leaves the ring, its queue stays");
        TokenBus bus = Recipes.ringOfThree();
        bus.give(2, 1, 3);
        bus.give(2, 1, 8);
        b.is("setOn(2, false)", bus.setOn(2, false), true);
        b.station("off", bus, 2, 0, 0, 4, 4, 2, 2, 45);
        b.queue("off", bus, 2, 1, 0);
        b.is("the ring", bus.setting(4), 2);
        b.is("the holder", bus.setting(7), 0);
        b.is("not by a failure", bus.count(5), 0);
        b.says(3, "A station that leaves the ring keeps its next address and its gap pointer.");
        b.is("its next address", bus.station(2, 2), 4);
        b.is("its gap pointer", bus.station(2, 3), 4);
        b.says(3, "one that is switched on again is not in the ring");
        b.is("setOn(2, true)", bus.setOn(2, true), false);
        b.station("on again", bus, 2, 1, 0, 4, 4, 2, 2, 45);
        b.is("the ring", bus.setting(4), 2);
    }

    private void switchedOffHolder() {
        b.says(3, "if it is the holder, there is no holder then");
        TokenBus bus = Recipes.ringOfThree();
        b.is("setOn(0, false)", bus.setOn(0, false), true);
        b.is("setting(7)", bus.setting(7), NONE);
        b.is("it is not counted as lost before it is made anew", bus.count(3), 1);
        b.is("setOn(0, true)", bus.setOn(0, true), false);
        b.is("setting(7) stays", bus.setting(7), NONE);
        TokenBus highest = Recipes.with(31);
        highest.run(1);
        highest.setOn(31, false);
        b.is("setting(7) of station 31", highest.setting(7), NONE);
    }

    private void switchedWithoutChange() {
        b.says(3, "(Switching on a station that is on changes nothing.)");
        TokenBus bus = Recipes.busy();
        long before = bus.digest();
        b.is("setOn(0, true)", bus.setOn(0, true), true);
        b.is("setOn(2, true)", bus.setOn(2, true), true);
        b.is("setOn(31, true)", bus.setOn(31, true), true);
        b.is("digest(), with 4 saved states as before", bus.digest(), before);
        b.says(3, "Returns whether it was on.");
        b.is("setOn(31, false)", bus.setOn(31, false), true);
        b.is("setOn(31, false) again", bus.setOn(31, false), false);
        b.is("setOn(31, true)", bus.setOn(31, true), false);
        b.is("setOn(31, true) again", bus.setOn(31, true), true);
        b.is("setOn(0, true) of a new one", Recipes.with(0).setOn(0, true), true);
    }

    private void unknownSwitched() {
        b.says(3, "Throws `NoSuchElementException` if the address has no station");
        for (int wrong : NO_ADDRESSES) {
            b.refuses("setOn(" + wrong + ", true)", Bounds.NO_STATION, Recipes::busy, x -> x.setOn(wrong, true));
            b.refuses("setOn(" + wrong + ", false)", Bounds.NO_STATION, Recipes::full, x -> x.setOn(wrong, false));
        }
        b.refuses("setOn(1, false)", Bounds.NO_STATION, Recipes::busy, x -> x.setOn(1, false));
        b.refuses("setOn(30, true)", Bounds.NO_STATION, Recipes::busy, x -> x.setOn(30, true));
        b.refuses("setOn(0, true)", Bounds.NO_STATION, TokenBus::new, x -> x.setOn(0, true));
    }

    private void lostToken() {
        b.says(8, "Loses the token: there is no holder then.");
        TokenBus bus = Recipes.ringOfThree();
        b.is("loseToken()", bus.loseToken(), 0);
        b.is("setting(7)", bus.setting(7), NONE);
        b.is("the ring stays", bus.setting(4), 3);
        b.is("nothing is counted yet", bus.count(3), 1);
        b.is("no time passes", bus.setting(6), 54);
        b.says(8, "Returns the address of the holder; NONE if there was none.");
        b.is("loseToken() again", bus.loseToken(), NONE);
        b.is("loseToken() of a new object", new TokenBus().loseToken(), NONE);
        b.is("loseToken() before the first visit", Recipes.with(0, 31).loseToken(), NONE);
        TokenBus highest = Recipes.with(31);
        highest.run(1);
        b.is("loseToken() of station 31", highest.loseToken(), 31);
    }

    private void settings() {
        b.says(9, "- `what`: 0 T, 1 S, 2 G, 3 the number of stations, 4 the number of stations in the ring, 5 the number of "
                + "noises, 6 the present time, 7 the address of the holder (NONE if there is none), 8 the number of messages given");
        b.settings("the most of each", Recipes.full(), 500, 1, 1, 8);
        b.is("setting(5)", Recipes.full().setting(5), 20);
        b.is("setting(8)", Recipes.full().setting(8), 100);
        b.settings("the ring", Recipes.ringOfThree(), 60, 4, 1, 3, 3, 0, 54, 0, 0);
        b.settings("nothing", new TokenBus(), 60, 4, 3, 0, 0, 0, 0, NONE, 0);
        b.says(9, "Throws `IllegalArgumentException` if what is out of range");
        for (int wrong : new int[] {-1, 9, Bounds.LOWEST, Bounds.HIGHEST}) {
            b.refuses("setting(" + wrong + ")", Bounds.ARGUMENT, Recipes::busy, x -> x.setting(wrong));
            b.refuses("setting(" + wrong + ")", Bounds.ARGUMENT, TokenBus::new, x -> x.setting(wrong));
        }
    }

    private void stationValues() {
        b.says(10, "- `what`: 0 1 if it is on, otherwise 0, 1 1 if it is in the ring, otherwise 0, 2 its next address, 3 its gap "
                + "pointer, 4 the number of messages in its queue, 5 the number of its visits, 6 the time at which its latest "
                + "visit began (NONE if it has had none)");
        TokenBus bus = Recipes.ringOfThree();
        bus.addStation(31);
        bus.setOn(31, false);
        b.station("in the ring", bus, 0, 1, 1, 2, 1, 0, 3, 39);
        b.station("in the ring", bus, 4, 1, 1, 0, 5, 0, 1, 48);
        b.station("off, without a visit", bus, 31, 0, 0, 31, 31, 0, 0, NONE);
        b.says(10, "Throws `IllegalArgumentException` if what is out of range");
        for (int wrong : new int[] {-1, 7, Bounds.LOWEST, Bounds.HIGHEST}) {
            b.refuses("station(0, " + wrong + ")", Bounds.ARGUMENT, Recipes::busy, x -> x.station(0, wrong));
        }
        b.says(10, "Throws `NoSuchElementException` if the address has no station");
        for (int wrong : NO_ADDRESSES) {
            b.refuses("station(" + wrong + ", 0)", Bounds.NO_STATION, Recipes::busy, x -> x.station(wrong, 0));
            b.refuses("station(" + wrong + ", 7)", Bounds.NO_STATION, Recipes::full, x -> x.station(wrong, 7));
        }
        b.refuses("station(1, 0)", Bounds.NO_STATION, Recipes::busy, x -> x.station(1, 0));
        b.refuses("station(1, -1)", Bounds.NO_STATION, Recipes::busy, x -> x.station(1, -1));
    }

    private void places() {
        b.says(11, "- `place`: from 0");
        b.is("addressAt(0) of one", Recipes.with(31).addressAt(0), 31);
        int[] due = {0, 2, 4, 6, 10, 20, 30, 31};
        TokenBus full = Recipes.full();
        for (int place = 0; place < 8; place++) {
            b.is("addressAt(" + place + ")", full.addressAt(place), due[place]);
        }
        b.says(11, "by its place among all addresses of stations, in ascending order");
        TokenBus down = Recipes.with(31, 30, 20, 10, 6, 4, 2, 0);
        down.setOn(0, false);
        for (int place = 0; place < 8; place++) {
            b.is("addressAt(" + place + "), added downwards", down.addressAt(place), due[place]);
        }
        b.says(11, "Throws `IndexOutOfBoundsException` if there is no such place");
        for (int wrong : new int[] {-1, 8, 31, Bounds.LOWEST, Bounds.HIGHEST}) {
            b.refuses("addressAt(" + wrong + ")", Bounds.INDEX, Recipes::full, x -> x.addressAt(wrong));
        }
        b.refuses("addressAt(3)", Bounds.INDEX, Recipes::busy, x -> x.addressAt(3));
        b.refuses("addressAt(-1)", Bounds.INDEX, TokenBus::new, x -> x.addressAt(-1));
    }
}
