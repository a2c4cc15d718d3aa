/** Objects that several tests begin with; each call makes a new one by the same calls. */
final class Recipes {
    private Recipes() {
    }

    static TokenBus with(int... addresses) {
        TokenBus bus = new TokenBus();
        for (int address : addresses) {
            bus.addStation(address);
        }
        return bus;
    }

    static void put(TokenBus bus, String text) {
        bus.clearText();
        for (int i = 0; i < text.length(); i++) {
            bus.append(text.charAt(i));
        }
    }

    static TokenBus withText(String text) {
        TokenBus bus = busy();
        put(bus, text);
        return bus;
    }

    /** One station with T = target, S = 4, G = 20: the token is made at 24, a pass takes 1 tick. */
    static TokenBus alone(int target) {
        TokenBus bus = with(0);
        bus.setTimes(target, 4, 20);
        return bus;
    }

    /** Stations 0 and 2 in the ring, holder 0, time 39; no polls are due for long. */
    static TokenBus ringOfTwo() {
        TokenBus bus = with(0, 2);
        bus.setTimes(60, 4, 1);
        bus.run(3);
        bus.setTimes(60, 4, 20);
        return bus;
    }

    /** Stations 0, 2 and 4 in the ring, holder 0 (next 2, gap pointer 1), time 54; polls at each visit. */
    static TokenBus ringOfThree() {
        TokenBus bus = with(0, 2, 4);
        bus.setTimes(60, 4, 1);
        bus.run(6);
        return bus;
    }

    /** Something of everything: a text, noises, queues, a log, 4 saved states. Stations 0, 2 and 31. */
    static TokenBus busy() {
        TokenBus bus = with(0, 2, 31);
        put(bus, "s3;m5,2;");
        bus.addNoise(5, 6);
        bus.setTimes(60, 4, 1);
        bus.give(2, 5, 9);
        bus.give(2, 3, 4);
        bus.give(0, 20, 0);
        bus.run(7);
        bus.give(0, 7, 9);
        bus.addNoise(100, 200);
        bus.give(31, 1, 1);
        return bus;
    }

    /** The most of everything: 8 stations, all in the ring, 100 messages, 20 noises, 40 logged visits, 120 bytes, 4 saved states. */
    static TokenBus full() {
        TokenBus bus = with(0, 2, 4, 6, 10, 20, 30, 31);
        put(bus, longestText());
        bus.setTimes(500, 1, 1);
        for (int i = 0; i < 20; i++) {
            bus.addNoise(10 * i, 10 * i);
        }
        bus.run(200);
        int[] owners = {0, 2, 4, 6, 10, 20, 30, 31};
        for (int i = 0; i < 100; i++) {
            bus.give(owners[(i * 5) % 8], 1 + i % 20, (i * 7) % 10);
        }
        return bus;
    }

    /** 120 bytes: 8 stations and 16 messages. */
    static String longestText() {
        return "s0;s1;s2;s3;s4;s5;s6;s7;" + "m10,1;".repeat(16);
    }

    /**
     * The present time is 900000; station 0 is the holder and sends nothing, station 1 is off, with message 0.
     * While all is spoilt a visit takes 34 * 21 ticks, and 21 more for each 20th one's poll:
     * 20 * 6 + 1258 * 714 + 62 * 21 = 899634. Then a visit takes 1 tick, and 2 more for a poll:
     * 332 + 17 * 2 = 366.
     */
    static TokenBus atLastStart() {
        TokenBus bus = with(0, 1);
        bus.setOn(1, false);
        bus.give(1, 1, 0);
        bus.setTimes(60, 20, 20);
        bus.addNoise(0, 899633);
        for (int i = 0; i < 6; i++) {
            bus.run(200);
        }
        bus.run(58);
        bus.setTimes(60, 1, 20);
        bus.run(200);
        bus.run(132);
        return bus;
    }

    /** One tick later than the last start. */
    static TokenBus tooLate() {
        TokenBus bus = atLastStart();
        bus.run(1);
        return bus;
    }
}
