/** A TokenBus and a Model that get the same calls; every answer is compared. */
final class Pair {
    /** What an object answers after its 512th call is free. */
    private static final int MOST_CALLS = 510;
    private static final int FIRST_READING = 7;
    private static final int LAST_READING = 18;

    final TokenBus bus = new TokenBus();
    final Model model = new Model();
    private final Check check;
    private final String name;
    private int calls;

    Pair(Check check, String name) {
        this.check = check;
        this.name = name;
    }

    int calls() {
        return calls;
    }

    /** Makes a call on both, unless the object has been used up. */
    void call(int way, int... a) {
        if (calls + 2 > MOST_CALLS) {
            return;
        }
        calls++;
        Object due = Check.outcome(() -> onModel(way, a));
        Object got = Check.outcome(() -> onBus(way, a));
        check.same(label(way, a), got, due);
        if (way < FIRST_READING || way > LAST_READING || calls % 8 == 0) {
            calls++;
            check.same(label(way, a) + " and then digest()", bus.digest(), model.digest());
        }
    }

    private String label(int way, int[] a) {
        return name + ", call " + calls + ": way " + way + " " + java.util.Arrays.toString(a);
    }

    private Object onBus(int way, int[] a) {
        switch (way) {
            case 0: return bus.addStation(a[0]);
            case 1: return bus.setOn(a[0], a[1] != 0);
            case 2: return bus.setTimes(a[0], a[1], a[2]);
            case 3: return bus.give(a[0], a[1], a[2]);
            case 4: return bus.addNoise(a[0], a[1]);
            case 5: return bus.run(a[0]);
            case 6: return bus.loseToken();
            case 7: return bus.setting(a[0]);
            case 8: return bus.station(a[0], a[1]);
            case 9: return bus.addressAt(a[0]);
            case 10: return bus.queued(a[0], a[1]);
            case 11: return bus.message(a[0], a[1]);
            case 12: return bus.count(a[0]);
            case 13: return bus.isNoisy(a[0]);
            case 14: return bus.logged();
            case 15: return bus.visit(a[0], a[1]);
            case 16: return bus.greatestRotation();
            case 17: return bus.waits(a[0] != 0);
            case 18: return bus.use();
            case 19: return bus.waitOf(a[0]);
            case 20: return bus.completeAfter();
            case 21: return bus.leastTarget(a[0]);
            case 22: return bus.append(a[0]);
            case 23: return bus.clearText();
            case 24: return bus.parse();
            default: return bus.undo();
        }
    }

    private Object onModel(int way, int[] a) {
        switch (way) {
            case 0: return model.addStation(a[0]);
            case 1: return model.setOn(a[0], a[1] != 0);
            case 2: return model.setTimes(a[0], a[1], a[2]);
            case 3: return model.give(a[0], a[1], a[2]);
            case 4: return model.addNoise(a[0], a[1]);
            case 5: return model.run(a[0]);
            case 6: return model.loseToken();
            case 7: return model.setting(a[0]);
            case 8: return model.station(a[0], a[1]);
            case 9: return model.addressAt(a[0]);
            case 10: return model.queued(a[0], a[1]);
            case 11: return model.message(a[0], a[1]);
            case 12: return model.count(a[0]);
            case 13: return model.isNoisy(a[0]);
            case 14: return model.logged();
            case 15: return model.visit(a[0], a[1]);
            case 16: return model.greatestRotation();
            case 17: return model.waits(a[0] != 0);
            case 18: return model.use();
            case 19: return model.waitOf(a[0]);
            case 20: return model.completeAfter();
            case 21: return model.leastTarget(a[0]);
            case 22: return model.append(a[0]);
            case 23: return model.clearText();
            case 24: return model.parse();
            default: return model.undo();
        }
    }
}
