/** The digest as the document words it, from what the other methods answer. */
final class Hash {
    /** What an object answers after its 512th call is free, so that a new one is asked now and then. */
    private static final int MOST_READINGS = 200;

    private final Bounds.Recipe recipe;
    private final int length;
    private final int saved;
    private TokenBus asked;
    private int readings;
    private long hash = 3169;

    Hash(Bounds.Recipe recipe, int length, int saved) {
        this.recipe = recipe;
        this.length = length;
        this.saved = saved;
    }

    private TokenBus bus() {
        if (asked == null || readings >= MOST_READINGS) {
            asked = recipe.make();
            readings = 0;
        }
        readings++;
        return asked;
    }

    private void add(long value) {
        hash = 31 * hash + value;
    }

    long value() {
        add(length);
        for (int what = 0; what <= 8; what++) {
            add(bus().setting(what));
        }
        int stations = bus().setting(3);
        for (int place = 0; place < stations; place++) {
            addStation(bus().addressAt(place));
        }
        int messages = bus().setting(8);
        for (int message = 0; message < messages; message++) {
            for (int what = 0; what <= 4; what++) {
                add(bus().message(message, what));
            }
        }
        for (int what = 0; what <= 6; what++) {
            add(bus().count(what));
        }
        add(bus().greatestRotation());
        addLog();
        add(saved);
        return hash;
    }

    private void addStation(int address) {
        add(address);
        for (int what = 0; what <= 6; what++) {
            add(bus().station(address, what));
        }
        int waiting = bus().station(address, 4);
        for (int place = 0; place < waiting; place++) {
            add(bus().queued(address, place));
        }
    }

    private void addLog() {
        int visits = bus().logged();
        add(visits);
        for (int index = 0; index < visits; index++) {
            for (int what = 0; what <= 3; what++) {
                add(bus().visit(index, what));
            }
        }
    }
}
