import java.util.NoSuchElementException;

/** What the tests of the document share: the sentence that is looked at, and refused calls. */
final class Bounds {
    static final int NONE = -1;
    static final int LOWEST = Integer.MIN_VALUE;
    static final int HIGHEST = Integer.MAX_VALUE;
    static final Class<IllegalArgumentException> ARGUMENT = IllegalArgumentException.class;
    static final Class<IllegalStateException> STATE = IllegalStateException.class;
    static final Class<IndexOutOfBoundsException> INDEX = IndexOutOfBoundsException.class;
    static final Class<NoSuchElementException> NO_STATION = NoSuchElementException.class;
    /** Ticks at and beside the edges of the noises that the recipes add. */
    private static final int[] TICKS = {0, 4, 5, 6, 7, 10, 11, 99, 100, 200, 201, 1000, 899633, 899634, 999999, 1000000};

    /** Makes objects that have all had the same calls. */
    interface Recipe {
        TokenBus make();
    }

    interface On {
        Object answer(TokenBus bus);
    }

    private final Check check;
    private final Sentences sentences;
    private final boolean[] named = new boolean[Sentences.PROMISES + 1];
    private String label = "";

    Bounds(Check check, Sentences sentences) {
        this.check = check;
        this.sentences = sentences;
    }

    /** What follows holds the class to these words of the promise, or of the description. */
    void says(int promise, String words) {
        named[promise] = true;
        label = "promise " + promise + ", \"" + words + "\": ";
        check.is(label + "stands in the document", sentences.quote(promise, words), true);
    }

    boolean names(int promise) {
        return named[promise];
    }

    void is(String call, long got, long due) {
        check.is(label + call, got, due);
    }

    void is(String call, boolean got, boolean due) {
        check.is(label + call, got, due);
    }

    void isReal(String call, double got, double due) {
        check.isReal(label + call, got, due);
    }

    /** The call throws just this, and leaves its object as one that has not had the call. */
    void refuses(String call, Class<? extends RuntimeException> due, Recipe recipe, On body) {
        TokenBus tried = recipe.make();
        check.same(label + call, Check.outcome(() -> body.answer(tried)), due.getName());
        unchanged(call, tried, recipe.make());
    }

    /** The call answers this, and leaves its object as one that has not had the call. */
    void onlyAnswers(String call, Object due, Recipe recipe, On body) {
        TokenBus tried = recipe.make();
        check.same(label + call, Check.outcome(() -> body.answer(tried)), due);
        unchanged(call, tried, recipe.make());
    }

    private void unchanged(String call, TokenBus tried, TokenBus twin) {
        check.same(label + call + ", what is seen behind it", seen(tried), seen(twin));
    }

    /** All that can be seen of an object, its saved states and its text; it is used up by this. */
    private static String seen(TokenBus bus) {
        StringBuilder seen = new StringBuilder();
        addReadings(seen, bus);
        seen.append(Check.outcome(bus::completeAfter)).append(' ');
        seen.append(Check.outcome(() -> bus.leastTarget(7))).append(' ');
        for (int message = 0; message < 4; message++) {
            int asked = message;
            seen.append(Check.outcome(() -> bus.waitOf(asked))).append(' ');
        }
        for (int i = 0; i < 5; i++) {
            seen.append("; undo ").append(Check.outcome(bus::undo)).append(' ');
            addReadings(seen, bus);
        }
        seen.append("; parse ").append(Check.outcome(bus::parse)).append(' ');
        seen.append(Check.outcome(() -> bus.run(3))).append(' ');
        addReadings(seen, bus);
        return seen.toString();
    }

    private static void addReadings(StringBuilder seen, TokenBus bus) {
        seen.append(bus.digest()).append(' ').append(bus.use()).append(' ');
        seen.append(bus.waits(true)).append(' ').append(bus.waits(false)).append(' ');
        for (int tick : TICKS) {
            seen.append(bus.isNoisy(tick) ? '1' : '0');
        }
        seen.append(' ');
    }

    // ---- several values at once

    void settings(String when, TokenBus bus, int... due) {
        for (int what = 0; what < due.length; what++) {
            is(when + " setting(" + what + ")", bus.setting(what), due[what]);
        }
    }

    void station(String when, TokenBus bus, int address, int... due) {
        for (int what = 0; what < due.length; what++) {
            is(when + " station(" + address + ", " + what + ")", bus.station(address, what), due[what]);
        }
    }

    void counts(String when, TokenBus bus, int... due) {
        for (int what = 0; what < due.length; what++) {
            is(when + " count(" + what + ")", bus.count(what), due[what]);
        }
    }

    void visit(String when, TokenBus bus, int index, int... due) {
        for (int what = 0; what < due.length; what++) {
            is(when + " visit(" + index + ", " + what + ")", bus.visit(index, what), due[what]);
        }
    }

    void message(String when, TokenBus bus, int message, int... due) {
        for (int what = 0; what < due.length; what++) {
            is(when + " message(" + message + ", " + what + ")", bus.message(message, what), due[what]);
        }
    }

    void queue(String when, TokenBus bus, int address, int... due) {
        is(when + " station(" + address + ", 4)", bus.station(address, 4), due.length);
        for (int place = 0; place < due.length; place++) {
            is(when + " queued(" + address + ", " + place + ")", bus.queued(address, place), due[place]);
        }
    }
}
