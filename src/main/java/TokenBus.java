import java.util.NoSuchElementException;

/**
 * A simulator of a token bus: stations with addresses form a logical ring on one line and hand the
 * token on to the next higher address.
 */
public final class TokenBus {
    /** There is no such thing. */
    public static final int NONE = -1;

    private static final int LAST_ADDRESS = 31;
    private static final int MOST_STATIONS = 8;
    private static final int MOST_MESSAGES = 100;
    private static final int MOST_NOISES = 20;
    private static final int MOST_LOGGED = 40;
    private static final int MOST_SAVED = 4;
    private static final int MOST_BYTES = 120;
    private static final int LONGEST_MESSAGE = 20;
    private static final int HIGHEST_URGENCY = 9;
    private static final int LAST_TICK = 1000000;
    /** After this time no visits are made any more. */
    private static final int LAST_START = 900000;
    private static final int MOST_RUN = 200;
    private static final int MOST_TRIED = 300;
    private static final int MOST_TARGET_VISITS = 100;
    private static final int TARGET_STEP = 20;
    private static final int LAST_TARGET_TRIED = 400;
    /** What parse answers for a syntax error at position 0. */
    private static final int SYNTAX_ERROR = -10;

    private final Line line = new Line();
    /** For what-if calls and for reading texts, made once to save room; free between calls. */
    private final Line trial = new Line();
    private final History history = new History();
    private final byte[] text = new byte[MOST_BYTES];
    private int textLength;

    /** Creates a line without stations, at time 0. */
    public TokenBus() {
    }

    // ---- stations and line

    /** Adds a station; returns the number of stations. */
    public int addStation(int address) throws IllegalArgumentException, IllegalStateException {
        if (!isAddress(address)) {
            throw new IllegalArgumentException("the address is out of range");
        }
        if (line.stationWith(address) != null || line.isFull()) {
            throw new IllegalStateException("the address has a station, or there are 8 stations");
        }
        history.save(line);
        line.placeStation(address);
        return line.stationCount;
    }

    /** Switches a station on or off; returns whether it was on. */
    public boolean setOn(int address, boolean on) throws NoSuchElementException {
        Station found = line.stationWith(address);
        if (found == null) {
            throw new NoSuchElementException("the address has no station");
        }
        boolean wasOn = found.on;
        history.save(line);
        line.switchStation(found, on);
        return wasOn;
    }

    /** Sets the times of the line; returns the previous target rotation time. */
    public int setTimes(int target, int slot, int gap) throws IllegalArgumentException {
        if (!isWithin(target, 1, 500) || !isWithin(slot, 1, 20) || !isWithin(gap, 1, 20)) {
            throw new IllegalArgumentException("a time is out of range");
        }
        int previous = line.target;
        history.save(line);
        line.target = target;
        line.slot = slot;
        line.gapCount = gap;
        return previous;
    }

    /** Gives a message to a station; returns the number of the message. */
    public int give(int address, int length, int urgency)
            throws NoSuchElementException, IllegalArgumentException, IllegalStateException {
        Station found = line.stationWith(address);
        if (found == null) {
            throw new NoSuchElementException("the address has no station");
        }
        if (!isWithin(length, 1, LONGEST_MESSAGE) || !isWithin(urgency, 0, HIGHEST_URGENCY)) {
            throw new IllegalArgumentException("the length or the urgency is out of range");
        }
        if (line.messages.isFull()) {
            throw new IllegalStateException("100 messages have been given");
        }
        history.save(line);
        return line.messages.add(found, length, urgency, line.time);
    }

    /** Adds a noise; returns the number of noises. */
    public int addNoise(int first, int last) throws IllegalArgumentException, IllegalStateException {
        if (!isWithin(last, 0, LAST_TICK) || !isWithin(first, 0, last)) {
            throw new IllegalArgumentException("the first or the last tick is out of range");
        }
        if (line.noises.isFull()) {
            throw new IllegalStateException("there are 20 noises");
        }
        history.save(line);
        line.noises.add(first, last);
        return line.noises.number;
    }

    /** Makes visits; returns the present time. */
    public int run(int visits) throws IllegalArgumentException, IllegalStateException {
        if (!isWithin(visits, 0, MOST_RUN)) {
            throw new IllegalArgumentException("the number of visits is out of range");
        }
        if (line.isTooLate()) {
            throw new IllegalStateException("the present time is above 900000");
        }
        history.save(line);
        for (int made = 0; made < visits; made++) {
            Token.makeVisit(line);
        }
        return line.time;
    }

    /** Loses the token; returns the address of the holder, NONE if there was none. */
    public int loseToken() {
        int lost = line.holder;
        history.save(line);
        line.holder = NONE;
        return lost;
    }

    // ---- values

    /** Returns a setting or a count. */
    public int setting(int what) throws IllegalArgumentException {
        if (!isWithin(what, 0, Line.LAST_SETTING)) {
            throw new IllegalArgumentException("there is no such setting");
        }
        return line.settingValue(what);
    }

    /** Returns something about a station. */
    public int station(int address, int what) throws NoSuchElementException, IllegalArgumentException {
        Station found = line.stationWith(address);
        if (found == null) {
            throw new NoSuchElementException("the address has no station");
        }
        if (!isWithin(what, 0, Station.LAST_VALUE)) {
            throw new IllegalArgumentException("there is no such value of a station");
        }
        return found.value(what);
    }

    /** Returns the address of a station by its place among all addresses in ascending order. */
    public int addressAt(int place) throws IndexOutOfBoundsException {
        Station found = line.stationIn(place);
        if (found == null) {
            throw new IndexOutOfBoundsException("there is no such place");
        }
        return found.address;
    }

    /** Returns the number of a message of a queue. */
    public int queued(int address, int place) throws NoSuchElementException, IndexOutOfBoundsException {
        Station found = line.stationWith(address);
        if (found == null) {
            throw new NoSuchElementException("the address has no station");
        }
        if (!isWithin(place, 0, found.waiting - 1)) {
            throw new IndexOutOfBoundsException("the queue has no such place");
        }
        return line.messages.inQueue(found, place);
    }

    /** Returns something about a message. */
    public int message(int message, int what) throws IndexOutOfBoundsException, IllegalArgumentException {
        if (!line.messages.has(message)) {
            throw new IndexOutOfBoundsException("there is no such message");
        }
        if (!isWithin(what, 0, Messages.WAIT)) {
            throw new IllegalArgumentException("there is no such value of a message");
        }
        return line.messages.value(message, what);
    }

    /** Counts since the beginning. */
    public int count(int what) throws IllegalArgumentException {
        if (!isWithin(what, 0, Counts.LAST_VALUE)) {
            throw new IllegalArgumentException("there is no such count");
        }
        return line.counts.value(what);
    }

    /** Tells whether a tick is in a noise. */
    public boolean isNoisy(int tick) throws IllegalArgumentException {
        if (!isWithin(tick, 0, LAST_TICK)) {
            throw new IllegalArgumentException("the tick is out of range");
        }
        return line.noises.touch(tick, tick);
    }

    // ---- log

    /** Returns the number of visits in the log. */
    public int logged() {
        return line.logLength();
    }

    /** Returns something about a visit in the log. */
    public int visit(int index, int what) throws IndexOutOfBoundsException, IllegalArgumentException {
        if (!isWithin(index, 0, line.logLength() - 1)) {
            throw new IndexOutOfBoundsException("there is no such visit");
        }
        if (!isWithin(what, 0, Line.LOG_WIDTH - 1)) {
            throw new IllegalArgumentException("there is no such value of a visit");
        }
        return line.logValue(index, what);
    }

    /** Returns the greatest rotation of all visits since the beginning. */
    public int greatestRotation() {
        return line.counts.greatestTurn;
    }

    /** Returns the greatest or the mean wait of the messages sent, 0.0 if none has been sent. */
    public double waits(boolean greatest) {
        Counts counts = line.counts;
        if (counts.sent == 0) {
            return 0.0;
        }
        return greatest ? (double) counts.greatestWait : (double) counts.sumOfWaits / (double) counts.sent;
    }

    /** Returns the use of the line, 0.0 at time 0. */
    public double use() {
        return line.time == 0 ? 0.0 : (double) line.counts.sentTicks / (double) line.time;
    }

    // ---- what if

    /** Tells how long a message would wait; NONE if it would not be sent within 300 visits. */
    public int waitOf(int message) throws IndexOutOfBoundsException, IllegalStateException {
        if (!line.messages.has(message)) {
            throw new IndexOutOfBoundsException("there is no such message");
        }
        if (line.messages.value(message, Messages.WAIT) != NONE || line.isTooLate()) {
            throw new IllegalStateException("it has been sent, or the present time is above 900000");
        }
        trial.copyFrom(line);
        int wait = NONE;
        for (int made = 0; made < MOST_TRIED && wait == NONE; made++) {
            Token.makeVisit(trial);
            wait = trial.messages.value(message, Messages.WAIT);
        }
        return wait;
    }

    /** Tells after how many visits all stations that are on would be in the ring; NONE if not within 300. */
    public int completeAfter() throws IllegalStateException {
        if (line.isTooLate()) {
            throw new IllegalStateException("the present time is above 900000");
        }
        trial.copyFrom(line);
        for (int made = 0; made < MOST_TRIED; made++) {
            if (trial.isComplete()) {
                return made;
            }
            Token.makeVisit(trial);
        }
        return trial.isComplete() ? MOST_TRIED : NONE;
    }

    /** Finds the smallest target of 20, 40, .., 400 with which all that waits is sent in time; or NONE. */
    public int leastTarget(int visits) throws IllegalArgumentException, IllegalStateException {
        if (!isWithin(visits, 0, MOST_TARGET_VISITS)) {
            throw new IllegalArgumentException("the number of visits is out of range");
        }
        if (line.isTooLate()) {
            throw new IllegalStateException("the present time is above 900000");
        }
        for (int target = TARGET_STEP; target <= LAST_TARGET_TRIED; target += TARGET_STEP) {
            if (sendsAll(target, visits)) {
                return target;
            }
        }
        return NONE;
    }

    // ---- text

    /** Appends a byte to the station text; returns its new length. */
    public int append(int value) throws IllegalArgumentException, IllegalStateException {
        if (!isWithin(value, 0, 127)) {
            throw new IllegalArgumentException("the byte is out of range");
        }
        if (!isWithin(textLength, 0, text.length - 1)) {
            throw new IllegalStateException("the text has 120 bytes");
        }
        text[textLength] = (byte) value;
        textLength++;
        return textLength;
    }

    /** Empties the station text; returns the length that it had. */
    public int clearText() {
        int length = textLength;
        textLength = 0;
        return length;
    }

    /** Makes the line one of the text; returns the number of items, or -10 minus the error position. */
    public int parse() {
        trial.clear();
        trial.takeTimes(line);
        Reader reader = new Reader(text, textLength, trial);
        int items = reader.readItems();
        if (items == NONE) {
            return SYNTAX_ERROR - reader.errorPosition;
        }
        history.save(line);
        line.copyFrom(trial);
        return items;
    }

    // ---- state

    /** Restores the most recently saved state; returns the number of saved states that remain. */
    public int undo() throws IllegalStateException {
        if (history.held == 0) {
            throw new IllegalStateException("there is no saved state");
        }
        history.restore(line);
        return history.held;
    }

    /** Returns a hash of the state. */
    public long digest() {
        long hash = mixed(3169L, textLength);
        hash = line.hashed(hash);
        return mixed(hash, history.held);
    }

    // ---- helpers

    private static boolean isWithin(int value, int least, int most) {
        return value >= least && value <= most;
    }

    private static boolean isAddress(int address) {
        return isWithin(address, 0, LAST_ADDRESS);
    }

    /** The address that follows another one, 0 after the last one. */
    private static int addressBehind(int address) {
        return (address + 1) & LAST_ADDRESS;
    }

    private static long mixed(long hash, long value) {
        return 31L * hash + value;
    }

    /** Tells whether nothing would wait at stations that are on after some visits with a target. */
    private boolean sendsAll(int target, int visits) {
        trial.copyFrom(line);
        trial.target = target;
        for (int made = 0; made < visits && trial.isWaitedAt(); made++) {
            Token.makeVisit(trial);
        }
        return !trial.isWaitedAt();
    }

    /** Rows of numbers of one width; a place outside it reads as NONE and is not written. */
    private static final class Table {
        private final int width;
        private final int[] cells;

        Table(int rows, int width) {
            this.width = width;
            this.cells = new int[Math.max(0, rows * width)];
        }

        int at(int row, int column) {
            int place = row * width + column;
            return place >= 0 && place < cells.length ? cells[place] : NONE;
        }

        void put(int row, int column, int value) {
            int place = row * width + column;
            if (place >= 0 && place < cells.length) {
                cells[place] = value;
            }
        }

        /** Copies the first rows, as many as are in use. */
        void copyFrom(Table other, int rows) {
            int most = Math.min(cells.length, other.cells.length);
            int length = Math.max(0, Math.min(most, rows * width));
            System.arraycopy(other.cells, 0, cells, 0, length);
        }
    }

    /** A station; its queue is a chain of messages that starts with the first one. */
    private static final class Station {
        static final int LAST_VALUE = 6;

        int address;
        boolean on;
        boolean inRing;
        int next;
        int gap;
        int first;
        int waiting;
        int visits;
        int latest;

        void reset(int newAddress) {
            address = newAddress;
            on = true;
            inRing = false;
            next = newAddress;
            gap = newAddress;
            first = NONE;
            waiting = 0;
            visits = 0;
            latest = NONE;
        }

        void copyFrom(Station other) {
            address = other.address;
            on = other.on;
            inRing = other.inRing;
            next = other.next;
            gap = other.gap;
            first = other.first;
            waiting = other.waiting;
            visits = other.visits;
            latest = other.latest;
        }

        int value(int what) {
            switch (what) {
                case 0:
                    return on ? 1 : 0;
                case 1:
                    return inRing ? 1 : 0;
                case 2:
                    return next;
                case 3:
                    return gap;
                case 4:
                    return waiting;
                case 5:
                    return visits;
                default:
                    return latest;
            }
        }
    }

    /** All messages that have been given, and the chains that the waiting ones stand in. */
    private static final class Messages {
        static final int LENGTH = 0;
        static final int URGENCY = 1;
        static final int OWNER = 2;
        static final int GIVEN = 3;
        static final int WAIT = 4;
        private static final int FOLLOWER = 5;
        private static final int WIDTH = 6;
        private static final int LEAST_URGENT = 5;

        private final Table table = new Table(MOST_MESSAGES, WIDTH);
        private int number;

        int number() {
            return number;
        }

        boolean isFull() {
            return number >= MOST_MESSAGES;
        }

        boolean has(int message) {
            return message >= 0 && message < number;
        }

        int value(int message, int what) {
            return table.at(message, what);
        }

        /** The next message of the same queue; NONE behind the last one. */
        int follower(int message) {
            return table.at(message, FOLLOWER);
        }

        boolean isUrgent(int message) {
            return has(message) && table.at(message, URGENCY) >= LEAST_URGENT;
        }

        void clear() {
            number = 0;
        }

        void copyFrom(Messages other) {
            number = other.number;
            table.copyFrom(other.table, other.number);
        }

        /** Puts a new message into the queue of a station; returns its number. */
        int add(Station station, int length, int urgency, int time) {
            int added = number;
            number++;
            table.put(added, LENGTH, length);
            table.put(added, URGENCY, urgency);
            table.put(added, OWNER, station.address);
            table.put(added, GIVEN, time);
            table.put(added, WAIT, NONE);
            enqueue(station, added, urgency);
            return added;
        }

        private void enqueue(Station station, int added, int urgency) {
            int before = NONE;
            int follower = station.first;
            for (int passed = 0; passed < station.waiting; passed++) {
                if (table.at(follower, URGENCY) < urgency) {
                    break;
                }
                before = follower;
                follower = table.at(follower, FOLLOWER);
            }
            table.put(added, FOLLOWER, follower);
            if (before == NONE) {
                station.first = added;
            } else {
                table.put(before, FOLLOWER, added);
            }
            station.waiting++;
        }

        int inQueue(Station station, int place) {
            int found = station.first;
            for (int passed = 0; passed < place; passed++) {
                found = follower(found);
            }
            return found;
        }

        /** Takes the first message out of a queue after its sending; returns its wait. */
        int takeFirst(Station station, int begin) {
            int sent = station.first;
            int wait = begin - table.at(sent, GIVEN);
            table.put(sent, WAIT, wait);
            station.first = table.at(sent, FOLLOWER);
            station.waiting--;
            return wait;
        }
    }

    /** The stretches of ticks in which what is sent is spoilt. */
    private static final class Noises {
        private final int[] firsts = new int[MOST_NOISES];
        private final int[] lasts = new int[MOST_NOISES];
        int number;

        boolean isFull() {
            return number >= MOST_NOISES;
        }

        void clear() {
            number = 0;
        }

        void copyFrom(Noises other) {
            number = other.number;
            for (int noise = 0; noise < number && noise < MOST_NOISES; noise++) {
                firsts[noise] = other.firsts[noise];
                lasts[noise] = other.lasts[noise];
            }
        }

        void add(int first, int last) {
            if (number >= 0 && number < MOST_NOISES) {
                firsts[number] = first;
                lasts[number] = last;
                number++;
            }
        }

        /** Tells whether some noise has a tick of a stretch. */
        boolean touch(int first, int last) {
            for (int noise = 0; noise < number && noise < MOST_NOISES; noise++) {
                if (firsts[noise] <= last && lasts[noise] >= first) {
                    return true;
                }
            }
            return false;
        }
    }

    /** What is counted since the beginning. */
    private static final class Counts {
        static final int LAST_VALUE = 6;

        int visits;
        int sent;
        int spoilt;
        int lost;
        int polledIn;
        int silenced;
        int sentTicks;
        int greatestTurn;
        int greatestWait;
        long sumOfWaits;

        void clear() {
            visits = 0;
            sent = 0;
            spoilt = 0;
            lost = 0;
            polledIn = 0;
            silenced = 0;
            sentTicks = 0;
            greatestTurn = 0;
            greatestWait = 0;
            sumOfWaits = 0L;
        }

        void copyFrom(Counts other) {
            visits = other.visits;
            sent = other.sent;
            spoilt = other.spoilt;
            lost = other.lost;
            polledIn = other.polledIn;
            silenced = other.silenced;
            sentTicks = other.sentTicks;
            greatestTurn = other.greatestTurn;
            greatestWait = other.greatestWait;
            sumOfWaits = other.sumOfWaits;
        }

        void addSent(int length, int wait) {
            sent++;
            sentTicks += length;
            sumOfWaits += wait;
            greatestWait = Math.max(greatestWait, wait);
        }

        int value(int what) {
            switch (what) {
                case 0:
                    return visits;
                case 1:
                    return sent;
                case 2:
                    return spoilt;
                case 3:
                    return lost;
                case 4:
                    return polledIn;
                case 5:
                    return silenced;
                default:
                    return sentTicks;
            }
        }
    }

    /** The line and all that is on it: everything that undo brings back. */
    private static final class Line {
        static final int LAST_SETTING = 8;
        static final int LOG_WIDTH = 4;

        /** The first ones, as many as there are, in ascending order of their addresses; then spare ones. */
        private final Station[] stations = new Station[MOST_STATIONS];
        final Messages messages = new Messages();
        final Noises noises = new Noises();
        final Counts counts = new Counts();
        /** A visit stands in the row of its number modulo 40, so that the latest ones stay. */
        private final Table log = new Table(MOST_LOGGED, LOG_WIDTH);
        int stationCount;
        int target = 60;
        int slot = 4;
        int gapCount = 3;
        int time;
        int holder = NONE;

        Line() {
            for (int place = 0; place < stations.length; place++) {
                stations[place] = new Station();
            }
        }

        /** Takes everything off the line; the times T, S and G stay. */
        void clear() {
            stationCount = 0;
            messages.clear();
            noises.clear();
            counts.clear();
            time = 0;
            holder = NONE;
        }

        void takeTimes(Line other) {
            target = other.target;
            slot = other.slot;
            gapCount = other.gapCount;
        }

        void copyFrom(Line other) {
            takeTimes(other);
            time = other.time;
            holder = other.holder;
            messages.copyFrom(other.messages);
            noises.copyFrom(other.noises);
            counts.copyFrom(other.counts);
            log.copyFrom(other.log, other.logLength());
            copyStations(other);
        }

        private void copyStations(Line other) {
            stationCount = other.stationCount;
            for (int place = 0; place < stationCount; place++) {
                Station from = other.stationIn(place);
                Station to = stationIn(place);
                if (from != null && to != null) {
                    to.copyFrom(from);
                }
            }
        }

        boolean isFull() {
            return stationCount >= MOST_STATIONS;
        }

        boolean isTooLate() {
            return time > LAST_START;
        }

        /** The station at a place among all stations; null if there is none. */
        Station stationIn(int place) {
            return place >= 0 && place < stationCount && place < stations.length ? stations[place] : null;
        }

        /** The station with an address; null if there is none. */
        Station stationWith(int address) {
            for (int place = 0; place < stationCount && place < stations.length; place++) {
                Station station = stations[place];
                if (station != null && station.address == address) {
                    return station;
                }
            }
            return null;
        }

        /** Adds a station, if there is a spare one; returns it, otherwise null. */
        Station placeStation(int address) {
            int place = stationCount;
            if (place < 0 || place >= stations.length) {
                return null;
            }
            Station added = stations[place];
            if (added == null) {
                return null;
            }
            added.reset(address);
            for (; place > 0 && place < stations.length; place--) {
                Station before = stations[place - 1];
                if (before == null || before.address < address) {
                    break;
                }
                stations[place] = before;
                stations[place - 1] = added;
            }
            stationCount++;
            return added;
        }

        void switchStation(Station station, boolean on) {
            station.on = on;
            if (on) {
                return;
            }
            station.inRing = false;
            if (holder == station.address) {
                holder = NONE;
            }
        }

        int ringSize() {
            int size = 0;
            for (int place = 0; place < stationCount; place++) {
                Station station = stationIn(place);
                if (station != null && station.inRing) {
                    size++;
                }
            }
            return size;
        }

        /** Tells whether all stations that are on are in the ring. */
        boolean isComplete() {
            for (int place = 0; place < stationCount; place++) {
                Station station = stationIn(place);
                if (station != null && station.on && !station.inRing) {
                    return false;
                }
            }
            return true;
        }

        /** Tells whether a message waits at a station that is on. */
        boolean isWaitedAt() {
            for (int place = 0; place < stationCount; place++) {
                Station station = stationIn(place);
                if (station != null && station.on && station.waiting > 0) {
                    return true;
                }
            }
            return false;
        }

        /** Lets a transmission pass; tells whether it has come through unspoilt. */
        boolean transmit(int ticks) {
            boolean spoilt = noises.touch(time, time + ticks - 1);
            time += ticks;
            if (spoilt) {
                counts.spoilt++;
            }
            return !spoilt;
        }

        /** Logs a visit, the latest one that is counted. */
        void logVisit(int begin, int address, int rotation, int sent) {
            int row = (counts.visits - 1) % MOST_LOGGED;
            log.put(row, 0, begin);
            log.put(row, 1, address);
            log.put(row, 2, rotation);
            log.put(row, 3, sent);
        }

        int logLength() {
            return Math.min(counts.visits, MOST_LOGGED);
        }

        int logValue(int index, int what) {
            int oldest = counts.visits - logLength();
            return log.at((oldest + index) % MOST_LOGGED, what);
        }

        int settingValue(int what) {
            switch (what) {
                case 0:
                    return target;
                case 1:
                    return slot;
                case 2:
                    return gapCount;
                case 3:
                    return stationCount;
                case 4:
                    return ringSize();
                case 5:
                    return noises.number;
                case 6:
                    return time;
                case 7:
                    return holder;
                default:
                    return messages.number();
            }
        }

        long hashed(long start) {
            long hash = start;
            for (int what = 0; what <= LAST_SETTING; what++) {
                hash = mixed(hash, settingValue(what));
            }
            for (int place = 0; place < stationCount; place++) {
                hash = withStation(hash, stationIn(place));
            }
            for (int message = 0; message < messages.number(); message++) {
                for (int what = 0; what <= Messages.WAIT; what++) {
                    hash = mixed(hash, messages.value(message, what));
                }
            }
            for (int what = 0; what <= Counts.LAST_VALUE; what++) {
                hash = mixed(hash, counts.value(what));
            }
            hash = mixed(hash, counts.greatestTurn);
            return withLog(hash);
        }

        private long withStation(long start, Station station) {
            if (station == null) {
                return start;
            }
            long hash = mixed(start, station.address);
            for (int what = 0; what <= Station.LAST_VALUE; what++) {
                hash = mixed(hash, station.value(what));
            }
            int message = station.first;
            for (int place = 0; place < station.waiting; place++) {
                hash = mixed(hash, message);
                message = messages.follower(message);
            }
            return hash;
        }

        private long withLog(long start) {
            int length = logLength();
            long hash = mixed(start, length);
            for (int index = 0; index < length; index++) {
                for (int what = 0; what < LOG_WIDTH; what++) {
                    hash = mixed(hash, logValue(index, what));
                }
            }
            return hash;
        }
    }

    /** The course of a visit of the token. */
    private static final class Token {
        private static final int PASSING_TRIES = 3;

        private Token() {
        }

        /** Makes a visit; nothing happens if there is no holder and no station is on. */
        static void makeVisit(Line line) {
            Station holder = line.stationWith(line.holder);
            if (holder == null) {
                holder = makeAnew(line);
            }
            if (holder == null) {
                return;
            }
            int begin = line.time;
            int rotation = beginVisit(line, holder);
            int sent = sendMessages(line, holder, line.target - rotation);
            pollGap(line, holder);
            if (!passToNext(line, holder)) {
                dropSilent(line, holder);
                askOthers(line, holder);
            }
            line.logVisit(begin, holder.address, rotation, sent);
        }

        /** Makes a lost token anew; returns its holder, null if no station is on. */
        private static Station makeAnew(Line line) {
            Station chosen = lowest(line, true);
            if (chosen == null) {
                chosen = lowest(line, false);
            }
            if (chosen == null) {
                return null;
            }
            line.time += line.slot * (6 + 2 * chosen.address);
            if (!chosen.inRing) {
                chosen.inRing = true;
                chosen.next = chosen.address;
            }
            line.holder = chosen.address;
            line.counts.lost++;
            return chosen;
        }

        /** The station with the lowest address of those that are on, or on and in the ring. */
        private static Station lowest(Line line, boolean inRing) {
            for (int place = 0; place < line.stationCount; place++) {
                Station station = line.stationIn(place);
                if (station != null && station.on && (station.inRing || !inRing)) {
                    return station;
                }
            }
            return null;
        }

        /** Counts the visit; returns the rotation of the holder. */
        private static int beginVisit(Line line, Station holder) {
            int rotation = holder.latest == NONE ? 0 : line.time - holder.latest;
            holder.latest = line.time;
            holder.visits++;
            line.counts.visits++;
            line.counts.greatestTurn = Math.max(line.counts.greatestTurn, rotation);
            return rotation;
        }

        /** Sends messages as the allowance lets it; returns how many came through. */
        private static int sendMessages(Line line, Station holder, int allowance) {
            int begin = line.time;
            int sent = 0;
            boolean goesAnyway = line.messages.isUrgent(holder.first);
            while (sent < MOST_MESSAGES && holder.waiting > 0) {
                if (!goesAnyway && line.time - begin >= allowance) {
                    break;
                }
                if (!sendFirst(line, holder)) {
                    break;
                }
                goesAnyway = false;
                sent++;
            }
            return sent;
        }

        private static boolean sendFirst(Line line, Station holder) {
            int length = line.messages.value(holder.first, Messages.LENGTH);
            int begin = line.time;
            if (!line.transmit(length)) {
                return false;
            }
            line.counts.addSent(length, line.messages.takeFirst(holder, begin));
            return true;
        }

        /** Polls an address of the gap, if it is the turn for it and there is a gap. */
        private static void pollGap(Line line, Station holder) {
            if (line.gapCount < 1 || holder.visits % line.gapCount != 0) {
                return;
            }
            // A holder that is its own next one gets 31 here: all other addresses.
            int between = (holder.next - holder.address - 1) & LAST_ADDRESS;
            if (between == 0) {
                return;
            }
            int distance = (addressBehind(holder.gap) - holder.address) & LAST_ADDRESS;
            boolean inGap = distance >= 1 && distance <= between;
            holder.gap = inGap ? addressBehind(holder.gap) : addressBehind(holder.address);
            if (!comesIn(line, holder)) {
                line.time += line.slot;
            }
        }

        /** Polls the address of the gap pointer; tells whether a station has come into the ring. */
        private static boolean comesIn(Line line, Station holder) {
            Station polled = line.transmit(1) ? line.stationWith(holder.gap) : null;
            if (polled == null || !polled.on || polled.inRing) {
                return false;
            }
            if (!line.transmit(1)) {
                return false;
            }
            polled.inRing = true;
            polled.next = holder.next;
            polled.gap = polled.address;
            holder.next = polled.address;
            line.counts.polledIn++;
            return true;
        }

        /** Tries to pass the token to the next address; tells whether it has been taken. */
        private static boolean passToNext(Line line, Station holder) {
            for (int tries = 0; tries < PASSING_TRIES; tries++) {
                if (reaches(line, holder.next)) {
                    line.holder = holder.next;
                    return true;
                }
            }
            return false;
        }

        /** Sends a token or a question; tells whether a station of the ring has taken it. */
        private static boolean reaches(Line line, int address) {
            Station asked = line.transmit(1) ? line.stationWith(address) : null;
            if (asked != null && asked.on && asked.inRing) {
                return true;
            }
            line.time += line.slot;
            return false;
        }

        private static void dropSilent(Line line, Station holder) {
            Station silent = line.stationWith(holder.next);
            if (silent != null && silent != holder && silent.inRing) {
                silent.inRing = false;
                line.counts.silenced++;
            }
        }

        /** Looks for another next address behind the silent one; the holder's own one at last. */
        private static void askOthers(Line line, Station holder) {
            int asked = addressBehind(holder.next);
            for (int steps = 0; steps <= LAST_ADDRESS && asked != holder.address; steps++) {
                if (reaches(line, asked)) {
                    holder.next = asked;
                    line.holder = asked;
                    return;
                }
                asked = addressBehind(asked);
            }
            holder.next = holder.address;
        }
    }

    /** Reads a station text onto an empty line. */
    private static final class Reader {
        private final byte[] bytes;
        private final int length;
        private final Line line;
        private int place;
        private Station told;
        int errorPosition = NONE;

        Reader(byte[] bytes, int length, Line line) {
            this.bytes = bytes;
            this.length = length;
            this.line = line;
        }

        /** Returns the number of items, NONE if there is a syntax error. */
        int readItems() {
            int items = 0;
            while (items < length && place < length) {
                if (!readItem()) {
                    return NONE;
                }
                items++;
            }
            return items;
        }

        private boolean readItem() {
            int kind = sign();
            if (kind == 's' && !line.isFull()) {
                place++;
                return readStation();
            }
            if (kind == 'm' && told != null) {
                place++;
                return readMessage();
            }
            return failsAt(place);
        }

        private boolean readStation() {
            int begin = place;
            int address = readNumber();
            if (address == NONE) {
                return false;
            }
            if (!isAddress(address) || line.stationWith(address) != null) {
                return failsAt(begin);
            }
            if (!skips(';')) {
                return false;
            }
            told = line.placeStation(address);
            return true;
        }

        private boolean readMessage() {
            int begin = place;
            int ticks = readNumber();
            if (ticks == NONE) {
                return false;
            }
            if (!isWithin(ticks, 1, LONGEST_MESSAGE)) {
                return failsAt(begin);
            }
            if (!skips(',')) {
                return false;
            }
            int urgency = digit();
            if (urgency == NONE) {
                return failsAt(place);
            }
            place++;
            if (!skips(';') || told == null) {
                return false;
            }
            line.messages.add(told, ticks, urgency, line.time);
            return true;
        }

        /** Reads one or two digits; returns NONE if there is none or a third one. */
        private int readNumber() {
            int value = digit();
            if (value == NONE) {
                failsAt(place);
                return NONE;
            }
            place++;
            int second = digit();
            if (second == NONE) {
                return value;
            }
            place++;
            if (digit() != NONE) {
                failsAt(place);
                return NONE;
            }
            return 10 * value + second;
        }

        private boolean skips(int wanted) {
            if (sign() != wanted) {
                return failsAt(place);
            }
            place++;
            return true;
        }

        /** The byte at the present place; NONE at the end. */
        private int sign() {
            return place >= 0 && place < length && place < bytes.length ? bytes[place] : NONE;
        }

        /** The value of the digit at the present place; NONE if there is none. */
        private int digit() {
            int found = sign();
            return found >= '0' && found <= '9' ? found - '0' : NONE;
        }

        private boolean failsAt(int position) {
            errorPosition = position;
            return false;
        }
    }

    /** The saved states, the oldest first. */
    private static final class History {
        private final Line[] states = new Line[MOST_SAVED];
        int held;

        History() {
            for (int place = 0; place < states.length; place++) {
                states[place] = new Line();
            }
        }

        void save(Line line) {
            if (held >= states.length) {
                dropOldest();
            }
            Line kept = stateAt(held);
            if (kept != null) {
                kept.copyFrom(line);
                held++;
            }
        }

        /** Makes the place of the oldest state free, behind the others. */
        private void dropOldest() {
            Line oldest = stateAt(0);
            int last = 0;
            while (last + 1 < states.length) {
                states[last] = states[last + 1];
                last++;
            }
            if (last < states.length) {
                states[last] = oldest;
                held = last;
            }
        }

        void restore(Line line) {
            Line kept = stateAt(held - 1);
            if (kept != null) {
                line.copyFrom(kept);
                held--;
            }
        }

        private Line stateAt(int place) {
            return place >= 0 && place < states.length ? states[place] : null;
        }
    }
}
