import java.util.ArrayDeque;
import java.util.ArrayList;
import java.util.BitSet;
import java.util.Comparator;
import java.util.Deque;
import java.util.List;
import java.util.NoSuchElementException;
import java.util.TreeMap;

/**
 * The document once more, written as slowly and as near to its words as possible, to compare
 * TokenBus with: queues are looked for anew each time, noises are sets of ticks, the states that
 * undo needs are whole copies.
 */
final class Model {
    static final int NONE = -1;

    static final class Station {
        int address;
        boolean on = true;
        boolean inRing;
        int next;
        int gap;
        int visits;
        int latest = NONE;
    }

    static final class Message {
        int number;
        int length;
        int urgency;
        int address;
        int given;
        int wait = NONE;
    }

    static final class State {
        int target = 60;
        int slot = 4;
        int gapCount = 3;
        int time;
        Station holder;
        TreeMap<Integer, Station> stations = new TreeMap<>();
        List<Message> messages = new ArrayList<>();
        List<int[]> noises = new ArrayList<>();
        BitSet noisy = new BitSet();
        List<int[]> log = new ArrayList<>();
        int[] counts = new int[7];
        int greatestRotation;

        State copy() {
            State c = new State();
            c.target = target;
            c.slot = slot;
            c.gapCount = gapCount;
            c.time = time;
            for (Station s : stations.values()) {
                Station t = new Station();
                t.address = s.address;
                t.on = s.on;
                t.inRing = s.inRing;
                t.next = s.next;
                t.gap = s.gap;
                t.visits = s.visits;
                t.latest = s.latest;
                c.stations.put(t.address, t);
            }
            c.holder = holder == null ? null : c.stations.get(holder.address);
            for (Message m : messages) {
                Message n = new Message();
                n.number = m.number;
                n.length = m.length;
                n.urgency = m.urgency;
                n.address = m.address;
                n.given = m.given;
                n.wait = m.wait;
                c.messages.add(n);
            }
            c.noises = new ArrayList<>(noises);
            c.noisy = (BitSet) noisy.clone();
            c.log = new ArrayList<>(log);
            c.counts = counts.clone();
            c.greatestRotation = greatestRotation;
            return c;
        }

        Station add(int address) {
            Station s = new Station();
            s.address = address;
            s.next = address;
            s.gap = address;
            stations.put(address, s);
            return s;
        }

        Message give(int address, int length, int urgency) {
            Message m = new Message();
            m.number = messages.size();
            m.length = length;
            m.urgency = urgency;
            m.address = address;
            m.given = time;
            messages.add(m);
            return m;
        }

        List<Message> queue(Station s) {
            List<Message> q = new ArrayList<>();
            for (Message m : messages) {
                if (m.address == s.address && m.wait == NONE) {
                    q.add(m);
                }
            }
            q.sort(Comparator.comparingInt((Message m) -> -m.urgency).thenComparingInt(m -> m.number));
            return q;
        }

        /** Takes ticks, true if none of them was noisy. */
        boolean send(int ticks) {
            boolean spoilt = false;
            for (int t = time; t <= time + ticks - 1; t++) {
                spoilt |= noisy.get(t);
            }
            time += ticks;
            if (spoilt) {
                counts[2]++;
            }
            return !spoilt;
        }

        boolean isInRing(int address) {
            Station s = stations.get(address);
            return s != null && s.on && s.inRing;
        }

        void visit() {
            // 1. the token is made anew
            if (holder == null) {
                Station h = null;
                for (Station s : stations.descendingMap().values()) {
                    if (s.on) {
                        h = s;
                    }
                }
                if (h == null) {
                    return;
                }
                for (Station s : stations.descendingMap().values()) {
                    if (s.on && s.inRing) {
                        h = s;
                    }
                }
                for (Station s : stations.values()) {
                    if (s.on && s.inRing && !h.inRing) {
                        throw new AssertionError("a station of the ring goes first");
                    }
                }
                time += slot * (6 + 2 * h.address);
                if (!h.inRing) {
                    h.inRing = true;
                    h.next = h.address;
                }
                holder = h;
                counts[3]++;
            }
            // 2. rotation
            Station me = holder;
            int t0 = time;
            int rotation = me.latest == NONE ? 0 : t0 - me.latest;
            me.latest = t0;
            int allowance = target - rotation;
            me.visits++;
            counts[0]++;
            greatestRotation = Math.max(greatestRotation, rotation);
            // 3. messages
            int sent = 0;
            boolean more = true;
            List<Message> q = queue(me);
            if (!q.isEmpty() && q.get(0).urgency >= 5) {
                more = sendMessage(q.get(0));
                sent += more ? 1 : 0;
            }
            while (more && !queue(me).isEmpty() && time - t0 < allowance) {
                more = sendMessage(queue(me).get(0));
                sent += more ? 1 : 0;
            }
            // 4. gap
            List<Integer> gap = gapOf(me);
            if (me.visits % gapCount == 0 && !gap.isEmpty()) {
                int moved = (me.gap + 1) % 32;
                me.gap = gap.contains(moved) ? moved : gap.get(0);
                if (!poll(me)) {
                    time += slot;
                }
            }
            // 5. passing
            pass(me);
            log.add(new int[] {t0, me.address, rotation, sent});
            if (log.size() > 40) {
                log.remove(0);
            }
        }

        boolean sendMessage(Message m) {
            int begin = time;
            if (!send(m.length)) {
                return false;
            }
            m.wait = begin - m.given;
            counts[1]++;
            counts[6] += m.length;
            return true;
        }

        /** The addresses behind an address, itself the last one. */
        static List<Integer> behind(int address) {
            List<Integer> all = new ArrayList<>();
            for (int a = address + 1; a <= 31; a++) {
                all.add(a);
            }
            for (int a = 0; a <= address; a++) {
                all.add(a);
            }
            return all;
        }

        static List<Integer> gapOf(Station me) {
            List<Integer> all = behind(me.address);
            all.remove(all.size() - 1);
            if (me.next == me.address) {
                return all;
            }
            return all.subList(0, all.indexOf(me.next));
        }

        boolean poll(Station me) {
            Station s = stations.get(me.gap);
            boolean clear = send(1);
            if (clear && s != null && s.on && !s.inRing) {
                if (send(1)) {
                    s.inRing = true;
                    s.next = me.next;
                    s.gap = s.address;
                    me.next = s.address;
                    counts[4]++;
                    return true;
                }
            }
            return false;
        }

        void pass(Station me) {
            for (int i = 1; i <= 3; i++) {
                boolean clear = send(1);
                if (clear && isInRing(me.next)) {
                    holder = stations.get(me.next);
                    return;
                }
                time += slot;
            }
            Station silent = stations.get(me.next);
            if (silent != null && silent.inRing && silent.address != me.address) {
                silent.inRing = false;
                counts[5]++;
            }
            for (int a : behind(me.next)) {
                if (a == me.address) {
                    me.next = a;
                    holder = me;
                    return;
                }
                boolean clear = send(1);
                if (clear && isInRing(a)) {
                    me.next = a;
                    holder = stations.get(a);
                    return;
                }
                time += slot;
            }
            throw new AssertionError("the own address is always reached");
        }

        boolean complete() {
            return stations.values().stream().allMatch(s -> !s.on || s.inRing);
        }

        boolean allSent() {
            return messages.stream().noneMatch(m -> m.wait == NONE && stations.get(m.address).on);
        }
    }

    State now = new State();
    Deque<State> saved = new ArrayDeque<>();
    String text = "";

    private void save() {
        saved.addLast(now.copy());
        if (saved.size() > 4) {
            saved.removeFirst();
        }
    }

    private static void range(boolean fits) {
        if (!fits) {
            throw new IllegalArgumentException();
        }
    }

    private static void state(boolean fits) {
        if (!fits) {
            throw new IllegalStateException();
        }
    }

    private static void index(boolean fits) {
        if (!fits) {
            throw new IndexOutOfBoundsException();
        }
    }

    private Station known(int address) {
        Station s = now.stations.get(address);
        if (s == null) {
            throw new NoSuchElementException();
        }
        return s;
    }

    int addStation(int address) {
        range(address >= 0 && address <= 31);
        state(!now.stations.containsKey(address) && now.stations.size() < 8);
        save();
        now.add(address);
        return now.stations.size();
    }

    boolean setOn(int address, boolean on) {
        known(address);
        save();
        Station s = known(address);
        boolean was = s.on;
        if (on && !was) {
            s.on = true;
            s.inRing = false;
        }
        if (!on) {
            s.on = false;
            s.inRing = false;
            if (now.holder == s) {
                now.holder = null;
            }
        }
        return was;
    }

    int setTimes(int target, int slot, int gap) {
        range(target >= 1 && target <= 500 && slot >= 1 && slot <= 20 && gap >= 1 && gap <= 20);
        save();
        int was = now.target;
        now.target = target;
        now.slot = slot;
        now.gapCount = gap;
        return was;
    }

    int give(int address, int length, int urgency) {
        known(address);
        range(length >= 1 && length <= 20 && urgency >= 0 && urgency <= 9);
        state(now.messages.size() < 100);
        save();
        return now.give(address, length, urgency).number;
    }

    int addNoise(int first, int last) {
        range(first >= 0 && first <= last && last <= 1000000);
        state(now.noises.size() < 20);
        save();
        now.noises.add(new int[] {first, last});
        now.noisy.set(first, last + 1);
        return now.noises.size();
    }

    int run(int visits) {
        range(visits >= 0 && visits <= 200);
        state(now.time <= 900000);
        save();
        for (int i = 0; i < visits; i++) {
            now.visit();
        }
        return now.time;
    }

    int loseToken() {
        save();
        int was = now.holder == null ? NONE : now.holder.address;
        now.holder = null;
        return was;
    }

    int setting(int what) {
        range(what >= 0 && what <= 8);
        int inRing = (int) now.stations.values().stream().filter(s -> s.inRing).count();
        int holder = now.holder == null ? NONE : now.holder.address;
        return new int[] {now.target, now.slot, now.gapCount, now.stations.size(), inRing, now.noises.size(),
                now.time, holder, now.messages.size()}[what];
    }

    int station(int address, int what) {
        Station s = known(address);
        range(what >= 0 && what <= 6);
        return new int[] {s.on ? 1 : 0, s.inRing ? 1 : 0, s.next, s.gap, now.queue(s).size(), s.visits,
                s.latest}[what];
    }

    int addressAt(int place) {
        index(place >= 0 && place < now.stations.size());
        return new ArrayList<>(now.stations.keySet()).get(place);
    }

    int queued(int address, int place) {
        List<Message> q = now.queue(known(address));
        index(place >= 0 && place < q.size());
        return q.get(place).number;
    }

    int message(int message, int what) {
        index(message >= 0 && message < now.messages.size());
        range(what >= 0 && what <= 4);
        Message m = now.messages.get(message);
        return new int[] {m.length, m.urgency, m.address, m.given, m.wait}[what];
    }

    int count(int what) {
        range(what >= 0 && what <= 6);
        return now.counts[what];
    }

    boolean isNoisy(int tick) {
        range(tick >= 0 && tick <= 1000000);
        return now.noisy.get(tick);
    }

    int logged() {
        return now.log.size();
    }

    int visit(int index, int what) {
        index(index >= 0 && index < now.log.size());
        range(what >= 0 && what <= 3);
        return now.log.get(index)[what];
    }

    int greatestRotation() {
        return now.greatestRotation;
    }

    double waits(boolean greatest) {
        long sum = 0;
        int most = 0;
        int number = 0;
        for (Message m : now.messages) {
            if (m.wait != NONE) {
                sum += m.wait;
                most = Math.max(most, m.wait);
                number++;
            }
        }
        if (number == 0) {
            return 0.0;
        }
        return greatest ? (double) most : (double) sum / (double) number;
    }

    double use() {
        int ticks = 0;
        for (Message m : now.messages) {
            ticks += m.wait == NONE ? 0 : m.length;
        }
        return now.time == 0 ? 0.0 : (double) ticks / (double) now.time;
    }

    int waitOf(int message) {
        index(message >= 0 && message < now.messages.size());
        state(now.messages.get(message).wait == NONE && now.time <= 900000);
        State s = now.copy();
        for (int i = 0; i < 300; i++) {
            s.visit();
        }
        // A wait never changes again, and what is sent in the 300 visits is sent within them.
        return s.messages.get(message).wait;
    }

    int completeAfter() {
        state(now.time <= 900000);
        State s = now.copy();
        for (int i = 0; i <= 300; i++) {
            if (s.complete()) {
                return i;
            }
            s.visit();
        }
        return NONE;
    }

    int leastTarget(int visits) {
        range(visits >= 0 && visits <= 100);
        state(now.time <= 900000);
        for (int target = 20; target <= 400; target += 20) {
            State s = now.copy();
            s.target = target;
            for (int i = 0; i < visits; i++) {
                s.visit();
            }
            if (s.allSent()) {
                return target;
            }
        }
        return NONE;
    }

    int append(int value) {
        range(value >= 0 && value <= 127);
        state(text.length() < 120);
        text += (char) value;
        return text.length();
    }

    int clearText() {
        int was = text.length();
        text = "";
        return was;
    }

    int parse() {
        State made = new State();
        made.target = now.target;
        made.slot = now.slot;
        made.gapCount = now.gapCount;
        int items = 0;
        int last = NONE;
        int at = 0;
        while (at < text.length()) {
            char kind = text.charAt(at);
            boolean isStation = kind == 's' && made.stations.size() < 8;
            boolean isMessage = kind == 'm' && last != NONE;
            if (!isStation && !isMessage) {
                return -10 - at;
            }
            int first = at + 1;
            int end = first;
            while (end < text.length() && end < first + 2 && isDigit(end)) {
                end++;
            }
            if (end == first || isDigit(end)) {
                return -10 - end;
            }
            int number = Integer.parseInt(text.substring(first, end));
            boolean good = isStation ? number <= 31 && !made.stations.containsKey(number)
                    : number >= 1 && number <= 20;
            if (!good) {
                return -10 - first;
            }
            int urgency = 0;
            if (isMessage) {
                if (!is(end, ',')) {
                    return -10 - end;
                }
                end++;
                if (!isDigit(end)) {
                    return -10 - end;
                }
                urgency = text.charAt(end) - '0';
                end++;
            }
            if (!is(end, ';')) {
                return -10 - end;
            }
            if (isStation) {
                made.add(number);
                last = number;
            } else {
                made.give(last, number, urgency);
            }
            items++;
            at = end + 1;
        }
        save();
        now = made;
        return items;
    }

    private boolean isDigit(int at) {
        return at < text.length() && text.charAt(at) >= '0' && text.charAt(at) <= '9';
    }

    private boolean is(int at, char wanted) {
        return at < text.length() && text.charAt(at) == wanted;
    }

    int undo() {
        state(!saved.isEmpty());
        now = saved.removeLast();
        return saved.size();
    }

    long digest() {
        List<Long> all = new ArrayList<>();
        all.add((long) text.length());
        for (int what = 0; what <= 8; what++) {
            all.add((long) setting(what));
        }
        for (int address : now.stations.keySet()) {
            all.add((long) address);
            for (int what = 0; what <= 6; what++) {
                all.add((long) station(address, what));
            }
            for (Message m : now.queue(now.stations.get(address))) {
                all.add((long) m.number);
            }
        }
        for (int m = 0; m < now.messages.size(); m++) {
            for (int what = 0; what <= 4; what++) {
                all.add((long) message(m, what));
            }
        }
        for (int what = 0; what <= 6; what++) {
            all.add((long) count(what));
        }
        all.add((long) greatestRotation());
        all.add((long) logged());
        for (int i = 0; i < logged(); i++) {
            for (int what = 0; what <= 3; what++) {
                all.add((long) visit(i, what));
            }
        }
        all.add((long) saved.size());
        long h = 3169;
        for (long v : all) {
            h = 31 * h + v;
        }
        return h;
    }
}
