/** Runs of calls drawn by numbers that are always the same, compared with the slow model. */
public final class ModelTest {
    private static final Check CHECK = new Check();
    private static final String[] NUMBERS = {"0", "1", "5", "9", "00", "05", "12", "19", "20", "21", "31", "32", "99"};
    /** Leaves calls for a last look at everything. */
    private static final int LAST_STEP = 400;
    private static long seed;

    private ModelTest() {
    }

    private static int draw(int below) {
        seed = seed * 6364136223846793005L + 1442695040888963407L;
        return (int) ((seed >>> 33) % below);
    }

    private static int between(int least, int most) {
        return least + draw(most - least + 1);
    }

    public static void main(String[] args) {
        for (int number = 0; number < 640; number++) {
            seed = number * 7919L + 17;
            draw(2);
            oneRun(number);
            if (CHECK.wrongOnes() > 0) {
                break;
            }
        }
        CHECK.end();
    }

    private static void oneRun(int number) {
        Pair pair = new Pair(CHECK, "run " + number);
        int kind = number % 8;
        if (kind == 5) {
            longNoise(pair);
        }
        if (kind == 6) {
            crowd(pair);
        }
        while (pair.calls() < LAST_STEP) {
            if (kind == 7) {
                text(pair);
                for (int i = draw(12); i > 0; i--) {
                    step(pair, draw(4));
                }
            } else {
                step(pair, kind);
            }
            if (draw(40) == 0) {
                readAll(pair);
            }
        }
        readAll(pair);
    }

    /** Time runs quickly where everything is spoilt, up to the last start and beyond it. */
    private static void longNoise(Pair pair) {
        for (int address = 0; address < 32; address += between(3, 9)) {
            pair.call(0, address);
        }
        pair.call(2, 60, 20, 1);
        pair.call(4, draw(3000), 1000000);
        for (int i = 0; i < 9; i++) {
            pair.call(5, 200);
            pair.call(20);
        }
        pair.call(4, 0, between(0, 1000000));
    }

    private static void crowd(Pair pair) {
        for (int i = 0; i < 9; i++) {
            pair.call(0, (i * 11 + pair.calls()) % 32);
        }
        for (int i = 0; i < 101; i++) {
            pair.call(3, address(pair), between(1, 20), draw(10));
        }
    }

    /** Mostly an address that has a station. */
    private static int address(Pair pair) {
        int number = pair.model.now.stations.size();
        if (number > 0 && draw(12) != 0) {
            return pair.model.addressAt(draw(number));
        }
        return between(-1, 32);
    }

    private static int messageNumber(Pair pair) {
        return between(-1, pair.model.now.messages.size());
    }

    private static void step(Pair pair, int kind) {
        int now = pair.model.now.time;
        switch (draw(20)) {
            case 0: case 1:
                pair.call(0, between(-1, 32));
                break;
            case 2:
                pair.call(1, address(pair), draw(2));
                break;
            case 3:
                if (kind == 4) {
                    pair.call(2, between(0, 501), between(0, 21), between(0, 21));
                } else {
                    pair.call(2, between(1, 100), between(1, 6), between(1, 4));
                }
                break;
            case 4: case 5: case 6: case 7:
                pair.call(3, address(pair), between(draw(9) == 0 ? 0 : 1, draw(9) == 0 ? 21 : 20),
                        between(draw(9) == 0 ? -1 : 0, draw(9) == 0 ? 10 : 9));
                break;
            case 8: case 9: {
                int first = now + between(-2, 120);
                pair.call(4, first, first + between(-1, kind < 2 ? 1 : 12));
                break;
            }
            case 10: case 11: case 12: case 13:
                pair.call(5, between(0, draw(6) == 0 ? 60 : 4));
                break;
            case 14:
                pair.call(5, draw(2) == 0 ? between(-1, 1) : between(199, 201));
                break;
            case 15:
                pair.call(6);
                break;
            case 16:
                pair.call(19, messageNumber(pair));
                break;
            case 17:
                pair.call(20);
                break;
            case 18:
                pair.call(21, between(-1, draw(4) == 0 ? 101 : 30));
                break;
            default:
                if (kind < 4 && draw(3) != 0) {
                    pair.call(5, between(1, 8));
                } else {
                    pair.call(25);
                }
        }
    }

    private static void text(Pair pair) {
        pair.call(23);
        StringBuilder text = new StringBuilder();
        int items = between(0, 14);
        for (int i = 0; i < items; i++) {
            if (draw(3) == 0 || i == 0) {
                text.append('s').append(between(0, 31)).append(';');
            } else {
                text.append('m').append(between(1, 20)).append(',').append(draw(10)).append(';');
            }
        }
        int changes = draw(3);
        for (int i = 0; i < changes; i++) {
            int at = draw(text.length() + 1);
            switch (draw(4)) {
                case 0:
                    text.insert(at, NUMBERS[draw(NUMBERS.length)]);
                    break;
                case 1:
                    text.insert(at, "sm,;0 /:x".charAt(draw(9)));
                    break;
                case 2:
                    text.setLength(at);
                    break;
                default:
                    if (at < text.length()) {
                        text.deleteCharAt(at);
                    }
            }
        }
        for (int i = 0; i < text.length(); i++) {
            pair.call(22, text.charAt(i));
        }
        pair.call(24);
        pair.call(5, between(0, 9));
        if (draw(3) == 0) {
            pair.call(25);
        }
        if (draw(3) == 0) {
            pair.call(22, between(-1, 128));
        }
    }

    private static void readAll(Pair pair) {
        for (int what = -1; what <= 9; what++) {
            pair.call(7, what);
            pair.call(12, what);
            pair.call(8, address(pair), what);
            pair.call(11, messageNumber(pair), what);
            pair.call(15, between(-1, 40), what);
        }
        for (int place = -1; place <= 8; place++) {
            pair.call(9, place);
            pair.call(10, address(pair), place);
        }
        for (int i = 0; i < 20; i++) {
            pair.call(13, Math.max(-1, pair.model.now.time + between(-40, 80)));
        }
        pair.call(13, between(999999, 1000001));
        pair.call(14);
        pair.call(16);
        pair.call(17, 0);
        pair.call(17, 1);
        pair.call(18);
    }
}
