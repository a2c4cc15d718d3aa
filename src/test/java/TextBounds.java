/** Boundary cases of the station text: promises 24 to 26. */
final class TextBounds {
    private static final int NONE = Bounds.NONE;
    private static final String EIGHT = "s0;s1;s2;s3;s4;s5;s6;s7;";

    private final Bounds b;

    TextBounds(Bounds bounds) {
        b = bounds;
    }

    void all() {
        bytes();
        refusedBytes();
        lengths();
        cleared();
        numbersOfItems();
        newLine();
        newLineBehindQuestions();
        numbersBehindText();
        leastAndGreatestNumbers();
        firstByteThatCannotStand();
        tooEarlyEnds();
        wrongNumbers();
        thirdDigits();
        longestTexts();
        textStays();
    }

    private void bytes() {
        b.says(24, "- `value`: the byte, 0 to 127");
        b.is("append(0)", new TokenBus().append(0), 1);
        b.is("append(127)", new TokenBus().append(127), 1);
        TokenBus low = new TokenBus();
        TokenBus high = new TokenBus();
        for (int value = 0; value < 120; value++) {
            b.is("append(" + value + ")", low.append(value), value + 1);
            b.is("append(" + (127 - value) + ")", high.append(127 - value), value + 1);
        }
        b.says(24, "Returns the new length of the text.");
        b.is("the first", new TokenBus().append('s'), 1);
    }

    private void refusedBytes() {
        b.says(24, "Throws `IllegalArgumentException` if value is out of range");
        for (int wrong : new int[] {-1, 128, 255, 256, 256 + 's', Bounds.LOWEST, Bounds.HIGHEST}) {
            b.refuses("append(" + wrong + ")", Bounds.ARGUMENT, Recipes::busy, x -> x.append(wrong));
            b.refuses("append(" + wrong + ") to an empty text", Bounds.ARGUMENT, TokenBus::new, x -> x.append(wrong));
            b.refuses("append(" + wrong + ") as byte 121", Bounds.ARGUMENT, Recipes::full, x -> x.append(wrong));
        }
    }

    private void lengths() {
        b.says(24, "The text has at most 120 bytes.");
        TokenBus bus = new TokenBus();
        for (int length = 1; length <= 120; length++) {
            b.is("byte " + length, bus.append('s'), length);
        }
        b.says(24, "Throws `IllegalStateException` if the text has 120 bytes");
        b.refuses("append(0) as byte 121", Bounds.STATE, Recipes::full, x -> x.append(0));
        b.refuses("append(';') as byte 121", Bounds.STATE, Recipes::full, x -> x.append(';'));
        b.refuses("append(127) as byte 121", Bounds.STATE, Recipes::full, x -> x.append(127));
        TokenBus again = Recipes.full();
        b.is("clearText()", again.clearText(), 120);
        b.is("append('s') then", again.append('s'), 1);
    }

    private void cleared() {
        b.says(25, "Empties the station text.");
        TokenBus bus = Recipes.full();
        bus.clearText();
        b.is("parse()", bus.parse(), 0);
        b.is("append('s')", bus.append('s'), 1);
        b.is("parse(), nothing is left of the old text", bus.parse(), -11);
        b.says(25, "Returns the length that it had.");
        b.is("a new object", new TokenBus().clearText(), 0);
        b.is("one byte", bus.clearText(), 1);
        b.is("none", bus.clearText(), 0);
        b.is("120 bytes", Recipes.full().clearText(), 120);
    }

    private void numbersOfItems() {
        b.says(26, "there may be no items (which gives a line without stations)");
        TokenBus none = Recipes.withText("");
        b.is("parse()", none.parse(), 0);
        b.settings("no items", none, 60, 4, 1, 0, 0, 0, 0, NONE, 0);
        b.refuses("station(0, 0)", Bounds.NO_STATION, () -> parsed(""), x -> x.station(0, 0));
        b.refuses("addressAt(0)", Bounds.INDEX, () -> parsed(""), x -> x.addressAt(0));
        b.is("run(200)", none.run(200), 0);
        b.says(26, "Returns the number of items; -10 minus the syntax error position if there is a syntax error (then nothing changes).");
        items("s5;", 1);
        items("s5;m1,1;", 2);
        items(EIGHT, 8);
        items(EIGHT + "m1,1;", 9);
        items(Recipes.longestText(), 24);
        items("s31;" + "m1,0;".repeat(23), 24);
        error("x", 0);
    }

    private static TokenBus parsed(String text) {
        TokenBus bus = Recipes.withText(text);
        bus.parse();
        return bus;
    }

    private void items(String text, int due) {
        b.is("parse() of " + text, Recipes.withText(text).parse(), due);
    }

    private void error(String text, int position) {
        b.onlyAnswers("parse() of " + text, -10 - position, () -> Recipes.withText(text), TokenBus::parse);
    }

    private void newLine() {
        b.says(26, "Makes the line one with the stations and messages of the text, at time 0, with no holder, no noises, an empty log and "
                + "all counts 0; T, S and G stay.");
        TokenBus bus = Recipes.full();
        bus.run(1);
        b.is("parse()", bus.parse(), 24);
        b.settings("parsed", bus, 500, 1, 1, 8, 0, 0, 0, NONE, 16);
        b.counts("parsed", bus, 0, 0, 0, 0, 0, 0, 0);
        b.is("logged()", bus.logged(), 0);
        b.is("greatestRotation()", bus.greatestRotation(), 0);
        b.isReal("waits(true)", bus.waits(true), 0.0);
        b.isReal("waits(false)", bus.waits(false), 0.0);
        b.isReal("use()", bus.use(), 0.0);
        b.is("isNoisy(0)", bus.isNoisy(0), false);
        b.is("isNoisy(190)", bus.isNoisy(190), false);
        for (int address = 0; address < 8; address++) {
            b.station("parsed", bus, address, 1, 0, address, address, address == 7 ? 16 : 0, 0, NONE);
        }
        b.message("parsed", bus, 15, 10, 1, 7, 0, NONE);
        b.is("a noise may come again", bus.addNoise(3, 3), 1);
        b.is("run(1): 0 makes the token and polls 1", bus.run(1), 6 + 2 + 1);
        b.visit("its first visit", bus, 0, 6, 0, 0, 0);
    }

    /** What other calls have tried out, and what a wrong text has told, is no part of the new line. */
    private void newLineBehindQuestions() {
        b.says(26, "no noises, an empty log and all counts 0");
        TokenBus bus = Recipes.full();
        bus.clearText();
        Recipes.put(bus, "s9;m1,1;m1,1;x");
        b.is("leastTarget(100)", bus.leastTarget(100), Recipes.full().leastTarget(100));
        b.is("parse() of a wrong text", bus.parse(), -23);
        bus.clearText();
        Recipes.put(bus, "s30;");
        bus.completeAfter();
        bus.waitOf(99);
        b.is("parse()", bus.parse(), 1);
        TokenBus twin = new TokenBus();
        Recipes.put(twin, "s30;");
        twin.addStation(1);
        twin.addStation(2);
        twin.setTimes(500, 1, 1);
        twin.parse();
        b.is("digest() of a new object with this text", bus.digest(), twin.digest());
        b.is("isNoisy(0)", bus.isNoisy(0), false);
        b.isReal("waits(true)", bus.waits(true), 0.0);
    }

    private void numbersBehindText() {
        b.says(26, "\"m\", a length of one or two digits, a comma and an urgency digit: a message for the station told last");
        TokenBus bus = Recipes.withText("s31;s0;m1,0;m2,9;s16;s1;m20,5;");
        b.is("parse()", bus.parse(), 7);
        b.queue("0, told last by the first two", bus, 0, 1, 0);
        b.queue("1, not 16", bus, 1, 2);
        b.queue("16", bus, 16);
        b.queue("31", bus, 31);
        b.is("the next number", bus.give(31, 1, 1), 3);
        b.says(26, "at most 100 can be given");
        TokenBus many = Recipes.withText("s31;" + "m1,0;".repeat(23));
        many.parse();
        for (int number = 23; number < 100; number++) {
            b.is("message " + number, many.give(31, 1, 9), number);
        }
        b.refuses("message 100", Bounds.STATE, TextBounds::hundredWithText, x -> x.give(31, 1, 1));
        b.is("what was given before is no more", hundredWithText().message(0, 2), 31);
    }

    private static TokenBus hundredWithText() {
        TokenBus bus = Recipes.with(2);
        bus.give(2, 1, 1);
        Recipes.put(bus, "s31;m1,0;");
        bus.parse();
        for (int number = 1; number < 100; number++) {
            bus.give(31, 1, 9);
        }
        return bus;
    }

    private void leastAndGreatestNumbers() {
        b.says(26, "\"s\" and an address of one or two digits: a station");
        String[] stations = {"s0;", "s00;", "s9;", "s09;", "s10;", "s31;"};
        int[] addresses = {0, 0, 9, 9, 10, 31};
        for (int i = 0; i < stations.length; i++) {
            TokenBus bus = parsed(stations[i]);
            b.is(stations[i] + " addressAt(0)", bus.addressAt(0), addresses[i]);
            b.station(stations[i], bus, addresses[i], 1, 0, addresses[i], addresses[i], 0, 0, NONE);
        }
        b.says(26, "\"m\", a length of one or two digits, a comma and an urgency digit");
        String[] messages = {"m1,0;", "m01,9;", "m9,4;", "m10,5;", "m20,9;", "m09,0;"};
        int[][] due = {{1, 0}, {1, 9}, {9, 4}, {10, 5}, {20, 9}, {9, 0}};
        for (int i = 0; i < messages.length; i++) {
            b.message(messages[i], parsed("s31;" + messages[i]), 0, due[i][0], due[i][1], 31, 0, NONE);
        }
    }

    private void firstByteThatCannotStand() {
        b.says(26, "The syntax error position is the index of the first byte that cannot stand where it stands (the \"s\" of a ninth station, "
                + "an \"m\" before the first station, a third digit, too)");
        error(";", 0);
        error("1", 0);
        error("S1;", 0);
        error("\0", 0);
        error("\177", 0);
        error(" s1;", 0);
        error("s;", 1);
        error("s,", 1);
        error("ss", 1);
        error("s-1;", 1);
        error("s/;", 1);
        error("s:;", 1);
        error("s1,", 2);
        error("s1m", 2);
        error("s1/", 2);
        error("s1:", 2);
        error("s12,", 3);
        error("s1;;", 3);
        error("s1; m1,1;", 3);
        error("s1;1", 3);
        error("s1;m;", 4);
        error("s1;m,", 4);
        error("s1;m1;", 5);
        error("s1;m1m", 5);
        error("s1;m12;", 6);
        error("s1;m1,;", 6);
        error("s1;m1,,", 6);
        error("s1;m1,/;", 6);
        error("s1;m1,:;", 6);
        error("s1;m1,1,", 7);
        error("s1;m1,10;", 7);
        error("s1;m1,1;;", 8);
        b.says(26, "the \"s\" of a ninth station");
        error(EIGHT + "s8;", 24);
        error(EIGHT + "s0;", 24);
        error(EIGHT + "s", 24);
        error(EIGHT + "m1,1;s8;", 29);
        b.says(26, "an \"m\" before the first station");
        error("m1,1;", 0);
        error("m", 0);
        error("m1,1;s1;", 0);
    }

    private void tooEarlyEnds() {
        b.says(26, "or the length of the text if the text ends too early");
        String whole = "s31;m20,9;";
        int[] due = {0, 1, 2, 3, 0, 5, 6, 7, 8, 9, 0};
        for (int length = 0; length <= whole.length(); length++) {
            if (length == 0 || length == 4 || length == 10) {
                items(whole.substring(0, length), length == 0 ? 0 : length == 4 ? 1 : 2);
            } else {
                error(whole.substring(0, length), due[length]);
            }
        }
        error(EIGHT.substring(0, 23), 23);
        error(EIGHT + "m", 25);
    }

    private void wrongNumbers() {
        b.says(26, "For an address above 31 or of a station that was told already, and a length that is not 1 to 20, it is the index of the "
                + "first digit of the number, found when a byte that is no digit, whichever it is, or the end of the text, follows it.");
        String[] behind = {";", "", "x", ",", "m", "s", " ", "\0", "\177", "/", ":"};
        for (String follower : behind) {
            error("s32" + follower, 1);
            error("s99" + follower, 1);
            error("s1;s1" + follower, 4);
            error("s1;s01" + follower, 4);
            error("s7;m1,1;s31;s07" + follower, 13);
            error("s1;m0" + follower, 4);
            error("s1;m00" + follower, 4);
            error("s1;m21" + follower, 4);
            error("s1;m99" + follower, 4);
        }
        error("s31x", 3);
        error("s1;m20x", 6);
        error("s1;m1x", 5);
        items("s1;s10;s11;", 3);
        items("s3;s31;s30;", 3);
        error("s1;s", 4);
        error("s10;s1;s10;", 8);
    }

    private void thirdDigits() {
        b.says(26, "a third digit, too");
        error("s010;", 3);
        error("s310;", 3);
        error("s320", 3);
        error("s999;", 3);
        error("s0000", 3);
        error("s1;s011;", 6);
        error("s1;s100;", 6);
        error("s1;m000,1;", 6);
        error("s1;m010,1;", 6);
        error("s1;m210", 6);
        error("s1;m999", 6);
    }

    private void longestTexts() {
        b.says(26, "The text has at most 120 bytes.");
        String messages = "m1,1;".repeat(19);
        items(Recipes.longestText(), 24);
        error(Recipes.longestText().substring(0, 119) + "x", 119);
        error(Recipes.longestText().substring(0, 119), 119);
        error(EIGHT + messages + "m", 120);
        error(EIGHT + messages + "s", 119);
        error("s31;" + "m20,9;".repeat(19) + "m2", 120);
        error("s31;" + "m20,9;".repeat(19) + "m0", 119);
        error("s".repeat(120), 1);
        error("x" + Recipes.longestText().substring(1), 0);
    }

    private void textStays() {
        b.says(26, "The text stays as it is.");
        TokenBus bus = Recipes.full();
        b.is("parse()", bus.parse(), 24);
        b.is("parse() again", bus.parse(), 24);
        b.refuses("append('s')", Bounds.STATE, TextBounds::fullAndParsed, x -> x.append('s'));
        b.is("clearText()", bus.clearText(), 120);
        TokenBus wrong = Recipes.withText("s1;x");
        b.is("parse()", wrong.parse(), -13);
        b.is("parse() again", wrong.parse(), -13);
        b.is("clearText()", wrong.clearText(), 4);
    }

    private static TokenBus fullAndParsed() {
        TokenBus bus = Recipes.full();
        bus.parse();
        return bus;
    }
}
