/** The boundary cases of promises 16 to 19, and of "Texts", which they use. */
public final class TextsBoundaryTest {
    private static final Due due = new Due("TextsBoundaryTest");
    private static final int NONE = -6;

    public static void main(String[] args) {
        promise16OneTo8Characters();
        promise16NoCharacter();
        promise16Code33To126();
        promise16AboveAZero();
        promise16TheirOrder();
        promise16AtMost80();
        promise16IsNoChange();
        promise17TheLengthThatItHad();
        promise18TheEmptyPad();
        promise18TooEarly();
        promise18TheFirstCharacter();
        promise18Number0To9999();
        promise18NoLeadingZeros();
        promise18Side0Or1();
        promise18Kind0To4();
        promise18TheSignsBetween();
        promise18BehindAnOrder();
        promise18TheFirstFault();
        promise18The80thCharacter();
        promise18TheFaultLeavesThePad();
        promise19HowManyWereCarriedOut();
        promise19UpToTheFirstError();
        promise19ALostReadIsNoError();
        promise19EmptiesThePad();
        promise19AFaultLeavesThePad();
        promise19EachOrder();
        promise19OneChange();
        promise19AlsoIfNoneIsCarriedOut();
        promise19PlaceAgainstSize();
        promise19TheMostOrders();
        promise19TheRound999();
        due.end();
    }

    /** "characters: 1 to 8 characters". */
    private static void promise16OneTo8Characters() {
        due.about("promise 16, 1 to 8 characters");
        for (int number = 1; number <= 8; number++) {
            BlockRounds x = new BlockRounds();
            due.is(number + " characters", number, x.put(Due.packed("s;s;s;s;".substring(0, number))));
            due.is("the length of the pad", number, x.count(8));
            due.is(number + " more", 2 * number, x.put(Due.packed("s;s;s;s;".substring(0, number))));
        }
    }

    /** "BAD_VALUE if there is no character". */
    private static void promise16NoCharacter() {
        due.about("promise 16, no character");
        BlockRounds x = new BlockRounds();
        due.is("put(0)", -2, x.put(0));
        due.is("one alone", 1, x.put('s'));
        due.is("put(0)", -2, x.put(0));
        due.is("the pad", 1, x.count(8));
    }

    /** "BAD_VALUE if ... a code is not 33 to 126": in each of the 8 characters. */
    private static void promise16Code33To126() {
        due.about("promise 16, code 33 to 126");
        for (int number = 1; number <= 8; number++) {
            for (int at = 0; at < number; at++) {
                for (int code = 1; code <= 255; code++) {
                    long others = Due.packed("ssssssss".substring(0, number)) & ~(255L << 8 * at);
                    boolean right = code >= 33 && code <= 126;
                    BlockRounds x = new BlockRounds();
                    String told = "code " + code + ", " + at + " from the end of " + number;
                    due.is(told, right ? number : -2, x.put(others | (long) code << 8 * at));
                    due.is(told + ", the pad", right ? number : 0, x.count(8));
                }
            }
        }
    }

    /** "8 bits that are 0 mean that there are no more characters, and everything above them has to be 0, too." */
    private static void promise16AboveAZero() {
        due.about("promise 16, above 8 bits that are 0");
        BlockRounds x = new BlockRounds();
        for (int number = 0; number <= 7; number++) {
            long good = Due.packed("sssssss".substring(0, number));
            for (int bit = 8 * number + 8; bit <= 63; bit++) {
                due.is("bit " + bit + " above " + number, -2, x.put(good | 1L << bit));
            }
            for (int above = number + 1; above <= 7; above++) {
                due.is("a character at " + above + " above " + number, -2, x.put(good | (long) 's' << 8 * above));
            }
        }
        due.is("the pad", 0, x.count(8));
        due.is("nothing above 7", 7, x.put(Due.packed("sssssss")));
    }

    /** "its lowest 8 bits are the last character, the next 8 bits the one before, and so on". */
    private static void promise16TheirOrder() {
        due.about("promise 16, their order");
        int[] faults = {1, NONE, 3, NONE, 5, 6, 7, NONE};
        for (int number = 1; number <= 8; number++) {
            BlockRounds x = new BlockRounds();
            String text = "r1;s;x01".substring(0, number);
            x.put(Due.packed(text));
            due.is("fault of " + text, faults[number - 1], x.fault());
        }
        BlockRounds x = new BlockRounds();
        x.put('w');
        x.put('1');
        x.put(Due.packed("5=123"));
        x.put('4');
        due.is("carryOut", 1, x.carryOut());
        due.is("round of 15", 1, x.round(15));
        due.is("data of 15", 1234, x.read(15));
    }

    /** "The pad is a text of at most 80 characters", "TOO_MANY if the pad would be longer than 80." */
    private static void promise16AtMost80() {
        due.about("promise 16, at most 80");
        for (int length = 72; length <= 80; length++) {
            for (int number = 1; number <= 8; number++) {
                BlockRounds x = new BlockRounds();
                Due.type(x, "s".repeat(length));
                boolean right = length + number <= 80;
                due.is(number + " onto " + length, right ? length + number : -4, x.put(Due.packed("s".repeat(number))));
                due.is("the pad", right ? length + number : length, x.count(8));
            }
        }
    }

    /** Ahead of put, wipe and fault stands no "This is a change.": nothing is recorded. */
    private static void promise16IsNoChange() {
        due.about("promises 16 to 18, no changes");
        BlockRounds x = new BlockRounds();
        x.write(0, 1);
        x.put('s');
        x.fault();
        x.wipe();
        x.put('r');
        due.is("changes", 1, x.count(9));
        due.is("undo", 0, x.undo());
        due.is("the pad is not undone", 1, x.count(8));
        due.is("undo", -5, x.undo());
    }

    /** "Empties the pad, and returns the length that it had.": 0, 1, 80. */
    private static void promise17TheLengthThatItHad() {
        due.about("promise 17, the length that it had");
        BlockRounds x = new BlockRounds();
        due.is("empty", 0, x.wipe());
        for (int length : new int[] {1, 7, 8, 9, 79, 80}) {
            Due.type(x, "s".repeat(length));
            due.is("wipe", length, x.wipe());
            due.is("empty then", 0, x.count(8));
            due.is("its fault", 0, x.fault());
            due.is("wipe again", 0, x.wipe());
        }
        Due.type(x, "s".repeat(80));
        x.put('s');
        due.is("behind a refused one", 80, x.wipe());
        Due.type(x, "w1=1");
        x.wipe();
        Due.type(x, "s");
        due.is("nothing is left of the one before", NONE, x.fault());
    }

    /** "if there is none and the text ends too early (also if it is empty), it is the length of the text." */
    private static void promise18TheEmptyPad() {
        due.about("promise 18, the empty pad");
        BlockRounds x = new BlockRounds();
        due.is("new", 0, x.fault());
        x.put('s');
        due.is("one order", NONE, x.fault());
        x.wipe();
        due.is("wiped", 0, x.fault());
        x.put('s');
        x.carryOut();
        due.is("carried out", 0, x.fault());
    }

    /** "if there is none and the text ends too early ..., it is the length of the text": each beginning of each order. */
    private static void promise18TooEarly() {
        due.about("promise 18, too early");
        BlockRounds x = new BlockRounds();
        for (String ahead : new String[] {"", "s;", "r0;", "w9=9;"}) {
            for (String text : new String[] {"w", "w0", "w1", "w9999", "w1=", "w9999=", "r", "!", "!0", "!1", "x", "x0", "x1"}) {
                due.is(ahead + text, ahead.length() + text.length(), Due.fault(x, ahead + text));
            }
            due.is(ahead, ahead.length(), Due.fault(x, ahead));
            for (String text : new String[] {"w0=0", "r0", "!00", "x00", "s"}) {
                due.is(ahead + text, NONE, Due.fault(x, ahead + text));
                due.is(ahead + text + ";", ahead.length() + text.length() + 1, Due.fault(x, ahead + text + ";"));
            }
        }
    }

    /** Which characters can stand behind a beginning; at each other one the fault is. */
    private static void stands(String beginning, String those) {
        BlockRounds x = new BlockRounds();
        for (char sign = 33; sign <= 126; sign++) {
            boolean right = those.indexOf(sign) >= 0;
            int fault = Due.fault(x, beginning + sign);
            boolean isFault = fault == beginning.length();
            due.holds(beginning + sign + " has its fault at " + fault, isFault != right);
            due.holds(beginning + sign + " has its fault at " + fault, isFault || fault == NONE || fault == beginning.length() + 1);
        }
    }

    /** "order = "w" ... | "r" ... | "!" ... | "x" ... | "s"": these alone begin one. */
    private static void promise18TheFirstCharacter() {
        due.about("promise 18, the first character");
        stands("", "wr!xs");
        stands("s;", "wr!xs");
        stands("w1=1;", "wr!xs");
    }

    /** "a number 0 to 9999", "(also of a digit by which a number would be above 9999)". */
    private static void promise18Number0To9999() {
        due.about("promise 18, a number 0 to 9999");
        BlockRounds x = new BlockRounds();
        String[][] ways = {{"r", ""}, {"x0", ""}, {"x1", ""}, {"w", "=0"}, {"w0=", ""}, {"s;r", ";s"}};
        for (String[] way : ways) {
            for (int number : new int[] {0, 1, 9, 10, 99, 100, 999, 1000, 9998, 9999}) {
                due.is(way[0] + number + way[1], NONE, Due.fault(x, way[0] + number + way[1]));
            }
            for (int number : new int[] {10000, 10001, 10009, 12345, 99990, 99999}) {
                due.is(way[0] + number + way[1], way[0].length() + 4, Due.fault(x, way[0] + number + way[1]));
            }
            due.is("six digits", way[0].length() + 4, Due.fault(x, way[0] + "123456" + way[1]));
            due.is("eleven digits", way[0].length() + 4, Due.fault(x, way[0] + "42949672960" + way[1]));
            due.is("no digit", way[0].length(), Due.fault(x, way[0] + "-1" + way[1]));
            stands(way[0], "0123456789");
        }
    }

    /** "without leading zeros": 0 itself stands, nothing of a number may follow it. */
    private static void promise18NoLeadingZeros() {
        due.about("promise 18, without leading zeros");
        BlockRounds x = new BlockRounds();
        String[][] ways = {{"r", ""}, {"x0", ""}, {"x1", ""}, {"w", "=0"}, {"w0=", ""}};
        for (String[] way : ways) {
            due.is(way[0] + "0" + way[1], NONE, Due.fault(x, way[0] + "0" + way[1]));
            for (String number : new String[] {"00", "01", "09", "000", "0001", "01000"}) {
                due.is(way[0] + number + way[1], way[0].length() + 1, Due.fault(x, way[0] + number + way[1]));
            }
            for (String number : new String[] {"10", "100", "1000", "101", "1001"}) {
                due.is(way[0] + number + way[1], NONE, Due.fault(x, way[0] + number + way[1]));
            }
        }
        stands("r0", ";");
        stands("w0", "=");
        stands("w0=0", ";");
        stands("x10", ";");
    }

    /** "A side is 0 or 1". */
    private static void promise18Side0Or1() {
        due.about("promise 18, a side is 0 or 1");
        stands("!", "01");
        stands("x", "01");
        stands("s;!", "01");
        stands("r1;x", "01");
    }

    /** "a kind 0 to 4": one digit. */
    private static void promise18Kind0To4() {
        due.about("promise 18, a kind 0 to 4");
        stands("!0", "01234");
        stands("!1", "01234");
        BlockRounds x = new BlockRounds();
        for (int kind = 0; kind <= 4; kind++) {
            due.is("!0" + kind, NONE, Due.fault(x, "!0" + kind));
            stands("!1" + kind, ";");
        }
    }

    /** "order = "w" number "=" number": between and behind the numbers. */
    private static void promise18TheSignsBetween() {
        due.about("promise 18, the signs between");
        stands("w1", "0123456789=");
        stands("w999", "0123456789=");
        stands("w1000", "=");
        stands("w9999", "=");
        stands("w1=", "0123456789");
        stands("w1=9", "0123456789;");
        stands("w1=999", "0123456789;");
        stands("w1=9999", ";");
        stands("w1=1000", ";");
    }

    /** "text = order { ";" order }": behind an order a semicolon or the end. */
    private static void promise18BehindAnOrder() {
        due.about("promise 18, behind an order");
        stands("s", ";");
        stands("!00", ";");
        stands("r1", "0123456789;");
        stands("r9999", ";");
        stands("x11", "0123456789;");
        stands("x19999", ";");
        stands("s;s", ";");
    }

    /** "the first character that cannot stand at its place when the text is read from left to right": of two, the first one. */
    private static void promise18TheFirstFault() {
        due.about("promise 18, the first fault");
        BlockRounds x = new BlockRounds();
        due.is("qq", 0, Due.fault(x, "qq"));
        due.is("s;q;q", 2, Due.fault(x, "s;q;q"));
        due.is("r01;q", 2, Due.fault(x, "r01;q"));
        due.is("a fault ahead of the end that is too early", 1, Due.fault(x, "ss;"));
        due.is("a fault behind right orders", 12, Due.fault(x, "w1=2;r3;!14;;"));
        due.is("what a call would refuse is no fault", NONE, Due.fault(x, "r9999;x09999;w9999=9999"));
    }

    /** A pad of 80 characters: right, wrong in the last one, and too early. */
    private static void promise18The80thCharacter() {
        due.about("promise 18, the 80th character");
        BlockRounds x = new BlockRounds();
        String seventyEight = "s;".repeat(39);
        due.is("79, right", NONE, Due.fault(x, seventyEight + "s"));
        due.is("80, right", NONE, Due.fault(x, seventyEight + "r1"));
        due.is("80, the last one is wrong", 79, Due.fault(x, seventyEight + "ss"));
        due.is("80, the one before is wrong", 78, Due.fault(x, seventyEight + ";s"));
        due.is("80, too early", 80, Due.fault(x, seventyEight + "s;"));
        due.is("79, too early", 79, Due.fault(x, seventyEight + "r"));
        due.is("80, too early in an order", 80, Due.fault(x, seventyEight + "w1"));
        due.is("80, a number ends there", NONE, Due.fault(x, "s;".repeat(36) + "s;w99=99"));
        due.is("80, above 9999 there", 79, Due.fault(x, "s;".repeat(36) + "s;r99999"));
    }

    /** "Returns the fault of the pad": the pad, and all that there is, stays. */
    private static void promise18TheFaultLeavesThePad() {
        due.about("promise 18, the fault leaves the pad");
        BlockRounds x = new BlockRounds();
        Due.type(x, "w1=1;r");
        due.is("fault", 6, x.fault());
        due.is("fault again", 6, x.fault());
        due.is("length", 6, x.count(8));
        x.put('1');
        due.is("right then", NONE, x.fault());
        due.is("length", 7, x.count(8));
        due.is("nothing was carried out", 0, x.count(3));
        due.is("carryOut", 2, x.carryOut());
    }

    /** "Returns how many orders were carried out": one, two, and all of 40. */
    private static void promise19HowManyWereCarriedOut() {
        due.about("promise 19, how many");
        BlockRounds x = new BlockRounds();
        for (int number = 1; number <= 40; number++) {
            due.is(number + " orders", number, Due.carryOut(x, "s;".repeat(number - 1) + "s"));
        }
    }

    /** "one after the other, up to the first one that returns an error": the first, a middle and the last one. */
    private static void promise19UpToTheFirstError() {
        due.about("promise 19, up to the first error");
        for (String error : new String[] {"w16=1", "w9999=9999", "r16", "x016", "x19999"}) {
            for (int ahead = 0; ahead <= 3; ahead++) {
                for (int behind = 0; behind <= 2; behind++) {
                    BlockRounds x = new BlockRounds();
                    String text = "w1=1;".repeat(ahead) + error + ";w2=2".repeat(behind);
                    due.is(text, ahead, Due.carryOut(x, text));
                    due.is(text + ": those ahead", ahead, x.round(1));
                    due.is(text + ": those behind", 0, x.round(2));
                    due.is(text + ": reads", 0, x.count(4));
                    due.is(text + ": the pad", 0, x.count(8));
                }
            }
        }
        BlockRounds x = new BlockRounds();
        due.is("places that are there", 3, Due.carryOut(x, "w15=1;r15;x115"));
    }

    /** "(one that is lost is no error)". */
    private static void promise19ALostReadIsNoError() {
        due.about("promise 19, a lost read is no error");
        BlockRounds x = new BlockRounds();
        due.is("carryOut", 7, Due.carryOut(x, "!01;!11;w3=1;r3;r3;w4=2;r4"));
        due.is("lost", 2, x.count(6));
        due.is("reads", 3, x.count(4));
        due.is("written behind it", 1, x.round(4));
        due.is("the last order", 1, Due.carryOut(x, "r3"));
    }

    /** "and empties the pad": also if an order returns an error, and if none is carried out. */
    private static void promise19EmptiesThePad() {
        due.about("promise 19, empties the pad");
        BlockRounds x = new BlockRounds();
        for (String text : new String[] {"s", "s;r16", "r16", "s;".repeat(39) + "r1"}) {
            Due.carryOut(x, text);
            due.is("length behind " + text, 0, x.count(8));
            due.is("fault behind " + text, 0, x.fault());
            due.is("again", -3, x.carryOut());
        }
        due.is("undo", 3, x.undo());
        due.is("undo does not bring it back", 0, x.count(8));
    }

    /** "BAD_TEXT if the pad has a fault (then it stays)": wrong, too early, and empty. */
    private static void promise19AFaultLeavesThePad() {
        due.about("promise 19, a fault leaves the pad");
        for (String text : new String[] {"", "q", "w1=1;", "w1=1;q", "w1=1;w2=", "w1=1;r01", "w1=1;r10000", "s;".repeat(40)}) {
            BlockRounds x = new BlockRounds();
            x.write(5, 5);
            due.is(text, -3, Due.carryOut(x, text));
            due.is(text + ": its length", text.length(), x.count(8));
            due.is(text + ": no order is carried out", 1, x.count(3));
            due.is(text + ": no change", 1, x.count(9));
            due.is(text + ": again", -3, x.carryOut());
            due.is(text + ": wipe", text.length(), x.wipe());
        }
    }

    /** ""w": write() data to a place; "r": read() a place ...": each order against its call, at the first and the last place. */
    private static void promise19EachOrder() {
        due.about("promise 19, each order");
        for (int place : new int[] {0, 1, 5}) {
            for (int side = 0; side <= 1; side++) {
                BlockRounds x = Due.rich();
                BlockRounds y = Due.rich();
                String text = "w" + place + "=9999;r" + place + ";x" + side + place + ";r" + place + ";s;!" + side + (place == 5 ? 4 : place)
                    + ";w" + place + "=0";
                due.is(text, 7, Due.carryOut(x, text));
                y.write(place, 9999);
                y.read(place);
                y.wipeOut(side, place);
                y.read(place);
                y.scrub();
                y.await(side, place == 5 ? 4 : place);
                y.write(place, 0);
                due.is(text + ": as by the calls", Due.drive(y), Due.drive(x));
            }
        }
        for (int side = 0; side <= 1; side++) {
            for (int kind = 0; kind <= 4; kind++) {
                BlockRounds x = new BlockRounds();
                Due.carryOut(x, "!" + side + kind);
                due.is("kind " + kind + " for side " + side, kind, x.count(1 + side));
                due.is("and for the other one", 0, x.count(2 - side));
            }
        }
    }

    /** "This is a change (one, with all of them ...)": one undo takes all of them back. */
    private static void promise19OneChange() {
        due.about("promise 19, one change");
        BlockRounds x = new BlockRounds();
        x.write(0, 7);
        String before = Due.drive(x);
        due.is("seven orders", 7, Due.carryOut(x, "w0=1;w1=2;!04;r0;x01;s;w2=3"));
        due.is("history", 2, x.count(9));
        due.is("undo", 1, x.undo());
        due.is("the state before it", before, Due.drive(x));
        due.is("undo", 0, x.undo());
        due.is("undo", -5, x.undo());
    }

    /** "also if none is carried out": it is recorded, and undone as a change of its own. */
    private static void promise19AlsoIfNoneIsCarriedOut() {
        due.about("promise 19, none is carried out");
        BlockRounds x = new BlockRounds();
        x.write(0, 7);
        due.is("carryOut", 0, Due.carryOut(x, "r16;w1=1"));
        due.is("history", 2, x.count(9));
        due.is("undo", 1, x.undo());
        due.is("the write stands still", 7, x.read(0));
        for (int i = 0; i < 6; i++) {
            Due.carryOut(x, "r9999");
        }
        due.is("history", 6, x.count(9));
        for (int left = 5; left >= 0; left--) {
            due.is("undo", left, x.undo());
        }
        due.is("the write has been dropped from the history", -5, x.undo());
        due.is("and stands still", 1, x.round(0));
    }

    /** A number stands in a text up to 9999, but its place has to be there when it is carried out. */
    private static void promise19PlaceAgainstSize() {
        for (int size : new int[] {1, 2, 16, 32}) {
            due.about("promise 19, SIZE " + size);
            for (String order : new String[] {"w#=5", "r#", "x0#", "x1#"}) {
                BlockRounds x = new BlockRounds();
                x.resize(size);
                due.is(order, 1, Due.carryOut(x, order.replace("#", "" + (size - 1))));
                due.is(order, 0, Due.carryOut(x, order.replace("#", "" + size)));
            }
        }
    }

    /** The most orders that 80 characters hold: 40; and the longest ones. */
    private static void promise19TheMostOrders() {
        due.about("promise 19, the most orders");
        BlockRounds x = new BlockRounds();
        due.is("40 orders, the last one a read", 40, Due.carryOut(x, "s;".repeat(39) + "r1"));
        due.is("reads", 1, x.count(4));
        due.is("the longest ones, the last one an error", 7, Due.carryOut(x, "w10=9999;".repeat(7) + "w9999=9999"));
        due.is("rounds", 7, x.round(10));
        x.resize(1);
        due.is("40 orders, the last one an error", 39, Due.carryOut(x, "s;".repeat(39) + "r1"));
    }

    /** ""w": write() data to a place": "TOO_MANY if the round would be above 999" ends a text, too. No 512 calls reach it. */
    private static void promise19TheRound999() {
        due.about("promise 19, the round 999");
        BlockRounds x = new BlockRounds();
        for (int round = 1; round <= 997; round++) {
            x.write(0, 1);
        }
        due.is("998 and 999, then 1000", 2, Due.carryOut(x, "w0=1;w0=2;w0=3;w1=1"));
        due.is("round", 999, x.round(0));
        due.is("data", 2, x.read(0));
        due.is("the order behind", 0, x.round(1));
        due.is("the first one", 0, Due.carryOut(x, "w0=3"));
    }
}
