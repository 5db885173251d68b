/** Promises 16 to 19: the pad, and its texts. */
public final class TextsTest {
    private static final Due due = new Due("TextsTest");

    public static void main(String[] args) {
        promise16();
        promise16Errors();
        promise16Full();
        promise17();
        promise18();
        promise18EachCharacter();
        promise18Longest();
        promise19();
        promise19Order();
        promise19Stops();
        promise19OneChange();
        promise19Fault();
        due.end();
    }

    private static void promise16() {
        BlockRounds x = new BlockRounds();
        due.is("one", 1, x.put('s'));
        due.is("eight", 9, x.put(Due.packed(";s;s;s;s")));
        due.is("in their order", -6, x.fault());
        due.is("three", 12, x.put(Due.packed(";w1")));
        due.is("in their order", 12, x.fault());
        due.is("lowest code", 13, x.put(33));
        due.is("highest code", 14, x.put(126));
        due.is("no change", 0, x.count(9));
    }

    private static void promise16Errors() {
        BlockRounds x = new BlockRounds();
        x.put('r');
        due.refuses(x, "none", -2, () -> x.put(0));
        due.refuses(x, "32", -2, () -> x.put(32));
        due.refuses(x, "127", -2, () -> x.put(127));
        due.refuses(x, "128", -2, () -> x.put(128 + 's'));
        due.refuses(x, "255", -2, () -> x.put(-1));
        due.refuses(x, "the first one", -2, () -> x.put(32L << 8 | 's'));
        due.refuses(x, "the last one is 0", -2, () -> x.put(256L * 's'));
        due.refuses(x, "above 0", -2, () -> x.put((long) 's' << 16 | 's'));
        due.refuses(x, "a bit above 0", -2, () -> x.put(1L << 63 | 's'));
        due.refuses(x, "a bit above 0", -2, () -> x.put(1L << 16 | 's'));
        due.refuses(x, "the eighth", -2, () -> x.put(Due.packed("sssssss") | 127L << 56));
        due.refuses(x, "least", -2, () -> x.put(Long.MIN_VALUE));
    }

    private static void promise16Full() {
        BlockRounds x = new BlockRounds();
        Due.type(x, "s;".repeat(39) + "s");
        due.is("length", 79, x.count(8));
        due.refuses(x, "two more", -4, () -> x.put(Due.packed("ss")));
        due.refuses(x, "bad ones first", -2, () -> x.put(Due.packed("ss") << 8));
        due.is("one more", 80, x.put('s'));
        due.refuses(x, "one more", -4, () -> x.put('s'));
        due.refuses(x, "bad ones first", -2, () -> x.put(0));
        due.is("wipe", 80, x.wipe());
        due.is("again", 8, x.put(Due.packed("ssssssss")));
    }

    private static void promise17() {
        BlockRounds x = new BlockRounds();
        due.is("empty", 0, x.wipe());
        Due.type(x, "w12=345;");
        due.is("wipe", 8, x.wipe());
        due.is("empty then", 0, x.count(8));
        due.is("empty then", 0, x.fault());
        due.is("no change", 0, x.count(9));
    }

    private static void promise18() {
        BlockRounds x = new BlockRounds();
        String[] right = {"s", "r0", "r9999", "w0=0", "w9999=9999", "!00", "!14", "x00", "x19999", "x10", "s;s", "w10=20;r30;!12;x03;s"};
        for (String text : right) {
            due.is(text, -6, Due.fault(x, text));
        }
        Object[][] wrong = {
            {"", 0}, {";", 0}, {"a", 0}, {"0", 0}, {"S", 0}, {"~", 0}, {"=", 0},
            {"s;", 2}, {"s;;", 2}, {"ss", 1}, {"s0", 1}, {"s;q", 2}, {"s,", 1},
            {"r", 1}, {"rr", 1}, {"r;", 1}, {"r-1", 1}, {"r00", 2}, {"r01", 2}, {"r1;", 3}, {"r10000", 5}, {"r99990", 5}, {"r0;r", 4}, {"r1a", 2},
            {"w", 1}, {"w=", 1}, {"w1", 2}, {"w1;", 2}, {"w1=", 3}, {"w1=;", 3}, {"w1=x", 3}, {"w1=1=", 4}, {"w00=1", 2}, {"w1=00", 4},
            {"w12345=1", 5}, {"w1=12345", 7}, {"w1=99999", 7}, {"w1==1", 3}, {"wr", 1},
            {"!", 1}, {"!2", 1}, {"!;", 1}, {"!0", 2}, {"!0;", 2}, {"!05", 2}, {"!14;", 4}, {"!140", 3}, {"!00s", 3}, {"!9", 1},
            {"x", 1}, {"x2", 1}, {"x0", 2}, {"x0;", 2}, {"x0=", 2}, {"x000", 3}, {"x001", 3}, {"x112345", 6}, {"x1;", 2}, {"x-", 1}};
        for (Object[] row : wrong) {
            due.is((String) row[0], (Integer) row[1], Due.fault(x, (String) row[0]));
        }
        due.is("the pad stays", 2, x.count(8));
        due.is("no change", 0, x.count(9));
    }

    /** Which character can stand behind each beginning: the others are the fault. */
    private static void promise18EachCharacter() {
        String[][] goOn = {
            {"", "wr!xs"}, {"w", "0123456789"}, {"w0", "="}, {"w1", "0123456789="}, {"w1234", "="}, {"w1=", "0123456789"},
            {"w1=0", ";"}, {"w1=9", "0123456789;"}, {"w1=999", "0123456789;"}, {"w1=9999", ";"}, {"r", "0123456789"}, {"r0", ";"},
            {"r1", "0123456789;"}, {"r1000", ";"}, {"!", "01"}, {"!0", "01234"}, {"!1", "01234"}, {"!00", ";"}, {"x", "01"},
            {"x0", "0123456789"}, {"x1", "0123456789"}, {"x10", ";"}, {"x01", "0123456789;"}, {"s", ";"}, {"s;", "wr!xs"}, {"r1;", "wr!xs"}};
        BlockRounds x = new BlockRounds();
        for (String[] row : goOn) {
            for (char sign = 33; sign <= 126; sign++) {
                int fault = Due.fault(x, row[0] + sign);
                boolean stands = fault == -6 || fault == row[0].length() + 1;
                due.holds(row[0] + sign, stands == row[1].indexOf(sign) >= 0);
                if (!stands) {
                    due.is(row[0] + sign, row[0].length(), fault);
                }
            }
        }
    }

    private static void promise18Longest() {
        BlockRounds x = new BlockRounds();
        due.is("40 orders", -6, Due.fault(x, "s;".repeat(39) + "s"));
        due.is("80 characters, too early", 80, Due.fault(x, "s;".repeat(40)));
        due.is("80 characters, right", -6, Due.fault(x, "s;".repeat(39) + "r1"));
        due.is("80 characters, the last one wrong", 79, Due.fault(x, "s;".repeat(39) + "ss"));
        due.is("80 characters, carried out", 40, Due.carryOut(x, "s;".repeat(39) + "r1"));
        due.is("w0=0 sixteen times", 16, Due.carryOut(x, "w0=0;".repeat(15) + "w0=12"));
        due.is("its round", 16, x.round(0));
    }

    private static void promise19() {
        BlockRounds x = new BlockRounds();
        due.is("all", 8, Due.carryOut(x, "w1=11;!02;!13;w2=22;r1;x01;s;r15"));
        due.is("the pad is empty", 0, x.count(8));
        BlockRounds y = new BlockRounds();
        y.write(1, 11);
        y.await(0, 2);
        y.await(1, 3);
        y.write(2, 22);
        y.read(1);
        y.wipeOut(0, 1);
        y.scrub();
        y.read(15);
        due.is("as by the calls", Due.drive(y), Due.drive(x));
    }

    private static void promise19Order() {
        BlockRounds x = new BlockRounds();
        Due.carryOut(x, "w7=1234;!14;w7=9999");
        due.is("place, data", 2, x.round(7));
        due.is("side, kind", 0, x.block(1, 7, 2));
        due.is("disk", 9999, x.block(0, 7, 2));
        Due.carryOut(x, "x07");
        due.is("side, place", 2, (x.block(0, 7, 0) == -6 ? 1 : 0) + (x.block(1, 7, 0) == 7 ? 1 : 0));
        due.is("a lost read is no error", 3, Due.carryOut(x, "r7;r7;w8=1"));
        due.is("it is counted", 2, x.count(6));
        due.is("orders behind it", 1, x.round(8));
        due.is("reads so far", 2, x.count(4));
    }

    private static void promise19Stops() {
        BlockRounds x = new BlockRounds();
        due.is("the third one", 2, Due.carryOut(x, "w1=1;w2=2;w16=3;w3=4"));
        due.is("those before it stay", 6, x.places(0));
        due.is("the pad is empty", 0, x.count(8));
        due.is("read", 1, Due.carryOut(x, "r1;r16;w4=1"));
        due.is("wipeOut", 1, Due.carryOut(x, "s;x116;w4=1"));
        due.is("the first one", 0, Due.carryOut(x, "r9999"));
        due.is("nothing behind an error", 6, x.places(0));
        due.is("all are changes", 4, x.count(9));
    }

    private static void promise19OneChange() {
        BlockRounds x = new BlockRounds();
        x.write(0, 1);
        String before = Due.drive(x);
        Due.carryOut(x, "w1=1;w2=2;w3=3;!01;r1;x00;s");
        due.is("one change", 2, x.count(9));
        String behind = Due.drive(x);
        Due.carryOut(x, "r16");
        due.is("also if none is carried out", 3, x.count(9));
        Due.type(x, "s;s");
        due.is("undo", 2, x.undo());
        due.is("nothing was carried out", behind, Due.drive(x));
        due.is("undo", 1, x.undo());
        due.is("all orders", before, Due.drive(x));
        due.is("the pad is not undone", 3, x.count(8));
    }

    private static void promise19Fault() {
        BlockRounds x = new BlockRounds();
        due.refuses(x, "the empty pad", -3, x::carryOut);
        Due.type(x, "w1=1;w2=");
        due.refuses(x, "it ends too early", -3, x::carryOut);
        due.is("nothing is carried out", 0, x.count(3));
        x.put('2');
        due.is("mended", 2, x.carryOut());
        due.is("it is empty again", -3, x.carryOut());
        Due.type(x, "w1=1;q");
        due.refuses(x, "wrong", -3, x::carryOut);
        due.is("it stays", 6, x.wipe());
    }
}
