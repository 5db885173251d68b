/** Promises 1 to 8: a new object, and the changes. */
public final class ChangesTest {
    private static final Due due = new Due("ChangesTest");

    public static void main(String[] args) {
        promise1();
        promise2Answers();
        promise2Empties();
        promise3Rounds();
        promise3Blocks();
        promise3Kinds();
        promise3LastPlace();
        promise3OnePlace();
        promise3Errors();
        promise3MostRound();
        promise4();
        promise4UsedUp();
        promise5();
        promise6();
        promise6Counts();
        promise6Reasons();
        promise7();
        promise7LeavesWhatWaits();
        promise7OverOtherAddress();
        promise8();
        due.end();
    }

    private static void promise1() {
        BlockRounds x = new BlockRounds();
        due.is("new: SIZE", 16, x.count(0));
        for (int what = 1; what <= 9; what++) {
            due.is("new: count " + what, 0, x.count(what));
        }
        for (int what = 0; what <= 5; what++) {
            due.is("new: places " + what, 0, x.places(what));
        }
        for (int place = 0; place < 16; place++) {
            due.is("new: round", 0, x.round(place));
            due.is("new: disk", -6, x.block(0, place, 0));
            due.is("new: mirror", -6, x.block(1, place, 0));
        }
        due.is("new: share", -6, x.share());
        due.is("new: undo", -5, x.undo());
        due.is("new: slot 0", -5, x.restore(0));
        due.is("new: slot 1", -5, x.restore(1));
        due.is("new: fault of the empty pad", 0, x.fault());
        BlockRounds other = new BlockRounds();
        other.write(0, 1);
        due.is("new: objects share nothing", 0, x.round(0));
    }

    private static void promise2Answers() {
        BlockRounds x = new BlockRounds();
        due.is("resize(1)", 16, x.resize(1));
        due.is("resize(32)", 1, x.resize(32));
        due.is("resize(32) again", 32, x.resize(32));
        due.is("SIZE then", 32, x.count(0));
        due.is("it is a change", 3, x.count(9));
        x.write(31, 5);
        due.refuses(x, "resize(0)", -2, () -> x.resize(0));
        due.refuses(x, "resize(33)", -2, () -> x.resize(33));
        due.refuses(x, "resize(-1)", -2, () -> x.resize(-1));
        due.refuses(x, "resize(least)", -2, () -> x.resize(Integer.MIN_VALUE));
        due.refuses(x, "resize(most)", -2, () -> x.resize(Integer.MAX_VALUE));
    }

    private static void promise2Empties() {
        BlockRounds x = new BlockRounds();
        x.await(0, 1);
        x.write(3, 7);
        x.read(3);
        x.mend(3);
        x.await(0, 1);
        x.await(1, 1);
        x.write(4, 7);
        x.read(4);
        x.await(0, 2);
        x.await(1, 3);
        x.save(0);
        Due.type(x, "r1");
        due.is("resize to the same", 16, x.resize(16));
        due.is("all as new", Due.drive(new BlockRounds()), Due.drive(x));
        due.is("the pad stays", 2, x.count(8));
        due.is("the history stays", 6, x.count(9));
        due.is("the slot stays", 2, x.restore(0));
        x.resize(3);
        x.resize(16);
        due.is("nothing comes back behind a smaller SIZE", Due.drive(new BlockRounds()), Due.drive(x));
    }

    private static void promise3Rounds() {
        BlockRounds x = new BlockRounds();
        due.is("write", 1, x.write(0, 0));
        due.is("write", 2, x.write(0, 9999));
        due.is("write", 1, x.write(15, 1));
        due.is("write", 3, x.write(0, 1));
        due.is("writes", 4, x.count(3));
        due.is("undos", 4, x.count(9));
    }

    private static void promise3Blocks() {
        BlockRounds x = new BlockRounds();
        x.write(9, 1);
        x.write(9, 1234);
        for (int side = 0; side <= 1; side++) {
            due.is("address", 9, x.block(side, 9, 0));
            due.is("round", 2, x.block(side, 9, 1));
            due.is("data", 1234, x.block(side, 9, 2));
            due.is("sum", (7 * 9 + 13 * 2 + 1234) % 97, x.block(side, 9, 3));
            due.is("whole", 1, x.block(side, 9, 4));
            due.is("reason", 0, x.block(side, 9, 5));
        }
    }

    /** Place 5 was written once; what lies at 5 and 6 of one side behind a second write with each kind. */
    private static void promise3Kinds() {
        int[][] lies = { // address, round, data at 5; the same at 6
            {5, 2, 80, -6, -6, -6}, {5, 1, 70, -6, -6, -6}, {5, 1, 70, 5, 2, 80}, {5, 2, 80, 5, 2, 80}, {5, 2, 81, -6, -6, -6}};
        int[] whole = {1, 1, 1, 1, 0};
        for (int side = 0; side <= 1; side++) {
            for (int kind = 0; kind <= 4; kind++) {
                BlockRounds x = new BlockRounds();
                x.write(5, 70);
                x.await(side, kind);
                due.is("write with kind " + kind, 2, x.write(5, 80));
                String told = "side " + side + ", kind " + kind;
                for (int what = 0; what < 3; what++) {
                    due.is(told + ", place 5, " + what, lies[kind][what], x.block(side, 5, what));
                    due.is(told + ", place 6, " + what, lies[kind][3 + what], x.block(side, 6, what));
                }
                due.is(told + ", whole", whole[kind], x.block(side, 5, 4));
                int round = lies[kind][1];
                int sumOf = (7 * 5 + 13 * round + (round == 1 ? 70 : 80)) % 97;
                due.is(told + ", sum", sumOf, x.block(side, 5, 3));
                due.is(told + ", the other side", 80, x.block(1 - side, 5, 2));
                due.is(told + ", the other side", -6, x.block(1 - side, 6, 2));
                due.is(told + ", used up", 0, x.count(1 + side));
            }
        }
        BlockRounds x = new BlockRounds();
        x.await(0, 4);
        x.write(2, 9999);
        due.is("9999 rots to 0", 0, x.block(0, 2, 2));
        due.is("its sum stays", (14 + 13 + 9999) % 97, x.block(0, 2, 3));
        due.is("it is not whole", 2, x.block(0, 2, 5));
    }

    private static void promise3LastPlace() {
        for (int size = 2; size <= 32; size++) {
            BlockRounds x = new BlockRounds();
            x.resize(size);
            x.await(0, 2);
            x.await(1, 3);
            x.write(size - 1, 40);
            due.is("strays to 0", size - 1, x.block(0, 0, 0));
            due.is("not to its place", -6, x.block(0, size - 1, 0));
            due.is("twice to 0", size - 1, x.block(1, 0, 0));
            due.is("and to its place", 0, x.block(1, size - 1, 5));
            due.is("0 was not written", 0, x.round(0));
        }
    }

    private static void promise3OnePlace() {
        BlockRounds x = new BlockRounds();
        x.resize(1);
        x.await(0, 2);
        x.await(1, 3);
        x.write(0, 40);
        due.is("strays to itself", 0, x.block(0, 0, 5));
        due.is("twice to itself", 0, x.block(1, 0, 5));
        due.is("read", 40, x.read(0));
    }

    private static void promise3Errors() {
        BlockRounds x = new BlockRounds();
        x.await(0, 1);
        x.await(1, 2);
        due.refuses(x, "write(16, 0)", -1, () -> x.write(16, 0));
        due.refuses(x, "write(-1, 0)", -1, () -> x.write(-1, 0));
        due.refuses(x, "write(16, -1)", -1, () -> x.write(16, -1));
        due.refuses(x, "write(most, 10000)", -1, () -> x.write(Integer.MAX_VALUE, 10000));
        due.refuses(x, "write(least, 0)", -1, () -> x.write(Integer.MIN_VALUE, 0));
        due.refuses(x, "write(0, 10000)", -2, () -> x.write(0, 10000));
        due.refuses(x, "write(0, -1)", -2, () -> x.write(0, -1));
        due.refuses(x, "write(0, least)", -2, () -> x.write(0, Integer.MIN_VALUE));
        x.resize(1);
        due.refuses(x, "write(1, 0)", -1, () -> x.write(1, 0));
    }

    /** No 512 calls reach it, but the document names it. */
    private static void promise3MostRound() {
        BlockRounds x = new BlockRounds();
        for (int round = 1; round <= 999; round++) {
            due.is("write", round, x.write(2, round));
        }
        due.refuses(x, "write above 999", -4, () -> x.write(2, 1));
        due.refuses(x, "bad data first", -2, () -> x.write(2, 10000));
        due.refuses(x, "wouldRead above 999", -4, () -> x.wouldRead(16, 2, 1));
        due.refuses(x, "losing above 999", -4, () -> x.losing(2, 1));
        due.is("an order above 999", 1, Due.carryOut(x, "w3=1;w2=1;w3=2"));
        due.is("the orders behind it", 1, x.round(3));
        due.is("another place", 2, x.write(3, 1));
    }

    private static void promise4() {
        BlockRounds x = new BlockRounds();
        for (int side = 0; side <= 1; side++) {
            due.is("await", 0, x.await(side, 4));
            for (int kind = 3; kind >= 0; kind--) {
                due.is("await", kind + 1, x.await(side, kind));
                due.is("waits", kind, x.count(1 + side));
            }
            x.await(side, 1 + side);
        }
        due.is("disk", 1, x.count(1));
        due.is("mirror", 2, x.count(2));
        due.is("it is a change", 6, x.count(9));
        due.refuses(x, "await(2, 0)", -1, () -> x.await(2, 0));
        due.refuses(x, "await(-1, 0)", -1, () -> x.await(-1, 0));
        due.refuses(x, "await(2, 5)", -1, () -> x.await(2, 5));
        due.refuses(x, "await(0, 5)", -2, () -> x.await(0, 5));
        due.refuses(x, "await(1, -1)", -2, () -> x.await(1, -1));
    }

    private static void promise4UsedUp() {
        BlockRounds x = new BlockRounds();
        x.await(0, 1);
        x.await(1, 2);
        x.read(0);
        x.mend(0);
        x.scrub();
        x.wipeOut(0, 0);
        x.write(16, 1);
        x.losing(0, 1);
        x.wouldRead(0, 0, 1);
        due.is("only a write uses it up", 1, x.count(1));
        due.is("only a write uses it up", 2, x.count(2));
        x.write(0, 5);
        due.is("the disk's is used up", 0, x.count(1));
        due.is("the mirror's is used up", 0, x.count(2));
        x.write(0, 6);
        due.is("the next write finds nothing", 6, x.read(0));
    }

    private static void promise5() {
        BlockRounds x = new BlockRounds();
        x.write(15, 8);
        due.is("wipeOut", 1, x.wipeOut(1, 15));
        due.is("mirror", -6, x.block(1, 15, 0));
        due.is("disk", 15, x.block(0, 15, 0));
        due.is("wipeOut", 0, x.wipeOut(1, 15));
        due.is("wipeOut", 1, x.wipeOut(0, 15));
        due.is("the index stays", 1, x.round(15));
        due.is("it is lost", -6, x.read(15));
        due.is("it is a change, also if nothing lay there", 5, x.count(9));
        due.refuses(x, "wipeOut(2, 0)", -1, () -> x.wipeOut(2, 0));
        due.refuses(x, "wipeOut(-1, 0)", -1, () -> x.wipeOut(-1, 0));
        due.refuses(x, "wipeOut(0, 16)", -1, () -> x.wipeOut(0, 16));
        due.refuses(x, "wipeOut(1, -1)", -1, () -> x.wipeOut(1, -1));
        x.await(0, 2);
        x.write(3, 1);
        due.is("a stray block is wiped out, too", 1, x.wipeOut(0, 4));
        due.is("none is astray", 0, x.places(5));
    }

    private static void promise6() {
        BlockRounds x = new BlockRounds();
        due.is("never written", 0, x.read(0));
        due.is("it is a change", 1, x.count(9));
        x.write(0, 4321);
        due.is("read", 4321, x.read(0));
        x.wipeOut(0, 0);
        due.is("from the mirror", 4321, x.read(0));
        due.is("reading does not mend", -6, x.block(0, 0, 0));
        x.wipeOut(1, 0);
        due.is("lost", -6, x.read(0));
        due.is("a lost read is a change", 6, x.count(9));
        x.undo();
        due.is("which is undone", 0, x.count(6));
        due.is("undo of reads", 3, x.count(4));
        due.refuses(x, "read(16)", -1, () -> x.read(16));
        due.refuses(x, "read(-1)", -1, () -> x.read(-1));
    }

    private static void promise6Counts() {
        BlockRounds x = new BlockRounds();
        x.await(0, 2);
        x.write(1, 5);
        x.read(2);
        due.is("never written: reads", 1, x.count(4));
        due.is("never written: the mirror is not asked", 0, x.count(5));
        due.is("never written: not lost", 0, x.count(6));
        x.read(1);
        due.is("reads", 2, x.count(4));
        due.is("the mirror is asked", 1, x.count(5));
        due.is("not lost", 0, x.count(6));
        x.wipeOut(1, 1);
        x.read(1);
        due.is("reads", 3, x.count(4));
        due.is("the mirror is asked", 2, x.count(5));
        due.is("lost", 1, x.count(6));
        x.write(1, 6);
        x.read(1);
        x.read(-1);
        due.is("reads", 4, x.count(4));
        due.is("the disk was enough", 2, x.count(5));
        due.is("lost", 1, x.count(6));
    }

    /** The disk's block is not believed for each reason; the mirror's one is read. */
    private static void promise6Reasons() {
        BlockRounds x = new BlockRounds();
        x.write(1, 10);
        x.wipeOut(0, 1);
        x.await(0, 4);
        x.write(2, 20);
        x.write(4, 39);
        x.await(0, 2);
        x.write(3, 30);
        x.write(5, 49);
        x.await(0, 1);
        x.write(5, 50);
        for (int reason = 1; reason <= 4; reason++) {
            int place = reason == 4 ? 5 : reason == 3 ? 4 : reason;
            due.is("reason", reason, x.block(0, place, 5));
            due.is("read", reason == 3 ? 39 : place * 10, x.read(place));
        }
        due.is("the mirror was asked", 4, x.count(5));
        // first reasons come first: a rotten block of another address, and of another round
        x.write(7, 1);
        x.await(0, 4);
        x.write(7, 1);
        x.await(0, 1);
        x.write(7, 1);
        due.is("not whole, and of another round", 2, x.block(0, 7, 5));
        x.write(9, 1);
        x.await(0, 2);
        x.write(8, 1);
        x.write(8, 1);
        x.await(0, 2);
        x.write(8, 1);
        due.is("of another address, and another round", 3, x.block(0, 9, 5));
    }

    private static void promise7() {
        BlockRounds x = new BlockRounds();
        due.is("never written", 0, x.mend(0));
        x.write(0, 5);
        due.is("both believed", 0, x.mend(0));
        x.wipeOut(0, 0);
        due.is("the disk is mended", 1, x.mend(0));
        x.wipeOut(1, 0);
        due.is("the mirror is mended", 2, x.mend(0));
        for (int side = 0; side <= 1; side++) {
            due.is("address", 0, x.block(side, 0, 0));
            due.is("round", 1, x.block(side, 0, 1));
            due.is("data", 5, x.block(side, 0, 2));
            due.is("sum", 18, x.block(side, 0, 3));
            due.is("reason", 0, x.block(side, 0, 5));
        }
        x.wipeOut(0, 0);
        x.wipeOut(1, 0);
        due.is("neither is believed", 0, x.mend(0));
        due.is("mended so far", 2, x.count(7));
        x.resize(16);
        x.mend(0);
        due.is("it is a change, also if nothing is mended", 6, x.count(9));
        x.undo();
        due.is("it is a change", 5, x.count(9));
        due.refuses(x, "mend(16)", -1, () -> x.mend(16));
        due.refuses(x, "mend(-1)", -1, () -> x.mend(-1));
    }

    private static void promise7LeavesWhatWaits() {
        BlockRounds x = new BlockRounds();
        x.write(0, 5);
        x.wipeOut(1, 0);
        x.await(1, 1);
        due.is("mended all the same", 2, x.mend(0));
        due.is("it lies there", 5, x.block(1, 0, 2));
        due.is("mending is no write", 1, x.count(2));
        due.is("nor counted as one", 1, x.count(3));
        due.is("nor as a read", 0, x.count(4));
    }

    private static void promise7OverOtherAddress() {
        BlockRounds x = new BlockRounds();
        x.write(1, 11);
        x.await(1, 3);
        x.write(0, 10);
        due.is("astray", 2, x.places(5));
        due.is("mend", 2, x.mend(1));
        due.is("none is astray", 0, x.places(5));
        due.is("data", 11, x.block(1, 1, 2));
        due.is("address", 1, x.block(1, 1, 0));
        due.is("sum", 31, x.block(1, 1, 3));
    }

    private static void promise8() {
        BlockRounds x = new BlockRounds();
        x.resize(32);
        due.is("nothing was written", 0, x.scrub());
        x.write(0, 1);
        x.write(31, 2);
        x.write(7, 3);
        x.write(8, 4);
        x.wipeOut(0, 0);
        x.wipeOut(1, 31);
        x.wipeOut(0, 7);
        x.wipeOut(1, 7);
        x.await(0, 2);
        x.await(1, 2);
        x.write(20, 5);
        due.is("two are mended", 2, x.scrub());
        due.is("the disk", 1, x.block(0, 0, 2));
        due.is("the mirror", 2, x.block(1, 31, 2));
        due.is("the lost one stays so", 1L << 7 | 1L << 20, x.places(3));
        due.is("a ghost in a place never written stays", 1L << 21, x.places(5));
        due.is("mended so far", 2, x.count(7));
        due.is("nothing is left to mend", 0, x.scrub());
        x.undo();
        x.undo();
        due.is("one change", 0, x.count(7));
        due.is("undone", 1L | 1L << 31, x.places(4));
    }
}
