/** Promises 9 to 15: what there is, and what if. */
public final class LooksTest {
    private static final Due due = new Due("LooksTest");

    public static void main(String[] args) {
        promise9();
        promise9Errors();
        promise10();
        promise11();
        promise12();
        promise13();
        promise14();
        promise14Errors();
        promise15();
        promise15LostAlready();
        promise15Errors();
        due.end();
    }

    private static void promise9() {
        BlockRounds x = new BlockRounds();
        for (int what = 0; what <= 3; what++) {
            due.is("nothing lies there", -6, x.block(0, 0, what));
        }
        due.is("nothing is not whole", 0, x.block(0, 0, 4));
        due.is("never written", -6, x.block(0, 0, 5));
        x.await(0, 3);
        x.write(0, 77);
        due.is("a ghost's address", 0, x.block(0, 1, 0));
        due.is("a ghost's round", 1, x.block(0, 1, 1));
        due.is("a ghost's data", 77, x.block(0, 1, 2));
        due.is("a ghost's sum", 90, x.block(0, 1, 3));
        due.is("a ghost is whole", 1, x.block(0, 1, 4));
        due.is("its place was never written", -6, x.block(0, 1, 5));
        x.await(0, 1);
        x.await(1, 4);
        x.write(1, 5);
        due.is("another address", 3, x.block(0, 1, 5));
        due.is("not whole", 2, x.block(1, 1, 5));
        due.is("not whole", 0, x.block(1, 1, 4));
        x.wipeOut(0, 1);
        due.is("nothing lies there", 1, x.block(0, 1, 5));
        due.is("believed", 0, x.block(0, 0, 5));
        x.await(0, 1);
        x.write(0, 78);
        due.is("another round", 4, x.block(0, 0, 5));
        due.is("believed", 0, x.block(1, 0, 5));
        due.is("undos", 6, x.count(9));
    }

    private static void promise9Errors() {
        BlockRounds x = new BlockRounds();
        due.is("side", -1, x.block(2, 0, 0));
        due.is("side", -1, x.block(-1, 0, 0));
        due.is("place", -1, x.block(0, 16, 0));
        due.is("place", -1, x.block(1, -1, 0));
        due.is("side and what", -1, x.block(2, 0, 6));
        due.is("place and what", -1, x.block(0, 16, -1));
        due.is("what", -2, x.block(0, 0, 6));
        due.is("what", -2, x.block(1, 15, -1));
        due.is("what", -2, x.block(1, 15, Integer.MAX_VALUE));
        due.is("no change", 0, x.count(9));
    }

    private static void promise10() {
        BlockRounds x = new BlockRounds();
        x.write(15, 1);
        x.await(0, 1);
        x.await(1, 1);
        x.write(15, 1);
        due.is("lost writes count", 2, x.round(15));
        x.wipeOut(0, 15);
        due.is("the index is always right", 2, x.round(15));
        due.is("never written", 0, x.round(0));
        due.is("round(16)", -1, x.round(16));
        due.is("round(-1)", -1, x.round(-1));
        x.resize(15);
        due.is("round(15)", -1, x.round(15));
    }

    private static void promise11() {
        BlockRounds x = new BlockRounds();
        x.resize(32);
        x.write(0, 1);
        x.write(31, 2);
        due.is("written", 1L | 1L << 31, x.places(0));
        due.is("disk believed", 1L | 1L << 31, x.places(1));
        due.is("mirror believed", 1L | 1L << 31, x.places(2));
        due.is("lost", 0, x.places(3));
        due.is("can be mended", 0, x.places(4));
        due.is("of another address", 0, x.places(5));
        x.wipeOut(0, 31);
        due.is("disk believed", 1, x.places(1));
        due.is("mirror believed", 1L | 1L << 31, x.places(2));
        due.is("can be mended", 1L << 31, x.places(4));
        x.wipeOut(1, 31);
        due.is("lost", 1L << 31, x.places(3));
        due.is("can't be mended", 0, x.places(4));
        x.await(1, 2);
        x.write(30, 9);
        due.is("written", 1L | 3L << 30, x.places(0));
        due.is("disk believed", 1L | 1L << 30, x.places(1));
        due.is("mirror believed", 1, x.places(2));
        due.is("lost", 1L << 31, x.places(3));
        due.is("can be mended", 1L << 30, x.places(4));
        due.is("of another address, on the mirror", 1L << 31, x.places(5));
        x.await(0, 3);
        x.write(10, 9);
        due.is("of another address, on the disk, never written", 1L << 31 | 1L << 11, x.places(5));
        due.is("places(6)", -2, x.places(6));
        due.is("places(-1)", -2, x.places(-1));
        due.is("places(most)", -2, x.places(Integer.MAX_VALUE));
    }

    private static void promise12() {
        BlockRounds x = new BlockRounds();
        x.resize(20);
        x.write(1, 1);
        x.write(2, 2);
        x.write(3, 3);
        x.wipeOut(0, 1);
        x.wipeOut(0, 2);
        x.wipeOut(0, 3);
        x.mend(1);
        for (int i = 0; i < 5; i++) {
            x.read(2);
        }
        x.wipeOut(1, 2);
        x.read(2);
        x.read(2);
        x.await(0, 4);
        x.await(1, 3);
        Due.type(x, "w1=2;r");
        long[] due12 = {20, 4, 3, 3, 7, 7, 2, 1, 6, 6};
        for (int what = 0; what <= 9; what++) {
            due.is("count(" + what + ")", due12[what], x.count(what));
        }
        due.is("count(10)", -2, x.count(10));
        due.is("count(-1)", -2, x.count(-1));
        due.is("count(least)", -2, x.count(Integer.MIN_VALUE));
        x.wipe();
        x.undo();
        due.is("the mirror's", 0, x.count(2));
        due.is("the pad", 0, x.count(8));
        due.is("the history", 5, x.count(9));
    }

    /** Every share that there can be. */
    private static void promise13() {
        for (int all = 1; all <= 32; all++) {
            BlockRounds x = new BlockRounds();
            x.resize(32);
            due.is("none was written", -6, x.share());
            for (int place = 0; place < all; place++) {
                x.write(place, place);
                x.wipeOut(place & 1, place);
            }
            for (int readable = all; readable >= 0; readable--) {
                due.is(readable + " of " + all, Float.floatToIntBits((float) readable / (float) all), x.share());
                if (readable > 0) {
                    x.wipeOut(readable & 1, readable - 1);
                }
            }
        }
    }

    private static void promise14() {
        BlockRounds x = new BlockRounds();
        String before = Due.seen(x);
        due.is("the other one, never written", 0, x.wouldRead(3, 4, 50));
        due.is("the same one", 50, x.wouldRead(4, 4, 50));
        due.is("nothing changes", before, Due.seen(x));
        x.write(4, 7);
        x.wipeOut(0, 4);
        due.is("from the mirror", 7, x.wouldRead(4, 3, 50));
        x.await(1, 2);
        before = Due.seen(x);
        due.is("its ghost strikes the last good one", -6, x.wouldRead(4, 3, 50));
        due.is("what is written can be read", 50, x.wouldRead(3, 3, 50));
        due.is("overwritten itself", 60, x.wouldRead(4, 4, 60));
        due.is("nothing changes", before, Due.seen(x));
        x.await(0, 4);
        due.is("lost itself", -6, x.wouldRead(4, 4, 60));
        x.wipeOut(1, 4);
        x.await(0, 0);
        due.is("lost already", -6, x.wouldRead(4, 3, 50));
    }

    private static void promise14Errors() {
        BlockRounds x = new BlockRounds();
        due.refuses(x, "written", -1, () -> x.wouldRead(0, 16, 0));
        due.refuses(x, "written", -1, () -> x.wouldRead(0, -1, 0));
        due.refuses(x, "written, data", -1, () -> x.wouldRead(0, 16, 10000));
        due.refuses(x, "data", -2, () -> x.wouldRead(0, 0, 10000));
        due.refuses(x, "data", -2, () -> x.wouldRead(0, 0, -1));
        due.refuses(x, "data before the place read", -2, () -> x.wouldRead(16, 0, -1));
        due.refuses(x, "place read", -1, () -> x.wouldRead(16, 0, 0));
        due.refuses(x, "place read", -1, () -> x.wouldRead(-1, 0, 9999));
    }

    private static void promise15() {
        BlockRounds x = new BlockRounds();
        due.is("a place never written", 1 << 1 | 1 << 2 | 1 << 4, x.losing(0, 5));
        x.write(1, 5);
        x.await(0, 4);
        x.await(1, 4);
        String before = Due.seen(x);
        due.is("its next one, too", 1 << 1 | 1 << 2 | 1 << 3 | 1 << 4, x.losing(0, 5));
        due.is("whatever waits now", before, Due.seen(x));
        due.is("the one behind was never written", 1 << 1 | 1 << 2 | 1 << 4, x.losing(1, 9999));
        x.resize(1);
        due.is("one place: a stray block is at home", 1 << 1 | 1 << 4, x.losing(0, 0));
        x.resize(32);
        x.write(0, 3);
        due.is("behind the last one", 1 << 1 | 1 << 2 | 1 << 3 | 1 << 4, x.losing(31, 0));
    }

    private static void promise15LostAlready() {
        BlockRounds x = new BlockRounds();
        x.write(3, 1);
        x.wipeOut(0, 3);
        due.is("one side is enough", 1 << 1 | 1 << 2 | 1 << 4, x.losing(3, 1));
        x.wipeOut(1, 3);
        due.is("it is lost now", 0, x.losing(3, 1));
        x.write(4, 1);
        due.is("it is lost now, its next one not", 1 << 2 | 1 << 3, x.losing(3, 1));
        x.wipeOut(0, 4);
        due.is("the next one's last block", 1 << 2 | 1 << 3, x.losing(3, 1));
        x.wipeOut(1, 4);
        due.is("both are lost now", 0, x.losing(3, 1));
    }

    private static void promise15Errors() {
        BlockRounds x = new BlockRounds();
        due.refuses(x, "place", -1, () -> x.losing(16, 0));
        due.refuses(x, "place", -1, () -> x.losing(-1, 0));
        due.refuses(x, "place, data", -1, () -> x.losing(16, 10000));
        due.refuses(x, "data", -2, () -> x.losing(0, 10000));
        due.refuses(x, "data", -2, () -> x.losing(0, -1));
    }
}
