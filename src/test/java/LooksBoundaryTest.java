/** The boundary cases of promises 9 to 15. */
public final class LooksBoundaryTest {
    private static final Due due = new Due("LooksBoundaryTest");
    private static final int LOSE = 1, STRAY = 2, TWICE = 3, ROT = 4;
    private static final long ALL = 4294967295L;

    public static void main(String[] args) {
        promise9What0To5();
        promise9NothingLiesThere();
        promise9Whole();
        promise9NeverWritten();
        promise10NeverWrittenIs0();
        promise10AlwaysRight();
        promise10NoSuchPlace();
        promise11What0To5();
        promise11NoneAndAll();
        promise11LostAndMendable();
        promise11NeverWrittenIsNotLost();
        promise11OfAnotherAddress();
        promise12What0To9();
        promise12EachCountFrom0To1();
        promise12ReadsForWhichTheMirrorWasAsked();
        promise12RefusedCallsAreNotCounted();
        promise12OrdersAreCounted();
        promise13NoneAndAll();
        promise13EachShare();
        promise14NeverWrittenIs0();
        promise14TheWrittenPlaceItself();
        promise14TheNextPlace();
        promise14WhatWaitsNow();
        promise14Data0To9999();
        promise14TheRound999();
        promise14NothingChanges();
        promise15Kinds1To4();
        promise15NotLostNow();
        promise15WhateverWaitsNow();
        promise15BehindTheLastPlace();
        promise15Data0To9999();
        promise15TheRound999();
        promise15NothingChanges();
        due.end();
    }

    /** "what: 0 ... 5", "BAD_VALUE if what is out of range". */
    private static void promise9What0To5() {
        due.about("promise 9, what 0 to 5");
        BlockRounds x = new BlockRounds();
        x.await(1, ROT);
        x.write(15, 500);
        int sum = (7 * 15 + 13 + 500) % 97;
        int[] disk = {15, 1, 500, sum, 1, 0};
        int[] mirror = {15, 1, 501, sum, 0, 2};
        for (int what : new int[] {-2, -1, 0, 1, 2, 3, 4, 5, 6, 7, Integer.MIN_VALUE, Integer.MAX_VALUE}) {
            boolean right = what >= 0 && what <= 5;
            due.is("disk, " + what, right ? disk[what] : -2, x.block(0, 15, what));
            due.is("mirror, " + what, right ? mirror[what] : -2, x.block(1, 15, what));
            due.is("nothing lies there, " + what, !right ? -2 : what == 4 ? 0 : -6, x.block(0, 14, what));
        }
    }

    /** "0 to 3: NONE if nothing lies there": never written, lost, strayed away, wiped out; then a block with 0 in it. */
    private static void promise9NothingLiesThere() {
        due.about("promise 9, nothing lies there");
        for (int side = 0; side <= 1; side++) {
            for (int way = 0; way <= 3; way++) {
                BlockRounds x = new BlockRounds();
                x.await(side, way == 1 ? LOSE : way == 2 ? STRAY : 0);
                if (way > 0) {
                    x.write(0, 0);
                }
                if (way == 3) {
                    x.wipeOut(side, 0);
                }
                for (int what = 0; what <= 3; what++) {
                    due.is("way " + way + ", " + what, -6, x.block(side, 0, what));
                }
                due.is("way " + way + ", not whole", 0, x.block(side, 0, 4));
                due.is("way " + way + ", its reason", way == 0 ? -6 : 1, x.block(side, 0, 5));
                x.write(0, 0);
                due.is("address 0", 0, x.block(side, 0, 0));
                due.is("round", way == 0 ? 1 : 2, x.block(side, 0, 1));
                due.is("data 0", 0, x.block(side, 0, 2));
                due.is("sum", way == 0 ? 13 : 26, x.block(side, 0, 3));
            }
        }
        BlockRounds x = new BlockRounds();
        x.write(0, 84);
        due.is("sum 0", 0, x.block(0, 0, 3));
    }

    /** "4 whether it is whole (1 or 0)": a ghost and an old block are whole, also in a place that was never written. */
    private static void promise9Whole() {
        due.about("promise 9, whole");
        BlockRounds x = new BlockRounds();
        due.is("nothing lies there", 0, x.block(0, 0, 4));
        x.await(0, TWICE);
        x.await(1, ROT);
        x.write(0, 9999);
        due.is("written", 1, x.block(0, 0, 4));
        due.is("a ghost", 1, x.block(0, 1, 4));
        due.is("rotten", 0, x.block(1, 0, 4));
        x.await(0, LOSE);
        x.write(0, 1);
        due.is("an old one", 1, x.block(0, 0, 4));
        due.is("the rotten one is written over", 1, x.block(1, 0, 4));
    }

    /** "5 the reason against it (0 to 4; NONE if the place was never written)": also if a block lies there. */
    private static void promise9NeverWritten() {
        due.about("promise 9, never written");
        BlockRounds x = new BlockRounds();
        due.is("nothing lies there", -6, x.block(0, 1, 5));
        x.await(0, TWICE);
        x.write(0, 1);
        due.is("a ghost lies there", -6, x.block(0, 1, 5));
        due.is("nothing on the mirror", -6, x.block(1, 1, 5));
        x.await(0, LOSE);
        x.await(1, LOSE);
        x.write(1, 1);
        due.is("written: the ghost", 3, x.block(0, 1, 5));
        due.is("written: nothing", 1, x.block(1, 1, 5));
        x.undo();
        due.is("undone", -6, x.block(0, 1, 5));
    }

    /** "The index tells ... (0: it was never written)". */
    private static void promise10NeverWrittenIs0() {
        due.about("promise 10, never written");
        BlockRounds x = new BlockRounds();
        for (int place = 0; place < 16; place++) {
            due.is("round " + place, 0, x.round(place));
        }
        x.await(0, TWICE);
        x.write(15, 1);
        due.is("a ghost lies there", 0, x.round(0));
        due.is("written", 1, x.round(15));
        x.undo();
        due.is("undone", 0, x.round(15));
    }

    /** "and is always right": whatever becomes of the blocks. */
    private static void promise10AlwaysRight() {
        due.about("promise 10, always right");
        BlockRounds x = new BlockRounds();
        for (int kind = 0; kind <= 4; kind++) {
            x.await(0, kind);
            x.await(1, kind);
            x.write(5, 1);
            due.is("behind kind " + kind, kind + 1, x.round(5));
        }
        x.wipeOut(0, 5);
        x.wipeOut(1, 5);
        x.mend(5);
        x.scrub();
        x.read(5);
        due.is("behind the other changes", 5, x.round(5));
        due.is("the next place", 0, x.round(6));
    }

    /** "NO_SUCH if there is no such place." */
    private static void promise10NoSuchPlace() {
        due.about("promise 10, no such place");
        for (int size = 1; size <= 32; size++) {
            BlockRounds x = new BlockRounds();
            x.resize(size);
            due.is("-1 of " + size, -1, x.round(-1));
            due.is("0 of " + size, 0, x.round(0));
            due.is("the last one of " + size, 0, x.round(size - 1));
            due.is("SIZE of " + size, -1, x.round(size));
        }
    }

    /** "what: 0 ... 5", "-2 if what is out of range." */
    private static void promise11What0To5() {
        due.about("promise 11, what 0 to 5");
        BlockRounds x = new BlockRounds();
        x.write(0, 1);
        x.write(1, 1);
        x.wipeOut(0, 1);
        x.write(2, 1);
        x.wipeOut(1, 2);
        x.write(3, 1);
        x.wipeOut(0, 3);
        x.wipeOut(1, 3);
        x.await(0, TWICE);
        x.write(4, 1);
        long[] sets = {31, 1 + 4 + 16, 1 + 2 + 16, 8, 2 + 4, 32};
        for (int what : new int[] {-2, -1, 0, 1, 2, 3, 4, 5, 6, 7, Integer.MIN_VALUE, Integer.MAX_VALUE}) {
            due.is("places(" + what + ")", what >= 0 && what <= 5 ? sets[what] : -2, x.places(what));
        }
    }

    /** Each set empty, with the first place alone, with the last one alone, and with all 32. */
    private static void promise11NoneAndAll() {
        for (int what = 0; what <= 5; what++) {
            due.about("promise 11, none and all, places(" + what + ")");
            due.is("none", 0, sized32().places(what));
            due.is("the first one", what == 5 ? 2 : 1, into(sized32(), what, 0).places(what));
            due.is("the last one", what == 5 ? 1 : 1L << 31, into(sized32(), what, 31).places(what));
            BlockRounds x = sized32();
            for (int place = 0; place < 32; place++) {
                into(x, what, what == 5 ? 31 - place : place);
            }
            due.is("all", what == 5 ? ALL - 1 : ALL, x.places(what));
            x.resize(32);
            due.is("none again", 0, x.places(what));
        }
        due.about("promise 11, all are of another address");
        BlockRounds x = sized32();
        for (int place = 31; place >= 0; place--) {
            x.await(0, STRAY);
            x.write(place, 1);
        }
        due.is("on the disk", ALL, x.places(5));
    }

    private static BlockRounds sized32() {
        BlockRounds x = new BlockRounds();
        x.resize(32);
        return x;
    }

    /** Brings a place into a set; for the set 5, the one 1 higher. */
    private static BlockRounds into(BlockRounds x, int what, int place) {
        if (what == 5) {
            x.await(1, TWICE);
        }
        x.write(place, 1);
        if (what == 2 || what == 3 || what == 4) {
            x.wipeOut(0, place);
        }
        if (what == 1 || what == 3) {
            x.wipeOut(1, place);
        }
        return x;
    }

    /** "3 those that are lost (written, and neither is believed), 4 those that can be mended": neither, one, the other, both. */
    private static void promise11LostAndMendable() {
        due.about("promise 11, lost, and can be mended");
        int[] kinds = {0, LOSE, STRAY, ROT};
        for (int disk : kinds) {
            for (int mirror : kinds) {
                BlockRounds x = new BlockRounds();
                x.await(0, disk);
                x.await(1, mirror);
                x.write(15, 1);
                String told = "kinds " + disk + " and " + mirror;
                due.is(told + ", disk", disk == 0 ? 1 << 15 : 0, x.places(1));
                due.is(told + ", mirror", mirror == 0 ? 1 << 15 : 0, x.places(2));
                due.is(told + ", lost", disk != 0 && mirror != 0 ? 1 << 15 : 0, x.places(3));
                due.is(told + ", can be mended", (disk == 0) != (mirror == 0) ? 1 << 15 : 0, x.places(4));
                x.mend(15);
                due.is(told + ", mended", 0, x.places(4));
            }
        }
    }

    /** "(written, and neither is believed)": a place that was never written is in no set but the one of other addresses. */
    private static void promise11NeverWrittenIsNotLost() {
        due.about("promise 11, never written");
        BlockRounds x = new BlockRounds();
        x.await(0, TWICE);
        x.await(1, TWICE);
        x.write(15, 1);
        for (int what = 0; what <= 5; what++) {
            due.is("places(" + what + ")", what <= 2 ? 1 << 15 : what == 5 ? 1 : 0, x.places(what));
        }
    }

    /** "5 those in which a block of another address lies, on the disk or the mirror": one, the other, both, written over. */
    private static void promise11OfAnotherAddress() {
        due.about("promise 11, of another address");
        for (int sides = 1; sides <= 3; sides++) {
            BlockRounds x = new BlockRounds();
            x.write(0, 5);
            x.await(0, (sides & 1) == 1 ? TWICE : 0);
            x.await(1, (sides & 2) == 2 ? TWICE : 0);
            x.write(15, 6);
            due.is("sides " + sides, 1, x.places(5));
            x.mend(0);
            due.is("sides " + sides + ", mended", sides == 3 ? 1 : 0, x.places(5));
            x.wipeOut(0, 0);
            due.is("sides " + sides + ", the disk wiped out", sides == 3 ? 1 : 0, x.places(5));
            x.wipeOut(1, 0);
            due.is("sides " + sides + ", both wiped out", 0, x.places(5));
        }
        BlockRounds x = new BlockRounds();
        x.resize(1);
        x.await(0, STRAY);
        x.await(1, TWICE);
        x.write(0, 1);
        due.is("one place: it is at home", 0, x.places(5));
    }

    /** "what: 0 ... 9", "BAD_VALUE if what is out of range." */
    private static void promise12What0To9() {
        due.about("promise 12, what 0 to 9");
        BlockRounds x = new BlockRounds();
        for (int i = 0; i < 10; i++) {
            x.write(0, i);
        }
        x.wipeOut(0, 0);
        x.mend(0);
        x.wipeOut(1, 0);
        x.mend(0);
        x.wipeOut(0, 0);
        for (int i = 0; i < 4; i++) {
            x.read(0);
        }
        x.wipeOut(1, 0);
        for (int i = 0; i < 3; i++) {
            x.read(0);
        }
        x.read(1);
        x.await(1, STRAY);
        x.await(0, TWICE);
        Due.type(x, "w1=1;w2=2");
        int[] counts = {16, 3, 2, 10, 8, 7, 3, 2, 9, 6};
        for (int what : new int[] {-2, -1, 0, 1, 2, 3, 4, 5, 6, 7, 8, 9, 10, 11, Integer.MIN_VALUE, Integer.MAX_VALUE}) {
            due.is("count(" + what + ")", what >= 0 && what <= 9 ? counts[what] : -2, x.count(what));
        }
    }

    /** "writes so far", "reads so far" and the others: each goes from 0 to 1 by its own call, and back by undo. */
    private static void promise12EachCountFrom0To1() {
        due.about("promise 12, from 0 to 1");
        BlockRounds x = new BlockRounds();
        x.write(0, 1);
        counts(x, "write", 16, 0, 0, 1, 0, 0, 0, 0, 0, 1);
        x.read(0);
        counts(x, "read", 16, 0, 0, 1, 1, 0, 0, 0, 0, 2);
        x.wipeOut(0, 0);
        x.read(0);
        counts(x, "read of the mirror", 16, 0, 0, 1, 2, 1, 0, 0, 0, 4);
        x.mend(0);
        counts(x, "mend", 16, 0, 0, 1, 2, 1, 0, 1, 0, 5);
        x.undo();
        counts(x, "undo", 16, 0, 0, 1, 2, 1, 0, 0, 0, 4);
        x.wipeOut(1, 0);
        x.read(0);
        counts(x, "lost read", 16, 0, 0, 1, 3, 2, 1, 0, 0, 6);
        x.put('s');
        x.await(0, LOSE);
        counts(x, "put, await", 16, 1, 0, 1, 3, 2, 1, 0, 1, 6);
        x.await(1, ROT);
        counts(x, "await", 16, 1, 4, 1, 3, 2, 1, 0, 1, 6);
    }

    private static void counts(BlockRounds x, String behind, int... counts) {
        for (int what = 0; what < counts.length; what++) {
            due.is("count(" + what + ") behind " + behind, counts[what], x.count(what));
        }
    }

    /** "5 reads for which the mirror was asked, so far (also those that were lost)". */
    private static void promise12ReadsForWhichTheMirrorWasAsked() {
        due.about("promise 12, the mirror was asked");
        BlockRounds x = new BlockRounds();
        x.read(0);
        due.is("never written", 0, x.count(5));
        x.write(0, 1);
        x.read(0);
        due.is("the disk is believed", 0, x.count(5));
        x.wipeOut(1, 0);
        x.read(0);
        due.is("the mirror's is gone, the disk is believed", 0, x.count(5));
        x.mend(0);
        x.wipeOut(0, 0);
        x.read(0);
        due.is("the mirror is believed", 1, x.count(5));
        due.is("not lost", 0, x.count(6));
        x.wipeOut(1, 0);
        x.read(0);
        due.is("also lost", 2, x.count(5));
        due.is("lost", 1, x.count(6));
    }

    /** "writes so far", "reads so far", "places that were mended, so far": refused calls, what-ifs and mend without effect are none. */
    private static void promise12RefusedCallsAreNotCounted() {
        due.about("promise 12, not counted");
        BlockRounds x = new BlockRounds();
        x.write(16, 1);
        x.write(0, 10000);
        x.read(16);
        x.read(-1);
        x.mend(0);
        x.mend(16);
        x.scrub();
        x.wouldRead(0, 0, 1);
        x.losing(0, 1);
        x.block(0, 0, 2);
        Due.carryOut(x, "w16=1;s");
        Due.carryOut(x, "r16;s");
        for (int what = 3; what <= 7; what++) {
            due.is("count(" + what + ")", 0, x.count(what));
        }
    }

    /** Orders write, read and mend as the calls do: each is counted. */
    private static void promise12OrdersAreCounted() {
        due.about("promise 12, orders are counted");
        BlockRounds x = new BlockRounds();
        due.is("carryOut", 10, Due.carryOut(x, "w0=1;w1=2;x00;x11;r0;r1;r2;s;!03;!12"));
        counts(x, "a text", 16, 3, 2, 2, 3, 1, 0, 2, 0, 1);
    }

    /** "NONE if none was written."; 0 of one, one of one. */
    private static void promise13NoneAndAll() {
        due.about("promise 13, none and all");
        BlockRounds x = new BlockRounds();
        due.is("none was written", -6, x.share());
        x.await(0, LOSE);
        x.await(1, STRAY);
        x.write(0, 1);
        due.is("none of one", 0, x.share());
        x.write(0, 1);
        due.is("one of one", 0x3F800000, x.share());
        x.undo();
        x.undo();
        due.is("undone", -6, x.share());
        x.resize(32);
        for (int place = 0; place < 32; place++) {
            x.write(place, 1);
        }
        due.is("all of 32", 0x3F800000, x.share());
        x.wipeOut(0, 31);
        due.is("from the mirror", 0x3F800000, x.share());
        x.wipeOut(1, 31);
        due.is("31 of 32", 0x3F780000, x.share());
        x.resize(32);
        due.is("none was written", -6, x.share());
    }

    /** "the bits, as Float.floatToIntBits tells them, of how many these are, as a float, divided by all, as a float." */
    private static void promise13EachShare() {
        due.about("promise 13, each share");
        for (int all = 1; all <= 32; all++) {
            BlockRounds x = sized32();
            for (int place = 0; place < all; place++) {
                x.write(place, 1);
            }
            for (int lost = 0; lost <= all; lost++) {
                due.is(all - lost + " of " + all, Float.floatToIntBits((float) (all - lost) / (float) all), x.share());
                if (lost < all) {
                    x.await(0, ROT);
                    x.await(1, ROT);
                    x.write(lost, 1);
                }
            }
        }
    }

    /** A place that was never written reads 0 behind a write to another one, also if its ghost falls there. */
    private static void promise14NeverWrittenIs0() {
        due.about("promise 14, never written");
        BlockRounds x = new BlockRounds();
        due.is("another place", 0, x.wouldRead(15, 0, 5));
        x.await(0, STRAY);
        x.await(1, TWICE);
        due.is("ghosts fall there", 0, x.wouldRead(0, 15, 5));
        due.is("and not elsewhere", 0, x.wouldRead(1, 15, 5));
        due.is("the mirror keeps it", 5, x.wouldRead(15, 15, 5));
    }

    /** The written place itself: with each pair of kinds that wait. */
    private static void promise14TheWrittenPlaceItself() {
        for (int disk = 0; disk <= 4; disk++) {
            for (int mirror = 0; mirror <= 4; mirror++) {
                for (int place : new int[] {0, 7, 15}) {
                    due.about("promise 14, place " + place + ", kinds " + disk + " and " + mirror);
                    BlockRounds x = new BlockRounds();
                    x.write(place, 10);
                    x.await(0, disk);
                    x.await(1, mirror);
                    boolean good = disk == 0 || disk == TWICE || mirror == 0 || mirror == TWICE;
                    due.is("wouldRead", good ? 9999 : -6, x.wouldRead(place, place, 9999));
                    due.is("and now", 10, x.read(place));
                }
            }
        }
    }

    /** "after a write of data to another one": the place 1 higher (behind the last one: the place 0), struck on each side. */
    private static void promise14TheNextPlace() {
        for (int disk = 0; disk <= 4; disk++) {
            for (int mirror = 0; mirror <= 4; mirror++) {
                due.about("promise 14, the next place, kinds " + disk + " and " + mirror);
                BlockRounds x = new BlockRounds();
                x.write(0, 10);
                x.write(1, 20);
                x.write(15, 30);
                x.await(0, disk);
                x.await(1, mirror);
                boolean struck = (disk == STRAY || disk == TWICE) && (mirror == STRAY || mirror == TWICE);
                due.is("behind the last one", struck ? -6 : 10, x.wouldRead(0, 15, 5));
                due.is("behind the first one", struck ? -6 : 20, x.wouldRead(1, 0, 5));
                due.is("the one before", 30, x.wouldRead(15, 0, 5));
            }
        }
    }

    /** What waits now strikes that write, as it would strike write(). */
    private static void promise14WhatWaitsNow() {
        due.about("promise 14, as write() and read()");
        for (int kinds = 0; kinds < 25; kinds++) {
            for (int place = 0; place < 3; place++) {
                for (int written = 0; written < 3; written++) {
                    BlockRounds x = new BlockRounds();
                    x.resize(3);
                    x.write(0, 10);
                    x.write(2, 30);
                    x.await(0, kinds / 5);
                    x.await(1, kinds % 5);
                    int would = x.wouldRead(place, written, 77);
                    x.write(written, 77);
                    due.is("kinds " + kinds + ", " + place + " behind " + written, x.read(place), would);
                }
            }
        }
    }

    /** "errors as for write(); behind these NO_SUCH if there is no such place to be read". */
    private static void promise14Data0To9999() {
        due.about("promise 14, data 0 to 9999, places 0 to SIZE - 1");
        BlockRounds x = new BlockRounds();
        for (int data : new int[] {-1, 0, 9999, 10000, Integer.MIN_VALUE, Integer.MAX_VALUE}) {
            due.is("data " + data, data >= 0 && data <= 9999 ? data : -2, x.wouldRead(0, 0, data));
            due.is("data " + data + ", no place to read", data >= 0 && data <= 9999 ? -1 : -2, x.wouldRead(16, 0, data));
        }
        for (int place : new int[] {-1, 0, 15, 16, Integer.MIN_VALUE, Integer.MAX_VALUE}) {
            boolean there = place >= 0 && place < 16;
            due.is("written " + place, there ? 0 : -1, x.wouldRead(5, place, 1));
            due.is("read " + place, there ? 0 : -1, x.wouldRead(place, 5, 1));
            due.is("both " + place, there ? 1 : -1, x.wouldRead(place, place, 1));
        }
    }

    /** An object whose place 0 is of this round. No 512 calls reach 999. */
    private static BlockRounds atRound(int round) {
        BlockRounds x = new BlockRounds();
        for (int i = 1; i <= round; i++) {
            x.write(0, i);
        }
        return x;
    }

    /** "errors as for write()", whose are "TOO_MANY if the round would be above 999": 999 stands, 1000 does not. */
    private static void promise14TheRound999() {
        due.about("promise 14, the round 999");
        due.is("at 998", 5, atRound(998).wouldRead(0, 0, 5));
        BlockRounds x = atRound(999);
        due.is("at 999", -4, x.wouldRead(0, 0, 5));
        due.is("at 999, another place is read", -4, x.wouldRead(1, 0, 5));
        due.is("at 999, another place is written", 999, x.wouldRead(0, 1, 5));
        due.is("round", 999, x.round(0));
    }

    /** "what if; nothing changes": no state, no count, nothing that waits, no history. */
    private static void promise14NothingChanges() {
        due.about("promise 14, nothing changes");
        BlockRounds x = Due.rich();
        for (int place = 0; place < 6; place++) {
            for (int written = 0; written < 6; written++) {
                x.wouldRead(place, written, 5);
            }
        }
        due.same("wouldRead", Due.rich(), x);
    }

    /** "Returns the kinds 1 to 4, as a set (the bit of a kind is its number)": each kind alone tells its loss. */
    private static void promise15Kinds1To4() {
        due.about("promise 15, kinds 1 to 4");
        BlockRounds x = new BlockRounds();
        due.is("LOSE, STRAY, ROT lose the place itself", 1 << LOSE | 1 << STRAY | 1 << ROT, x.losing(0, 1));
        x.write(1, 1);
        due.is("STRAY, TWICE lose the next one, too", 1 << LOSE | 1 << STRAY | 1 << TWICE | 1 << ROT, x.losing(0, 1));
        x.write(0, 1);
        x.wipeOut(0, 0);
        x.wipeOut(1, 0);
        due.is("the place itself is lost now", 1 << STRAY | 1 << TWICE, x.losing(0, 1));
        x.wipeOut(0, 1);
        due.is("the next one's mirror is believed", 1 << STRAY | 1 << TWICE, x.losing(0, 1));
        x.wipeOut(1, 1);
        due.is("both are lost now", 0, x.losing(0, 1));
    }

    /** "places that are not lost now (also ones that were never written, as that which is written ...)". */
    private static void promise15NotLostNow() {
        due.about("promise 15, not lost now");
        BlockRounds x = new BlockRounds();
        due.is("never written itself", 22, x.losing(4, 1));
        due.is("the next one was never written: it can't be lost", 22, x.losing(3, 1));
        x.write(4, 1);
        due.is("written itself", 22, x.losing(4, 1));
        x.wipeOut(0, 4);
        due.is("read from the mirror itself", 22, x.losing(4, 1));
        x.wipeOut(1, 4);
        due.is("lost itself", 0, x.losing(4, 1));
        due.is("the next one is lost", 22, x.losing(3, 1));
        x.write(10, 1);
        due.is("a lost one elsewhere", 22, x.losing(10, 1));
    }

    /** "whatever waits now": the kinds wait for both sides instead. */
    private static void promise15WhateverWaitsNow() {
        for (int kinds = 0; kinds < 25; kinds++) {
            due.about("promise 15, kinds " + kinds / 5 + " and " + kinds % 5 + " wait now");
            BlockRounds x = new BlockRounds();
            x.write(1, 1);
            x.await(0, kinds / 5);
            x.await(1, kinds % 5);
            due.is("the next one is written", 30, x.losing(0, 1));
            due.is("the next one is not", 22, x.losing(1, 1));
            due.is("the disk's waits still", kinds / 5, x.count(1));
            due.is("the mirror's waits still", kinds % 5, x.count(2));
        }
    }

    /** "behind the last one: the place 0": it is that one which is lost; in one place alone nothing goes astray. */
    private static void promise15BehindTheLastPlace() {
        for (int size = 1; size <= 32; size++) {
            due.about("promise 15, behind the last place, SIZE " + size);
            BlockRounds x = new BlockRounds();
            x.resize(size);
            due.is("nothing was written", size == 1 ? 18 : 22, x.losing(size - 1, 1));
            x.write(0, 1);
            due.is("the place 0 was", size == 1 ? 18 : 30, x.losing(size - 1, 1));
        }
    }

    /** "errors as for write()". */
    private static void promise15Data0To9999() {
        due.about("promise 15, data 0 to 9999, places 0 to SIZE - 1");
        BlockRounds x = new BlockRounds();
        for (int data : new int[] {-1, 0, 9998, 9999, 10000, Integer.MIN_VALUE, Integer.MAX_VALUE}) {
            due.is("data " + data, data >= 0 && data <= 9999 ? 22 : -2, x.losing(0, data));
        }
        for (int place : new int[] {-1, 0, 15, 16, Integer.MIN_VALUE, Integer.MAX_VALUE}) {
            due.is("place " + place, place >= 0 && place < 16 ? 22 : -1, x.losing(place, 0));
        }
    }

    /** "errors as for write()", whose are "TOO_MANY if the round would be above 999": 999 stands, 1000 does not. */
    private static void promise15TheRound999() {
        due.about("promise 15, the round 999");
        due.is("at 998", 22, atRound(998).losing(0, 5));
        BlockRounds x = atRound(999);
        due.is("at 999", -4, x.losing(0, 5));
        due.is("at 999, another place", 30, x.losing(15, 5));
        due.is("round", 999, x.round(0));
    }

    /** "what if; nothing changes": no state, no count, nothing that waits, no history. */
    private static void promise15NothingChanges() {
        due.about("promise 15, nothing changes");
        BlockRounds x = Due.rich();
        for (int place = 0; place < 6; place++) {
            x.losing(place, 5);
        }
        due.same("losing", Due.rich(), x);
    }
}
