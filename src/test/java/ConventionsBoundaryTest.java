import java.util.function.Supplier;
import java.util.function.ToLongFunction;

/** The boundary cases of "What it is", "The public face" and "Terms: Conventions", which bind all promises. */
public final class ConventionsBoundaryTest {
    private static final Due due = new Due("ConventionsBoundaryTest");
    private static final Supplier<BlockRounds> NEW = BlockRounds::new;
    private static final Supplier<BlockRounds> RICH = Due::rich;

    public static void main(String[] args) {
        promises1To22TheLastOf512Calls();
        promise19TheMostWritesOf512Calls();
        promises1To22Constants();
        promises2To8ErrorsChangeNothing();
        promises9To15ErrorsChangeNothing();
        promises16To22ErrorsChangeNothing();
        promise3TheFirstErrorThatApplies();
        promises4And5TheFirstErrorThatApplies();
        promise9TheFirstErrorThatApplies();
        promises14And15TheFirstErrorThatApplies();
        promises16And22TheFirstErrorThatApplies();
        promise6NoneIsNoError();
        promise9NoneOnlyIfNoErrorApplies();
        promise14NoneOnlyIfNoErrorApplies();
        promises2To22PlacesAreNumberedFrom0();
        promises4To9SidesAreNumberedFrom0();
        promises21And22SlotsAreNumberedFrom0();
        promise11SetsAreBitMasks();
        promise15KindsAreABitMask();
        due.end();
    }

    /** "An object is used for at most 512 calls after it has been made": the last ones answer as the first ones. */
    private static void promises1To22TheLastOf512Calls() {
        due.about("promises 1 to 22, the last of 512 calls");
        BlockRounds x = new BlockRounds();
        for (int round = 1; round <= 499; round++) {
            due.is("write", round, x.write(0, round));
        }
        due.is("call 500: save", 1, x.save(0));
        due.is("call 501: read", 499, x.read(0));
        due.is("call 502: put", 1, x.put('s'));
        due.is("call 503: carryOut", 1, x.carryOut());
        due.is("call 504: count", 6, x.count(9));
        for (int left = 5; left >= 0; left--) {
            due.is("calls 505 to 510: undo", left, x.undo());
        }
        due.is("call 511: undo", -5, x.undo());
        due.is("call 512: restore", 1, x.restore(0));
        BlockRounds y = new BlockRounds();
        for (int call = 1; call <= 511; call++) {
            due.is("call " + call + ": write", (call + 15) / 16, y.write(call % 16, 5));
        }
        due.is("call 512: write", 32, y.write(0, 5));
    }

    /** As many writes as texts can bring into 512 calls: no round is refused that can be reached there. */
    private static void promise19TheMostWritesOf512Calls() {
        due.about("promise 19, the most writes of 512 calls");
        BlockRounds x = new BlockRounds();
        for (int text = 1; text <= 46; text++) {
            Due.type(x, "w0=0;".repeat(15) + "w0=12");
            due.is("text " + text, 16, x.carryOut());
        }
        Due.type(x, "w0=0;".repeat(7) + "w0=1");
        due.is("call 512: carryOut", 8, x.carryOut());
        due.is("round", 744, x.round(0));
        due.is("writes so far", 744, x.count(3));
    }

    /** "NO_SUCH = -1, BAD_VALUE = -2, BAD_TEXT = -3, TOO_MANY = -4, NOT_POSSIBLE = -5, NONE = -6"; "LOSE = 1, STRAY = 2, TWICE = 3, ROT = 4". */
    private static void promises1To22Constants() {
        due.about("promises 1 to 22, the constants");
        due.is("NO_SUCH", -1, BlockRounds.NO_SUCH);
        due.is("BAD_VALUE", -2, BlockRounds.BAD_VALUE);
        due.is("BAD_TEXT", -3, BlockRounds.BAD_TEXT);
        due.is("TOO_MANY", -4, BlockRounds.TOO_MANY);
        due.is("NOT_POSSIBLE", -5, BlockRounds.NOT_POSSIBLE);
        due.is("NONE", -6, BlockRounds.NONE);
        due.is("LOSE", 1, BlockRounds.LOSE);
        due.is("STRAY", 2, BlockRounds.STRAY);
        due.is("TWICE", 3, BlockRounds.TWICE);
        due.is("ROT", 4, BlockRounds.ROT);
    }

    private static void refused(String call, long want, ToLongFunction<BlockRounds> asked) {
        due.refused(call, want, RICH, asked);
    }

    /** "A call that returns an error changes nothing." */
    private static void promises2To8ErrorsChangeNothing() {
        due.about("promises 2 to 8, a call that returns an error changes nothing");
        refused("resize(0)", -2, x -> x.resize(0));
        refused("resize(33)", -2, x -> x.resize(33));
        refused("write(-1, 1)", -1, x -> x.write(-1, 1));
        refused("write(6, 1)", -1, x -> x.write(6, 1));
        refused("write(5, -1)", -2, x -> x.write(5, -1));
        refused("write(5, 10000)", -2, x -> x.write(5, 10000));
        due.refused("write above round 999", -4, ConventionsBoundaryTest::atRound999, x -> x.write(5, 1));
        refused("await(-1, 0)", -1, x -> x.await(-1, 0));
        refused("await(2, 0)", -1, x -> x.await(2, 0));
        refused("await(0, -1)", -2, x -> x.await(0, -1));
        refused("await(1, 5)", -2, x -> x.await(1, 5));
        refused("wipeOut(-1, 2)", -1, x -> x.wipeOut(-1, 2));
        refused("wipeOut(2, 2)", -1, x -> x.wipeOut(2, 2));
        refused("wipeOut(0, -1)", -1, x -> x.wipeOut(0, -1));
        refused("wipeOut(1, 6)", -1, x -> x.wipeOut(1, 6));
        refused("read(-1)", -1, x -> x.read(-1));
        refused("read(6)", -1, x -> x.read(6));
        refused("mend(-1)", -1, x -> x.mend(-1));
        refused("mend(6)", -1, x -> x.mend(6));
    }

    /** "A call that returns an error changes nothing." */
    private static void promises9To15ErrorsChangeNothing() {
        due.about("promises 9 to 15, a call that returns an error changes nothing");
        refused("block(2, 0, 0)", -1, x -> x.block(2, 0, 0));
        refused("block(0, 6, 0)", -1, x -> x.block(0, 6, 0));
        refused("block(0, 0, 6)", -2, x -> x.block(0, 0, 6));
        refused("round(6)", -1, x -> x.round(6));
        refused("places(6)", -2, x -> x.places(6));
        refused("count(10)", -2, x -> x.count(10));
        refused("wouldRead(0, 6, 1)", -1, x -> x.wouldRead(0, 6, 1));
        refused("wouldRead(0, 1, 10000)", -2, x -> x.wouldRead(0, 1, 10000));
        refused("wouldRead(6, 1, 1)", -1, x -> x.wouldRead(6, 1, 1));
        refused("losing(6, 1)", -1, x -> x.losing(6, 1));
        refused("losing(1, 10000)", -2, x -> x.losing(1, 10000));
    }

    /** "A call that returns an error changes nothing." */
    private static void promises16To22ErrorsChangeNothing() {
        due.about("promises 16 to 22, a call that returns an error changes nothing");
        refused("put(0)", -2, x -> x.put(0));
        refused("put(127)", -2, x -> x.put(127));
        refused("put of a good one behind a bad one", -2, x -> x.put(Due.packed("\u007fs")));
        refused("put of a bad one behind a good one", -2, x -> x.put(Due.packed("s\u007f")));
        due.refused("put onto 80", -4, ConventionsBoundaryTest::fullPad, x -> x.put('s'));
        due.refused("put of 8 onto 73", -4, ConventionsBoundaryTest::pad73, x -> x.put(Due.packed(";s;s;s;s")));
        refused("carryOut", -3, BlockRounds::carryOut);
        due.refused("undo", -5, ConventionsBoundaryTest::noHistory, BlockRounds::undo);
        refused("save(-1)", -2, x -> x.save(-1));
        refused("save(2)", -2, x -> x.save(2));
        refused("restore(-1)", -2, x -> x.restore(-1));
        refused("restore(2)", -2, x -> x.restore(2));
        due.refused("restore(0)", -5, ConventionsBoundaryTest::slot1Alone, x -> x.restore(0));
        due.refused("restore(1)", -5, ConventionsBoundaryTest::slot0Alone, x -> x.restore(1));
    }

    private static BlockRounds atRound999() {
        BlockRounds x = Due.rich();
        for (int round = x.round(5); round < 999; round++) {
            x.write(5, 1);
        }
        x.await(0, BlockRounds.LOSE);
        x.await(1, BlockRounds.STRAY);
        return x;
    }

    private static BlockRounds fullPad() {
        BlockRounds x = pad73();
        Due.type(x, ";s;s;r1");
        return x;
    }

    private static BlockRounds pad73() {
        BlockRounds x = Due.rich();
        x.wipe();
        Due.type(x, "s;".repeat(36) + "s");
        return x;
    }

    private static BlockRounds noHistory() {
        BlockRounds x = Due.rich();
        while (x.count(9) > 0) {
            x.undo();
        }
        return x;
    }

    private static BlockRounds slot0Alone() {
        BlockRounds x = new BlockRounds();
        x.write(3, 4);
        x.save(0);
        x.write(3, 5);
        return x;
    }

    private static BlockRounds slot1Alone() {
        BlockRounds x = new BlockRounds();
        x.write(3, 4);
        x.save(1);
        x.write(3, 5);
        return x;
    }

    /** "it names its errors in the order in which they are checked, and the first one that applies is returned." */
    private static void promise3TheFirstErrorThatApplies() {
        due.about("promise 3, the first error that applies");
        due.is("no place, bad data", -1, NEW.get().write(16, 10000));
        due.is("no place, bad data", -1, NEW.get().write(-1, -1));
        due.is("bad data alone", -2, NEW.get().write(15, 10000));
        due.is("bad data, too many", -2, atRound999().write(5, -1));
        due.is("too many alone", -4, atRound999().write(5, 0));
    }

    /** "it names its errors in the order in which they are checked, and the first one that applies is returned." */
    private static void promises4And5TheFirstErrorThatApplies() {
        due.about("promise 4, the first error that applies");
        due.is("no side, bad kind", -1, NEW.get().await(2, 5));
        due.is("no side, bad kind", -1, NEW.get().await(-1, -1));
        due.is("bad kind alone", -2, NEW.get().await(1, 5));
        due.about("promise 5, the first error that applies");
        due.is("no side, no place", -1, NEW.get().wipeOut(2, 16));
        due.is("no side alone", -1, NEW.get().wipeOut(2, 15));
        due.is("no place alone", -1, NEW.get().wipeOut(1, 16));
    }

    /** "it names its errors in the order in which they are checked, and the first one that applies is returned." */
    private static void promise9TheFirstErrorThatApplies() {
        due.about("promise 9, the first error that applies");
        due.is("no side, bad what", -1, NEW.get().block(2, 0, 6));
        due.is("no side, bad what", -1, NEW.get().block(-1, 0, -1));
        due.is("no place, bad what", -1, NEW.get().block(0, 16, 6));
        due.is("no place, bad what", -1, NEW.get().block(1, -1, -1));
        due.is("bad what alone", -2, NEW.get().block(1, 15, 6));
    }

    /** "it names its errors in the order in which they are checked, and the first one that applies is returned." */
    private static void promises14And15TheFirstErrorThatApplies() {
        due.about("promise 14, the first error that applies");
        due.is("no place to write, bad data, no place to read", -1, NEW.get().wouldRead(16, 16, 10000));
        due.is("bad data, no place to read", -2, NEW.get().wouldRead(16, 15, 10000));
        due.is("too many, no place to read", -4, atRound999().wouldRead(6, 5, 1));
        due.is("bad data, too many", -2, atRound999().wouldRead(0, 5, -1));
        due.is("no place to read alone", -1, NEW.get().wouldRead(16, 15, 9999));
        due.about("promise 15, the first error that applies");
        due.is("no place, bad data", -1, NEW.get().losing(16, 10000));
        due.is("bad data, too many", -2, atRound999().losing(5, 10000));
        due.is("too many alone", -4, atRound999().losing(5, 9999));
    }

    /** "it names its errors in the order in which they are checked, and the first one that applies is returned." */
    private static void promises16And22TheFirstErrorThatApplies() {
        due.about("promise 16, the first error that applies");
        due.is("no character, the pad is full", -2, fullPad().put(0));
        due.is("a bad code, the pad is full", -2, fullPad().put(127));
        due.is("bits above 0, the pad is full", -2, fullPad().put(1L << 16 | 's'));
        due.is("the pad is full alone", -4, fullPad().put('s'));
        due.about("promise 22, the first error that applies");
        due.is("no slot, nothing saved", -2, NEW.get().restore(2));
        due.is("no slot, nothing saved", -2, NEW.get().restore(-1));
        due.is("nothing saved alone", -5, NEW.get().restore(1));
    }

    /** "NONE (-6) is not an error": a lost read is a change, it is counted, and the orders of a text go on behind it. */
    private static void promise6NoneIsNoError() {
        due.about("promise 6, NONE is no error");
        BlockRounds x = new BlockRounds();
        x.write(4, 1);
        x.wipeOut(0, 4);
        x.wipeOut(1, 4);
        due.is("read", -6, x.read(4));
        due.is("recorded", 4, x.count(9));
        due.is("counted", 1, x.count(4));
        due.is("counted as lost", 1, x.count(6));
        due.is("undo", 3, x.undo());
        due.is("not counted then", 0, x.count(4));
        due.about("promise 19, NONE is no error");
        due.is("carryOut", 3, Due.carryOut(x, "r4;r4;r4"));
        due.is("counted", 3, x.count(6));
    }

    /** "it is returned only if no error applies." */
    private static void promise9NoneOnlyIfNoErrorApplies() {
        due.about("promise 9, NONE only if no error applies");
        BlockRounds x = new BlockRounds();
        due.is("nothing lies there, bad what", -2, x.block(0, 0, 6));
        due.is("nothing lies there, no side", -1, x.block(2, 0, 0));
        due.is("never written, no place", -1, x.block(0, 16, 5));
        due.is("nothing lies there", -6, x.block(0, 15, 0));
        due.is("never written", -6, x.block(0, 15, 5));
    }

    /** "it is returned only if no error applies." */
    private static void promise14NoneOnlyIfNoErrorApplies() {
        due.about("promise 14, NONE only if no error applies");
        BlockRounds x = new BlockRounds();
        x.await(0, BlockRounds.LOSE);
        x.await(1, BlockRounds.LOSE);
        due.is("lost", -6, x.wouldRead(0, 0, 9999));
        due.is("lost, bad data", -2, x.wouldRead(0, 0, 10000));
        due.is("no place to write", -1, x.wouldRead(0, 16, 0));
        due.is("no place to read", -1, x.wouldRead(16, 0, 0));
    }

    /** "Everything is numbered from 0": the places 0 to SIZE - 1, and neither -1 nor SIZE. */
    private static void promises2To22PlacesAreNumberedFrom0() {
        for (int size : new int[] {1, 2, 15, 16, 17, 31, 32}) {
            for (int place : new int[] {-1, 0, size - 1, size, 32, Integer.MIN_VALUE, Integer.MAX_VALUE}) {
                boolean there = place >= 0 && place < size;
                due.about("promises 3 to 15, place " + place + " of " + size);
                BlockRounds x = new BlockRounds();
                x.resize(size);
                due.is("round", there ? 0 : -1, x.round(place));
                due.is("read", there ? 0 : -1, x.read(place));
                due.is("write", there ? 1 : -1, x.write(place, 8));
                due.is("wipeOut", there ? 1 : -1, x.wipeOut(0, place));
                due.is("mend", there ? 1 : -1, x.mend(place));
                due.is("wipeOut", there ? 1 : -1, x.wipeOut(1, place));
                due.is("block", there ? place : -1, x.block(0, place, 0));
                due.is("block", there ? -6 : -1, x.block(1, place, 0));
                due.is("wouldRead of it", there ? (place == 0 ? 9 : 8) : -1, x.wouldRead(place, 0, 9));
                due.is("wouldRead behind a write to it", there ? (place == 0 ? 9 : 0) : -1, x.wouldRead(0, place, 9));
                due.is("losing", there ? (size == 1 ? 18 : 22) : -1, x.losing(place, 9));
            }
        }
    }

    /** "Everything is numbered from 0": the disk 0, the mirror 1, and neither -1 nor 2. */
    private static void promises4To9SidesAreNumberedFrom0() {
        for (int side : new int[] {-1, 0, 1, 2, Integer.MIN_VALUE, Integer.MAX_VALUE}) {
            boolean there = side == 0 || side == 1;
            due.about("promises 4, 5 and 9, side " + side);
            BlockRounds x = new BlockRounds();
            x.write(7, 3);
            due.is("block", there ? 7 : -1, x.block(side, 7, 0));
            due.is("wipeOut", there ? 1 : -1, x.wipeOut(side, 7));
            due.is("await", there ? 0 : -1, x.await(side, 4));
            due.is("the disk's", side == 0 ? -6 : 7, x.block(0, 7, 0));
            due.is("the mirror's", side == 1 ? -6 : 7, x.block(1, 7, 0));
            due.is("waits for the disk", side == 0 ? 4 : 0, x.count(1));
            due.is("waits for the mirror", side == 1 ? 4 : 0, x.count(2));
        }
    }

    /** "Everything is numbered from 0": the slots 0 and 1, and neither -1 nor 2. */
    private static void promises21And22SlotsAreNumberedFrom0() {
        for (int slot : new int[] {-1, 0, 1, 2, Integer.MIN_VALUE, Integer.MAX_VALUE}) {
            boolean there = slot == 0 || slot == 1;
            due.about("promises 21 and 22, slot " + slot);
            BlockRounds x = new BlockRounds();
            x.write(7, 3);
            due.is("restore", there ? -5 : -2, x.restore(slot));
            due.is("save", there ? 1 : -2, x.save(slot));
            due.is("restore", there ? 1 : -2, x.restore(slot));
            due.is("the other slot", there ? -5 : -2, x.restore(1 - Math.max(-1, Math.min(2, slot))));
        }
    }

    /** "Sets of places are bit masks (long).": bit 0 for the place 0, bit 31 (no sign) for the place 31. */
    private static void promise11SetsAreBitMasks() {
        due.about("promise 11, sets are bit masks");
        BlockRounds x = new BlockRounds();
        x.resize(32);
        due.is("none", 0, x.places(0));
        for (int place = 31; place >= 0; place--) {
            x.write(place, place);
            due.is("places from " + place + " on", 0xFFFFFFFFL & -1L << place, x.places(0));
        }
        for (int what = 0; what <= 2; what++) {
            due.is("all, places(" + what + ")", 4294967295L, x.places(what));
        }
        for (int place = 0; place < 32; place++) {
            x.wipeOut(0, place);
            due.is("can be mended up to " + place, (2L << place) - 1, x.places(4));
        }
        for (int place = 0; place < 32; place++) {
            x.wipeOut(1, place);
            due.is("lost up to " + place, (2L << place) - 1, x.places(3));
        }
    }

    /** "Returns the kinds 1 to 4, as a set (the bit of a kind is its number)": bits 1 to 4, and never bit 0. */
    private static void promise15KindsAreABitMask() {
        due.about("promise 15, kinds are bits");
        BlockRounds x = new BlockRounds();
        due.is("LOSE, STRAY, ROT", 2 + 4 + 16, x.losing(0, 5));
        x.write(1, 1);
        due.is("all four", 2 + 4 + 8 + 16, x.losing(0, 5));
    }
}
