/** The boundary cases of promises 1 to 8, and of "Places", "Writing" and "Reading", which they use. */
public final class ChangesBoundaryTest {
    private static final Due due = new Due("ChangesBoundaryTest");
    private static final int LOSE = 1, STRAY = 2, TWICE = 3, ROT = 4;

    public static void main(String[] args) {
        promise1SixteenPlacesAtFirst();
        promise1AllIsEmpty();
        promise2SizeOneTo32();
        promise2ReturnsThePreviousOne();
        promise2AllPlacesAreEmptyThen();
        promise2NothingWaitsAndCountsAre0();
        promise2IsAChange();
        promise3Data0To9999();
        promise3TheRoundBecomes1More();
        promise3TheRound999();
        promise3SumLeftOverBy97();
        promise3NothingWaitsWritesOverWhatLies();
        promise3LoseIsWrittenNowhere();
        promise3StrayBehindTheLastPlace();
        promise3TwiceBehindTheLastPlace();
        promise3Rot9999Becomes0();
        promise3EachSideHasItsOwnKind();
        promise3UsedUpByTheNextWrite();
        promise3NotUsedUpByARefusedWrite();
        promise4Kind0To4();
        promise4WhatWaitedBefore();
        promise5WhetherABlockLay();
        promise5TheIndexStaysRight();
        promise6NeverWrittenIs0();
        promise6DiskThenMirrorThenLost();
        promise6TheFirstReason();
        promise7EachPairOfReasons();
        promise7NeverWrittenIs0();
        promise8NoPlaceAndAllPlaces();
        promise8OnlyWrittenPlaces();
        promises2To8EachIsOneChange();
        due.end();
    }

    /** "There are SIZE places (1 to 32; 16 at first)": the place 15 is there, the place 16 is not. */
    private static void promise1SixteenPlacesAtFirst() {
        due.about("promise 1, 16 places at first");
        BlockRounds x = new BlockRounds();
        due.is("SIZE", 16, x.count(0));
        due.is("round(0)", 0, x.round(0));
        due.is("round(15)", 0, x.round(15));
        due.is("round(16)", -1, x.round(16));
        due.is("round(-1)", -1, x.round(-1));
        due.is("write(15, 1)", 1, x.write(15, 1));
        due.is("write(16, 1)", -1, x.write(16, 1));
    }

    /** "Creates empty places.": and nothing waits, is counted, is on the pad, can be undone, or is saved. */
    private static void promise1AllIsEmpty() {
        due.about("promise 1, all is empty");
        BlockRounds x = new BlockRounds();
        for (int place = 0; place < 16; place++) {
            for (int side = 0; side <= 1; side++) {
                for (int what = 0; what <= 5; what++) {
                    due.is("block " + side + " " + place + " " + what, what == 4 ? 0 : -6, x.block(side, place, what));
                }
            }
        }
        for (int what = 0; what <= 5; what++) {
            due.is("places " + what, 0, x.places(what));
        }
        for (int what = 1; what <= 9; what++) {
            due.is("count " + what, 0, x.count(what));
        }
        due.is("share", -6, x.share());
        due.is("fault", 0, x.fault());
        due.is("undo", -5, x.undo());
        due.is("restore(0)", -5, x.restore(0));
        due.is("restore(1)", -5, x.restore(1));
        due.is("wipe", 0, x.wipe());
    }

    /** "size: 1 to 32", "BAD_VALUE if size is out of range". */
    private static void promise2SizeOneTo32() {
        due.about("promise 2, 1 to 32");
        for (int size : new int[] {-32, -1, 0, 1, 2, 15, 16, 17, 31, 32, 33, 34, 64, Integer.MIN_VALUE, Integer.MAX_VALUE}) {
            BlockRounds x = new BlockRounds();
            boolean right = size >= 1 && size <= 32;
            due.is("resize(" + size + ")", right ? 16 : -2, x.resize(size));
            int then = right ? size : 16;
            due.is("SIZE behind resize(" + size + ")", then, x.count(0));
            due.is("the last place", 1, x.write(then - 1, 1));
            due.is("the one behind it", -1, x.write(then, 1));
        }
    }

    /** "Returns the previous one". */
    private static void promise2ReturnsThePreviousOne() {
        due.about("promise 2, the previous one");
        BlockRounds x = new BlockRounds();
        int previous = 16;
        for (int size : new int[] {1, 1, 32, 32, 1, 31, 2, 16}) {
            due.is("resize(" + size + ")", previous, x.resize(size));
            previous = size;
        }
        x.resize(33);
        due.is("behind a refused one", 16, x.resize(5));
    }

    /** "all places are empty and never written then": also those behind a smaller SIZE, and with the same SIZE. */
    private static void promise2AllPlacesAreEmptyThen() {
        for (int size : new int[] {32, 1, 31}) {
            due.about("promise 2, all places are empty then, 32 to " + size);
            BlockRounds x = new BlockRounds();
            x.resize(32);
            for (int place = 0; place < 32; place++) {
                x.write(place, place);
            }
            due.is("resize", 32, x.resize(size));
            for (int round = 0; round < 2; round++) {
                for (int place = 0; place < x.count(0); place++) {
                    due.is("round " + place, 0, x.round(place));
                    due.is("disk " + place, -6, x.block(0, place, 0));
                    due.is("mirror " + place, -6, x.block(1, place, 0));
                    due.is("read " + place, 0, x.read(place));
                    due.is("wipeOut " + place, 0, x.wipeOut(0, place));
                }
                x.resize(32);
            }
            due.is("written", 0, x.places(0));
            due.is("its first round", 1, x.write(0, 1));
        }
    }

    /** "nothing waits, and counts are 0". */
    private static void promise2NothingWaitsAndCountsAre0() {
        due.about("promise 2, nothing waits, and counts are 0");
        BlockRounds x = Due.rich();
        x.write(3, 1);
        x.wipeOut(0, 3);
        x.mend(3);
        x.wipeOut(0, 3);
        x.read(3);
        x.wipeOut(1, 3);
        x.read(3);
        x.await(0, ROT);
        x.await(1, LOSE);
        for (int what = 1; what <= 7; what++) {
            due.holds("count " + what + " before", x.count(what) > 0);
        }
        x.resize(6);
        for (int what = 1; what <= 7; what++) {
            due.is("count " + what, 0, x.count(what));
        }
        due.is("the pad is no count of it", 6, x.count(8));
        due.is("nor is the history", 6, x.count(9));
        x.write(0, 5);
        due.is("what waited for the disk", 0, x.block(0, 0, 5));
        due.is("what waited for the mirror", 0, x.block(1, 0, 5));
    }

    /** "This is a change.": also to the same SIZE; a refused one is none. */
    private static void promise2IsAChange() {
        due.about("promise 2, a change");
        BlockRounds x = new BlockRounds();
        x.resize(16);
        due.is("to the same SIZE", 1, x.count(9));
        x.resize(0);
        x.resize(33);
        due.is("refused ones", 1, x.count(9));
        x.write(15, 7);
        x.resize(1);
        due.is("undo", 2, x.undo());
        due.is("SIZE", 16, x.count(0));
        due.is("data", 7, x.read(15));
    }

    /** "data: 0 to 9999", "BAD_VALUE if data is out of range". */
    private static void promise3Data0To9999() {
        due.about("promise 3, data 0 to 9999");
        for (int data : new int[] {-9999, -1, 0, 1, 9998, 9999, 10000, 10001, Integer.MIN_VALUE, Integer.MAX_VALUE}) {
            BlockRounds x = new BlockRounds();
            boolean right = data >= 0 && data <= 9999;
            due.is("write(0, " + data + ")", right ? 1 : -2, x.write(0, data));
            due.is("read behind " + data, right ? data : 0, x.read(0));
            due.is("the mirror behind " + data, right ? data : -6, x.block(1, 0, 2));
        }
    }

    /** "the round of the index for it becomes 1 more": from 0 to 1, of this place alone, also if the write is lost. */
    private static void promise3TheRoundBecomes1More() {
        due.about("promise 3, the round becomes 1 more");
        BlockRounds x = new BlockRounds();
        due.is("never written", 0, x.round(3));
        for (int round = 1; round <= 20; round++) {
            x.await(0, round % 5);
            x.await(1, round % 5);
            due.is("write", round, x.write(3, 1));
            due.is("round", round, x.round(3));
        }
        due.is("the place before", 0, x.round(2));
        due.is("the place behind", 0, x.round(4));
        due.is("its first write", 1, x.write(4, 1));
    }

    /** "TOO_MANY if the round would be above 999": 998 to 999 stands. No 512 calls reach it. */
    private static void promise3TheRound999() {
        due.about("promise 3, the round 999");
        BlockRounds x = new BlockRounds();
        for (int round = 1; round <= 998; round++) {
            x.write(0, 1);
        }
        due.is("write", 999, x.write(0, 5));
        due.is("block", 999, x.block(1, 0, 1));
        due.is("read", 5, x.read(0));
        due.is("write", -4, x.write(0, 6));
        due.is("read", 5, x.read(0));
        due.is("writes", 999, x.count(3));
        due.is("undo of the read", 5, x.undo());
        due.is("undo of the read", 4, x.undo());
        due.is("undo of the write 999", 3, x.undo());
        due.is("write", 999, x.write(0, 7));
        due.is("write", -4, x.write(0, 8));
        due.is("another place", 1, x.write(1, 8));
    }

    /** "its sum is (7 * address + 13 * round + data) left over by 97": 96 is left over, 97 leaves 0. */
    private static void promise3SumLeftOverBy97() {
        due.about("promise 3, left over by 97");
        int[][] rows = {{0, 83, 96}, {0, 84, 0}, {0, 85, 1}, {0, 0, 13}, {1, 76, 96}, {1, 77, 0}, {1, 78, 1}, {15, 75, 96}, {15, 76, 0}, {15, 77, 1}};
        for (int[] row : rows) {
            BlockRounds x = new BlockRounds();
            x.write(row[0], row[1]);
            due.is("sum of " + row[0] + ", 1, " + row[1], row[2], x.block(0, row[0], 3));
            due.is("whole", 1, x.block(0, row[0], 4));
            due.is("read", row[1], x.read(row[0]));
        }
        BlockRounds x = new BlockRounds();
        x.resize(32);
        for (int round = 1; round <= 100; round++) {
            x.write(31, 9999);
            due.is("sum in round " + round, (7 * 31 + 13 * round + 9999) % 97, x.block(1, 31, 3));
            due.is("whole in round " + round, 1, x.block(1, 31, 4));
        }
    }

    /** "nothing (0): it is written over what lies in the place": over a block of its own, a ghost, a rotten one, nothing. */
    private static void promise3NothingWaitsWritesOverWhatLies() {
        due.about("promise 3, nothing waits");
        for (int before = 0; before <= 3; before++) {
            BlockRounds x = new BlockRounds();
            if (before == 1) {
                x.write(1, 10);
            } else if (before > 1) {
                x.await(0, before == 2 ? TWICE : ROT);
                x.write(before == 2 ? 0 : 1, 10);
            }
            x.await(0, 0);
            x.write(1, 77);
            due.is("address over " + before, 1, x.block(0, 1, 0));
            due.is("round over " + before, before % 2 == 1 ? 2 : 1, x.block(0, 1, 1));
            due.is("data over " + before, 77, x.block(0, 1, 2));
            due.is("whole over " + before, 1, x.block(0, 1, 4));
            due.is("nothing behind it", -6, x.block(0, 2, 0));
        }
    }

    /** "LOSE (1): it is written nowhere.": what lies there stays, or nothing lies there still. */
    private static void promise3LoseIsWrittenNowhere() {
        due.about("promise 3, LOSE");
        for (int size : new int[] {1, 2, 32}) {
            for (int side = 0; side <= 1; side++) {
                BlockRounds x = new BlockRounds();
                x.resize(size);
                x.await(side, LOSE);
                x.write(size - 1, 10);
                for (int place = 0; place < size; place++) {
                    due.is("nothing in " + place, -6, x.block(side, place, 0));
                }
                x.write(size - 1, 20);
                x.await(side, LOSE);
                due.is("round", 3, x.write(size - 1, 30));
                due.is("the old one stays", 2, x.block(side, size - 1, 1));
                due.is("its data", 20, x.block(side, size - 1, 2));
                due.is("its reason", 4, x.block(side, size - 1, 5));
                due.is("the other side", 30, x.block(1 - side, size - 1, 2));
            }
        }
    }

    /** "STRAY (2): it is written to the place that is 1 higher, instead (behind the last one: the place 0)." */
    private static void promise3StrayBehindTheLastPlace() {
        for (int size = 1; size <= 32; size++) {
            due.about("promise 3, STRAY, SIZE " + size);
            for (int place : new int[] {0, size / 2, Math.max(0, size - 2), size - 1}) {
                goesTo(size, place, STRAY);
            }
        }
    }

    /** "TWICE (3): it is written to its place and to the one 1 higher, too." */
    private static void promise3TwiceBehindTheLastPlace() {
        for (int size = 1; size <= 32; size++) {
            due.about("promise 3, TWICE, SIZE " + size);
            for (int place : new int[] {0, size / 2, Math.max(0, size - 2), size - 1}) {
                goesTo(size, place, TWICE);
            }
        }
    }

    /** Each place holds a block of its own of round 1; then one write of round 2 with a kind. */
    private static void goesTo(int size, int place, int kind) {
        for (int side = 0; side <= 1; side++) {
            BlockRounds x = new BlockRounds();
            x.resize(size);
            for (int each = 0; each < size; each++) {
                x.write(each, each);
            }
            x.await(side, kind);
            x.write(place, 500);
            int next = place == size - 1 ? 0 : place + 1;
            for (int each = 0; each < size; each++) {
                boolean struck = each == next || kind == TWICE && each == place;
                String told = "side " + side + ", write to " + place + ", in " + each;
                due.is(told + ", address", struck ? place : each, x.block(side, each, 0));
                due.is(told + ", round", struck ? 2 : 1, x.block(side, each, 1));
                due.is(told + ", data", struck ? 500 : each, x.block(side, each, 2));
                due.is(told + ", the other side's", each == place ? 500 : each, x.block(1 - side, each, 2));
                due.is(told + ", index", each == place ? 2 : 1, x.round(each));
            }
        }
    }

    /** "its data become 1 more there (9999 becomes 0), but not its sum." */
    private static void promise3Rot9999Becomes0() {
        due.about("promise 3, ROT");
        int[][] rows = {{0, 1}, {1, 2}, {96, 97}, {9997, 9998}, {9998, 9999}, {9999, 0}};
        for (int[] row : rows) {
            for (int side = 0; side <= 1; side++) {
                BlockRounds x = new BlockRounds();
                x.await(side, ROT);
                x.write(15, row[0]);
                due.is("data of " + row[0], row[1], x.block(side, 15, 2));
                due.is("sum of " + row[0], (7 * 15 + 13 + row[0]) % 97, x.block(side, 15, 3));
                due.is("address", 15, x.block(side, 15, 0));
                due.is("round", 1, x.block(side, 15, 1));
                due.is("not whole", 0, x.block(side, 15, 4));
                due.is("nothing 1 higher", -6, x.block(side, 0, 0));
                due.is("the other side's data", row[0], x.block(1 - side, 15, 2));
                due.is("read", row[0], x.read(15));
            }
        }
    }

    /** "What happens to each is told by what waits for that side": each pair of kinds, from the last place. */
    private static void promise3EachSideHasItsOwnKind() {
        for (int disk = 0; disk <= 4; disk++) {
            for (int mirror = 0; mirror <= 4; mirror++) {
                due.about("promise 3, the disk's kind " + disk + ", the mirror's " + mirror);
                BlockRounds x = new BlockRounds();
                x.resize(3);
                x.await(0, disk);
                x.await(1, mirror);
                due.is("write", 1, x.write(2, 40));
                for (int side = 0; side <= 1; side++) {
                    int kind = side == 0 ? disk : mirror;
                    boolean home = kind == 0 || kind == TWICE || kind == ROT;
                    boolean away = kind == STRAY || kind == TWICE;
                    due.is("in the last place", home ? (kind == ROT ? 41 : 40) : -6, x.block(side, 2, 2));
                    due.is("in the place 0", away ? 40 : -6, x.block(side, 0, 2));
                    due.is("in the place 1", -6, x.block(side, 1, 2));
                }
                boolean diskGood = disk == 0 || disk == TWICE;
                boolean mirrorGood = mirror == 0 || mirror == TWICE;
                due.is("read", diskGood || mirrorGood ? 40 : -6, x.read(2));
                due.is("the mirror was asked", diskGood ? 0 : 1, x.count(5));
            }
        }
    }

    /** "What waits for a side is told ahead, and used up by the next write.": the one behind it finds nothing. */
    private static void promise3UsedUpByTheNextWrite() {
        due.about("promise 3, used up by the next write");
        for (int kind = 1; kind <= 4; kind++) {
            BlockRounds x = new BlockRounds();
            x.await(0, kind);
            x.await(1, kind);
            x.read(0);
            x.mend(0);
            x.scrub();
            x.wipeOut(0, 0);
            x.wouldRead(0, 0, 1);
            x.losing(0, 1);
            Due.carryOut(x, "r0;s;x00");
            due.is("waits still for the disk", kind, x.count(1));
            due.is("waits still for the mirror", kind, x.count(2));
            x.write(9, 1);
            due.is("used up, the disk's", 0, x.count(1));
            due.is("used up, the mirror's", 0, x.count(2));
            x.write(9, 2);
            due.is("the next one is believed on the disk", 0, x.block(0, 9, 5));
            due.is("and on the mirror", 0, x.block(1, 9, 5));
        }
    }

    /** "A call that returns an error changes nothing": a refused write uses nothing up. */
    private static void promise3NotUsedUpByARefusedWrite() {
        due.about("promise 3, not used up by a refused write");
        BlockRounds x = new BlockRounds();
        x.await(0, LOSE);
        x.await(1, ROT);
        x.write(16, 1);
        x.write(0, 10000);
        Due.carryOut(x, "w16=1");
        due.is("the disk's", LOSE, x.count(1));
        due.is("the mirror's", ROT, x.count(2));
        x.write(0, 1);
        due.is("the disk", -6, x.block(0, 0, 0));
        due.is("the mirror", 2, x.block(1, 0, 2));
    }

    /** "kind: 0 to 4", "BAD_VALUE if kind is out of range". */
    private static void promise4Kind0To4() {
        due.about("promise 4, kind 0 to 4");
        for (int kind : new int[] {-2, -1, 0, 1, 2, 3, 4, 5, 6, Integer.MIN_VALUE, Integer.MAX_VALUE}) {
            for (int side = 0; side <= 1; side++) {
                BlockRounds x = new BlockRounds();
                x.await(side, 1);
                boolean right = kind >= 0 && kind <= 4;
                due.is("await(" + side + ", " + kind + ")", right ? 1 : -2, x.await(side, kind));
                due.is("waits then", right ? kind : 1, x.count(1 + side));
                due.is("the other one's", 0, x.count(2 - side));
                due.is("changes", right ? 2 : 1, x.count(9));
            }
        }
    }

    /** "Returns what waited for it before": nothing at first, and nothing behind a write. */
    private static void promise4WhatWaitedBefore() {
        due.about("promise 4, what waited before");
        for (int side = 0; side <= 1; side++) {
            BlockRounds x = new BlockRounds();
            due.is("at first", 0, x.await(side, 4));
            due.is("the same again", 4, x.await(side, 4));
            due.is("to nothing", 4, x.await(side, 0));
            due.is("nothing", 0, x.await(side, 2));
            x.write(0, 0);
            due.is("behind a write", 0, x.await(side, 3));
            x.resize(16);
            due.is("behind resize", 0, x.await(side, 0));
            due.is("the other side", 0, x.await(1 - side, 1));
        }
    }

    /** "Returns 1 if a block lay there, otherwise 0": empty, full, wiped out twice, a ghost, a rotten one. */
    private static void promise5WhetherABlockLay() {
        due.about("promise 5, whether a block lay there");
        for (int side = 0; side <= 1; side++) {
            for (int place : new int[] {0, 14, 15}) {
                BlockRounds x = new BlockRounds();
                due.is("never written", 0, x.wipeOut(side, place));
                x.write(place, 0);
                due.is("written", 1, x.wipeOut(side, place));
                due.is("twice", 0, x.wipeOut(side, place));
                due.is("the other side", 1, x.wipeOut(1 - side, place));
                x.await(side, ROT);
                x.write(place, 0);
                due.is("a rotten one", 1, x.wipeOut(side, place));
                x.await(side, LOSE);
                x.write(place, 0);
                due.is("a lost one", 0, x.wipeOut(side, place));
                x.await(side, STRAY);
                x.write(place, 0);
                due.is("a stray one, at home", 0, x.wipeOut(side, place));
                due.is("a stray one, away", 1, x.wipeOut(side, place == 15 ? 0 : place + 1));
            }
        }
    }

    /** "The index ... is always right": wiping out leaves it, and the next round is 1 more. */
    private static void promise5TheIndexStaysRight() {
        due.about("promise 5, the index is always right");
        BlockRounds x = new BlockRounds();
        x.write(0, 3);
        x.wipeOut(0, 0);
        x.wipeOut(1, 0);
        due.is("round", 1, x.round(0));
        due.is("lost", 1, x.places(3));
        due.is("empty, the disk", 1, x.block(0, 0, 5));
        due.is("empty, the mirror", 1, x.block(1, 0, 5));
        due.is("write", 2, x.write(0, 3));
    }

    /** "it is 0 if it was never written": nothing lies there, or a ghost does; the mirror is not asked, it is not lost. */
    private static void promise6NeverWrittenIs0() {
        due.about("promise 6, never written");
        BlockRounds x = new BlockRounds();
        due.is("nothing lies there", 0, x.read(15));
        x.await(0, TWICE);
        x.await(1, STRAY);
        x.write(14, 70);
        due.is("ghosts lie there", 0, x.read(15));
        due.is("reads", 2, x.count(4));
        due.is("the mirror was not asked", 0, x.count(5));
        due.is("none was lost", 0, x.count(6));
        due.is("not lost", 0, x.places(3));
        x.write(15, 0);
        due.is("written, with 0", 0, x.read(15));
        x.wipeOut(0, 15);
        x.wipeOut(1, 15);
        due.is("written once, lost", -6, x.read(15));
    }

    /** Lays a place's blocks so that the reasons against them are these ones. Its last data are 60, in round 2. */
    private static BlockRounds withReasons(int place, int disk, int mirror) {
        BlockRounds x = new BlockRounds();
        int[] reasons = {disk, mirror};
        x.write(place, 50);
        for (int side = 0; side <= 1; side++) {
            x.await(side, reasons[side] == 2 ? ROT : reasons[side] == 4 ? LOSE : 0);
        }
        x.write(place, 60);
        for (int side = 0; side <= 1; side++) {
            x.await(side, reasons[side] == 3 ? STRAY : 0);
        }
        x.write(place == 0 ? 15 : place - 1, 70);
        for (int side = 0; side <= 1; side++) {
            if (reasons[side] == 1) {
                x.wipeOut(side, place);
            }
        }
        return x;
    }

    /** "the disk's block is looked at; if it is not believed, the mirror's one; if neither is, the place is lost". */
    private static void promise6DiskThenMirrorThenLost() {
        for (int place : new int[] {0, 1, 15}) {
            for (int disk = 0; disk <= 4; disk++) {
                for (int mirror = 0; mirror <= 4; mirror++) {
                    due.about("promise 6, place " + place + ", reasons " + disk + " and " + mirror);
                    BlockRounds x = withReasons(place, disk, mirror);
                    boolean lost = disk > 0 && mirror > 0;
                    due.is("the disk's reason", disk, x.block(0, place, 5));
                    due.is("the mirror's reason", mirror, x.block(1, place, 5));
                    due.is("read", lost ? -6 : 60, x.read(place));
                    due.is("reads", 1, x.count(4));
                    due.is("the mirror was asked", disk > 0 ? 1 : 0, x.count(5));
                    due.is("lost", lost ? 1 : 0, x.count(6));
                    due.is("lost ones", lost ? 1L << place : 0, x.places(3) & 1L << place);
                }
            }
        }
    }

    /** "The reason against it is the first of these": blocks against which two reasons hold. */
    private static void promise6TheFirstReason() {
        due.about("promise 6, the first reason");
        for (int side = 0; side <= 1; side++) {
            BlockRounds x = new BlockRounds();
            x.await(side, ROT);
            x.write(3, 1);
            due.is("not whole", 2, x.block(side, 3, 5));
            x.await(side, LOSE);
            x.write(3, 1);
            due.is("not whole, another round", 2, x.block(side, 3, 5));
            x.write(3, 1);
            x.await(side, STRAY);
            x.write(2, 1);
            due.is("another address, another round", 3, x.block(side, 3, 5));
            for (int write = 1; write <= 2; write++) {
                x.write(2, 1);
            }
            x.await(side, STRAY);
            x.write(2, 1);
            due.is("another address", 3, x.block(side, 3, 5));
            x.write(3, 1);
            due.is("the round before", 0, x.block(side, 3, 5));
            x.await(side, LOSE);
            x.write(3, 1);
            due.is("another round", 4, x.block(side, 3, 5));
            x.wipeOut(side, 3);
            due.is("nothing lies there", 1, x.block(side, 3, 5));
        }
    }

    /** "if one side's block is believed and the other one's is not": 1 the disk, 2 the mirror, 0 both or neither. */
    private static void promise7EachPairOfReasons() {
        for (int place : new int[] {0, 1, 15}) {
            for (int disk = 0; disk <= 4; disk++) {
                for (int mirror = 0; mirror <= 4; mirror++) {
                    due.about("promise 7, place " + place + ", reasons " + disk + " and " + mirror);
                    BlockRounds x = withReasons(place, disk, mirror);
                    int mended = disk > 0 && mirror == 0 ? 1 : disk == 0 && mirror > 0 ? 2 : 0;
                    due.is("mend", mended, x.mend(place));
                    due.is("the disk's reason", mended == 1 ? 0 : disk, x.block(0, place, 5));
                    due.is("the mirror's reason", mended == 2 ? 0 : mirror, x.block(1, place, 5));
                    for (int what = 0; mended > 0 && what <= 4; what++) {
                        due.is("a copy, " + what, x.block(2 - mended, place, what), x.block(mended - 1, place, what));
                    }
                    due.is("mended so far", mended > 0 ? 1 : 0, x.count(7));
                    due.is("reads", 0, x.count(4));
                    due.is("mend again", 0, x.mend(place));
                    due.is("mended so far", mended > 0 ? 1 : 0, x.count(7));
                }
            }
        }
    }

    /** "otherwise 0": a place that was never written, empty or with a ghost. */
    private static void promise7NeverWrittenIs0() {
        due.about("promise 7, never written");
        BlockRounds x = new BlockRounds();
        due.is("empty", 0, x.mend(0));
        x.await(0, TWICE);
        x.write(15, 5);
        due.is("a ghost on the disk", 0, x.mend(0));
        due.is("the mirror stays empty", -6, x.block(1, 0, 0));
        due.is("the ghost stays", 15, x.block(0, 0, 0));
        due.is("no place was mended", 0, x.count(7));
        due.is("both are changes", 4, x.count(9));
    }

    /** "Mends all places that were written", "Returns how many are mended": none, the first and the last one, all 32. */
    private static void promise8NoPlaceAndAllPlaces() {
        due.about("promise 8, none and all");
        BlockRounds x = new BlockRounds();
        x.resize(32);
        due.is("none was written", 0, x.scrub());
        for (int place = 0; place < 32; place++) {
            x.write(place, place);
        }
        due.is("none has to be mended", 0, x.scrub());
        x.wipeOut(0, 0);
        x.wipeOut(1, 31);
        due.is("the first and the last one", 2, x.scrub());
        due.is("both sides are believed", 0xFFFFFFFFL, x.places(1) & x.places(2));
        for (int place = 0; place < 32; place++) {
            x.wipeOut(place % 2, place);
        }
        due.is("all", 32, x.scrub());
        due.is("both sides are believed", 0xFFFFFFFFL, x.places(1) & x.places(2));
        due.is("mended so far", 34, x.count(7));
        for (int place = 0; place < 32; place++) {
            x.wipeOut(0, place);
            x.wipeOut(1, place);
        }
        due.is("all are lost", 0, x.scrub());
        due.is("they stay so", 0xFFFFFFFFL, x.places(3));
    }

    /** "all places that were written": a ghost in one that was never written stays where it is, and is not copied. */
    private static void promise8OnlyWrittenPlaces() {
        due.about("promise 8, only written places");
        BlockRounds x = new BlockRounds();
        x.await(0, TWICE);
        x.write(15, 5);
        x.wipeOut(1, 15);
        due.is("one", 1, x.scrub());
        due.is("mended", 5, x.block(1, 15, 2));
        due.is("the ghost stays", 15, x.block(0, 0, 0));
        due.is("the mirror stays empty", -6, x.block(1, 0, 0));
        due.is("read", 0, x.read(0));
    }

    /** "This is a change.": each of these calls is one, also if nothing is different, and is undone by one undo. */
    private static void promises2To8EachIsOneChange() {
        due.about("promises 2 to 8, one change each");
        BlockRounds x = new BlockRounds();
        x.resize(16);
        due.is("resize", 1, x.count(9));
        x.write(0, 0);
        due.is("write", 2, x.count(9));
        x.await(0, 0);
        due.is("await", 3, x.count(9));
        x.wipeOut(0, 1);
        due.is("wipeOut", 4, x.count(9));
        x.read(1);
        due.is("read", 5, x.count(9));
        x.mend(0);
        due.is("mend", 6, x.count(9));
        x.undo();
        x.undo();
        due.is("undone", 4, x.count(9));
        x.scrub();
        due.is("scrub", 5, x.count(9));
        x.undo();
        due.is("the read was undone, too", 0, x.count(4));
        due.is("the write was not", 1, x.count(3));
    }
}
