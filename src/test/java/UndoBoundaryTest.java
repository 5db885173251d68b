/** The boundary cases of promises 20 to 22. */
public final class UndoBoundaryTest {
    private static final Due due = new Due("UndoBoundaryTest");
    private static final String[] CHANGES = {"resize", "write", "await", "wipeOut", "read", "mend", "scrub", "carryOut", "restore"};

    public static void main(String[] args) {
        promise20NoneCanBeUndone();
        promise20AtMost6States();
        promise20TheOldestOneIsDropped();
        promise20AgainAndAgain();
        promise20EachChangeIsRecorded();
        promise20AlsoIfNothingIsDifferent();
        promise20AnErrorRecordsNothing();
        promise20OtherCallsRecordNothing();
        promise20AnOrderRecordsNothingByItself();
        promise20ExceptThePad();
        promise20ExceptTheSlots();
        promise20ExceptTheHistory();
        promise20EverythingIsAsItWas();
        promise21Slot0And1();
        promise21HowManyPlacesWereWritten();
        promise21OverwritesWhatWasSaved();
        promise21IsNoChange();
        promise21SavesEverything();
        promise22NothingWasSaved();
        promise22TheSlotKeepsIt();
        promise22HowManyPlacesWereWritten();
        promise22IsAChange();
        promise22ExceptThePadTheHistoryAndTheSlots();
        promise22ToAnotherSize();
        due.end();
    }

    /** "NOT_POSSIBLE if there is none": at first, and behind as many undos as there were changes. */
    private static void promise20NoneCanBeUndone() {
        due.about("promise 20, none can be undone");
        for (int changes = 0; changes <= 6; changes++) {
            BlockRounds x = new BlockRounds();
            for (int i = 0; i < changes; i++) {
                x.write(0, i);
            }
            for (int left = changes - 1; left >= 0; left--) {
                due.is("undo, " + left + " left", left, x.undo());
                due.is("count(9)", left, x.count(9));
                due.is("round", left, x.round(0));
            }
            due.is("none", -5, x.undo());
            due.is("none again", -5, x.undo());
            due.is("count(9)", 0, x.count(9));
            due.is("round", 0, x.round(0));
        }
    }

    /** "A history of at most 6 states is kept": 5, 6, and still 6 behind the seventh. */
    private static void promise20AtMost6States() {
        due.about("promise 20, at most 6 states");
        BlockRounds x = new BlockRounds();
        for (int changes = 0; changes <= 30; changes++) {
            due.is("behind " + changes, Math.min(6, changes), x.count(9));
            x.read(0);
        }
    }

    /** "when one more is recorded, the oldest one is dropped": 6, 7, 8 and more changes; then 6 undos and no more. */
    private static void promise20TheOldestOneIsDropped() {
        due.about("promise 20, the oldest one is dropped");
        for (int changes = 6; changes <= 22; changes++) {
            BlockRounds x = new BlockRounds();
            for (int i = 0; i < changes; i++) {
                x.write(0, i);
            }
            for (int left = 5; left >= 0; left--) {
                due.is("undo", left, x.undo());
                due.is("the state behind write " + (changes - 6 + left), changes - 6 + left, x.round(0));
            }
            due.is("none behind 6 of " + changes, -5, x.undo());
            due.is("it stays", changes - 6, x.round(0));
        }
    }

    /** Undone states make room: a change behind undos is recorded in their place. */
    private static void promise20AgainAndAgain() {
        due.about("promise 20, changes behind undos");
        for (int undos = 0; undos <= 6; undos++) {
            BlockRounds x = new BlockRounds();
            for (int i = 0; i < 9; i++) {
                x.write(0, i);
            }
            for (int i = 0; i < undos; i++) {
                x.undo();
            }
            for (int i = 0; i < 3; i++) {
                x.write(1, i);
                due.is("history behind " + undos + " undos", Math.min(6, 6 - undos + i + 1), x.count(9));
            }
            for (int i = 2; i >= 0; i--) {
                x.undo();
                due.is("the new ones", i, x.round(1));
            }
            int left = Math.min(3, 6 - undos);
            for (int i = 1; i <= left; i++) {
                due.is("undo", left - i, x.undo());
                due.is("the ones before", 9 - undos - i, x.round(0));
            }
            due.is("none", -5, x.undo());
        }
    }

    private static void change(BlockRounds x, int call) {
        switch (call) {
            case 0: x.resize(9); break;
            case 1: x.write(0, 7); break;
            case 2: x.await(1, 4); break;
            case 3: x.wipeOut(1, 0); break;
            case 4: x.read(0); break;
            case 5: x.mend(0); break;
            case 6: x.scrub(); break;
            case 7: x.carryOut(); break;
            default: x.restore(0); break;
        }
    }

    /** A state in which each change makes something different. */
    private static BlockRounds changeable() {
        BlockRounds x = new BlockRounds();
        x.save(0);
        x.write(0, 1);
        x.wipeOut(0, 0);
        Due.type(x, "w3=3;r3");
        return x;
    }

    /** "each method that is a change, and returns no error, records the state before it". */
    private static void promise20EachChangeIsRecorded() {
        for (int call = 0; call < CHANGES.length; call++) {
            due.about("promise 20, " + CHANGES[call] + " is recorded");
            BlockRounds x = changeable();
            String before = Due.drive(x);
            change(x, call);
            due.is("history", 3, x.count(9));
            due.holds("something is different", !before.equals(Due.drive(x)));
            due.is("undo", 2, x.undo());
            due.is("the state before it", before, Due.drive(x));
            due.is("undo", 1, x.undo());
            due.is("the write before", 0, x.block(0, 0, 5));
            due.is("undo", 0, x.undo());
            due.is("the new object", Due.drive(new BlockRounds()), Due.drive(x));
        }
    }

    /** "(also if nothing is different then)": each such call on a new object. */
    private static void promise20AlsoIfNothingIsDifferent() {
        String fresh = Due.drive(new BlockRounds());
        for (int call : new int[] {0, 2, 3, 5, 6, 7, 8}) {
            due.about("promise 20, nothing is different, " + CHANGES[call]);
            BlockRounds x = new BlockRounds();
            x.save(1);
            Due.type(x, "r16");
            switch (call) {
                case 0: x.resize(16); break;
                case 2: x.await(1, 0); break;
                case 3: x.wipeOut(1, 0); break;
                case 5: x.mend(0); break;
                case 6: x.scrub(); break;
                case 7: x.carryOut(); break;
                default: x.restore(1); break;
            }
            due.is("nothing is different", fresh, Due.drive(x));
            due.is("history", 1, x.count(9));
            due.is("undo", 0, x.undo());
            due.is("undo", -5, x.undo());
        }
    }

    /** "and returns no error": refused changes neither record nor drop anything, also if the history is full. */
    private static void promise20AnErrorRecordsNothing() {
        due.about("promise 20, an error records nothing");
        BlockRounds x = new BlockRounds();
        refusedChanges(x);
        due.is("history", 0, x.count(9));
        due.is("undo", -5, x.undo());
        for (int i = 1; i <= 8; i++) {
            x.write(0, i);
            refusedChanges(x);
            due.is("history", Math.min(6, i), x.count(9));
        }
        for (int left = 5; left >= 0; left--) {
            due.is("undo", left, x.undo());
            due.is("round", left + 2, x.round(0));
            refusedChanges(x);
            due.is("history", left, x.count(9));
        }
        due.is("undo", -5, x.undo());
    }

    private static void refusedChanges(BlockRounds x) {
        due.is("resize", -2, x.resize(0));
        due.is("write", -1, x.write(16, 0));
        due.is("write", -2, x.write(0, -1));
        due.is("await", -1, x.await(2, 0));
        due.is("await", -2, x.await(0, 5));
        due.is("wipeOut", -1, x.wipeOut(0, 16));
        due.is("read", -1, x.read(16));
        due.is("mend", -1, x.mend(16));
        due.is("carryOut", -3, x.carryOut());
        due.is("restore", -2, x.restore(2));
        due.is("restore", -5, x.restore(1));
    }

    /** Only "each method that is a change" records: none of the others does, undo neither. */
    private static void promise20OtherCallsRecordNothing() {
        due.about("promise 20, other calls record nothing");
        BlockRounds x = new BlockRounds();
        x.write(0, 1);
        x.write(0, 2);
        x.write(0, 3);
        x.block(0, 0, 0);
        x.round(0);
        x.places(0);
        x.count(0);
        x.share();
        x.wouldRead(0, 0, 1);
        x.losing(0, 1);
        x.put('s');
        x.fault();
        x.wipe();
        x.save(0);
        due.is("history", 3, x.count(9));
        due.is("undo", 2, x.undo());
        due.is("undo is none: it goes on", 1, x.undo());
        due.is("round", 1, x.round(0));
    }

    /** "An order of a text records nothing by itself.": 1, 6, 7 and 40 orders. */
    private static void promise20AnOrderRecordsNothingByItself() {
        due.about("promise 20, an order records nothing by itself");
        for (int orders : new int[] {1, 6, 7, 26, 40}) {
            BlockRounds x = new BlockRounds();
            x.write(1, 1);
            Due.carryOut(x, orders > 26 ? "s;".repeat(orders - 1) + "s" : "r1;".repeat(orders - 1) + "r1");
            due.is("history", 2, x.count(9));
            due.is("undo", 1, x.undo());
            due.is("all are undone", 0, x.count(4));
            due.is("undo", 0, x.undo());
            due.is("undo", -5, x.undo());
        }
    }

    /** "everything except the pad": what was put or wiped since stays so. */
    private static void promise20ExceptThePad() {
        due.about("promise 20, except the pad");
        BlockRounds x = new BlockRounds();
        Due.type(x, "r1;s");
        x.write(0, 1);
        due.is("undo", 0, x.undo());
        due.is("put before", 4, x.count(8));
        due.is("its text", -6, x.fault());
        x.write(0, 1);
        x.put(';');
        x.undo();
        due.is("put since", 5, x.count(8));
        x.write(0, 1);
        x.wipe();
        x.undo();
        due.is("wiped since", 0, x.count(8));
    }

    /** "except the pad, the slots": what was saved since stays saved. */
    private static void promise20ExceptTheSlots() {
        due.about("promise 20, except the slots");
        BlockRounds x = new BlockRounds();
        x.write(0, 1);
        x.save(0);
        x.write(1, 1);
        x.save(1);
        due.is("undo", 1, x.undo());
        due.is("undo", 0, x.undo());
        due.is("undo", -5, x.undo());
        due.is("slot 0", 1, x.restore(0));
        due.is("slot 1", 2, x.restore(1));
        due.is("both places", 3, x.places(0));
        due.is("undo", 1, x.undo());
        due.is("one place", 1, x.places(0));
        due.is("slot 1 still", 2, x.restore(1));
    }

    /** "and the history": undo takes one state from it, and brings none of the dropped ones back. */
    private static void promise20ExceptTheHistory() {
        due.about("promise 20, except the history");
        BlockRounds x = new BlockRounds();
        for (int i = 0; i < 7; i++) {
            x.write(0, i);
        }
        due.is("undo", 5, x.undo());
        due.is("count(9)", 5, x.count(9));
        due.is("undo", 4, x.undo());
        x.write(0, 1);
        due.is("count(9)", 5, x.count(9));
    }

    /** "everything ... is as it was before it": SIZE, the index, both sides, what waits, each count, over 6 steps. */
    private static void promise20EverythingIsAsItWas() {
        due.about("promise 20, everything is as it was");
        BlockRounds x = Due.rich();
        String[] states = new String[7];
        for (int i = 0; i <= 6; i++) {
            states[i] = Due.drive(x);
            switch (i) {
                case 0: x.write(5, 1); break;
                case 1: x.await(0, 3); break;
                case 2: x.write(5, 2); break;
                case 3: x.read(4); x.undo(); x.mend(0); break;
                case 4: Due.carryOut(x, "w4=1;!04;w4=2;!11;r4;x14;r4"); break;
                case 5: x.resize(32); break;
                default: break;
            }
        }
        for (int i = 5; i >= 0; i--) {
            due.is("undo", i, x.undo());
            due.is("state " + i, states[i], Due.drive(x));
        }
    }

    /** "slot: 0 or 1", "BAD_VALUE if there is no such slot". */
    private static void promise21Slot0And1() {
        due.about("promise 21, slot 0 and 1");
        BlockRounds x = new BlockRounds();
        x.write(0, 1);
        for (int slot : new int[] {-2, -1, 2, 3, Integer.MIN_VALUE, Integer.MAX_VALUE}) {
            due.is("save(" + slot + ")", -2, x.save(slot));
        }
        due.is("restore(0)", -5, x.restore(0));
        due.is("restore(1)", -5, x.restore(1));
        due.is("save(0)", 1, x.save(0));
        due.is("restore(1)", -5, x.restore(1));
        x.write(1, 1);
        due.is("save(1)", 2, x.save(1));
        due.is("restore(0)", 1, x.restore(0));
        due.is("restore(1)", 2, x.restore(1));
    }

    /** "Returns how many places were written": none, one, all; also lost ones; each once. */
    private static void promise21HowManyPlacesWereWritten() {
        due.about("promise 21, how many were written");
        BlockRounds x = new BlockRounds();
        x.resize(32);
        due.is("none", 0, x.save(0));
        for (int place = 0; place < 32; place++) {
            x.await(0, 2);
            x.await(1, 1);
            x.write(place, 1);
            due.is("save", place + 1, x.save(place % 2));
        }
        x.write(0, 1);
        due.is("one of them twice", 32, x.save(0));
        x.resize(1);
        due.is("none", 0, x.save(0));
    }

    /** "and overwrites what was saved there": that alone can be restored then, and the other slot stays. */
    private static void promise21OverwritesWhatWasSaved() {
        due.about("promise 21, overwrites");
        for (int slot = 0; slot <= 1; slot++) {
            BlockRounds x = new BlockRounds();
            x.write(0, 1);
            x.save(slot);
            x.save(1 - slot);
            x.write(1, 2);
            x.write(2, 3);
            due.is("save", 3, x.save(slot));
            x.resize(1);
            due.is("restore", 3, x.restore(slot));
            due.is("written", 7, x.places(0));
            due.is("the other slot", 1, x.restore(1 - slot));
            due.is("written", 1, x.places(0));
        }
    }

    /** "Saves": nothing says that it is a change. */
    private static void promise21IsNoChange() {
        due.about("promise 21, no change");
        BlockRounds x = new BlockRounds();
        x.save(0);
        due.is("history", 0, x.count(9));
        x.write(0, 1);
        x.save(0);
        x.save(1);
        due.is("history", 1, x.count(9));
        due.is("undo", 0, x.undo());
        due.is("the write is undone", 0, x.round(0));
    }

    /** "Saves everything except the pad, the history and the slots". */
    private static void promise21SavesEverything() {
        for (int slot = 0; slot <= 1; slot++) {
            due.about("promise 21, everything, slot " + slot);
            BlockRounds x = Due.rich();
            String saved = Due.drive(x);
            due.is("save", 3, x.save(slot));
            x.resize(32);
            x.write(0, 1);
            x.save(1 - slot);
            x.write(31, 1);
            due.is("restore", 3, x.restore(slot));
            due.is("everything", saved, Due.drive(x));
        }
    }

    /** "NOT_POSSIBLE if nothing was saved in it": one slot, the other one, neither. */
    private static void promise22NothingWasSaved() {
        due.about("promise 22, nothing was saved");
        for (int slot = 0; slot <= 1; slot++) {
            BlockRounds x = new BlockRounds();
            due.is("restore(0)", -5, x.restore(0));
            due.is("restore(1)", -5, x.restore(1));
            due.is("restore(2)", -2, x.restore(2));
            due.is("restore(-1)", -2, x.restore(-1));
            due.is("no change", 0, x.count(9));
            x.save(slot);
            due.is("the other one", -5, x.restore(1 - slot));
            due.is("a new object was saved: 0 places", 0, x.restore(slot));
            due.is("a change", 1, x.count(9));
        }
    }

    /** "Restores what was saved last in a slot, which keeps it.": over and over, whatever is changed between. */
    private static void promise22TheSlotKeepsIt() {
        for (int slot = 0; slot <= 1; slot++) {
            due.about("promise 22, the slot keeps it, " + slot);
            BlockRounds x = changeable();
            x.save(slot);
            String saved = Due.drive(x);
            for (int call = 0; call < CHANGES.length - 1; call++) {
                change(x, call);
                due.is("restore behind " + CHANGES[call], 1, x.restore(slot));
                due.is("as it was saved", saved, Due.drive(x));
            }
            x.undo();
            x.undo();
            due.is("restore behind undo", 1, x.restore(slot));
            due.is("as it was saved", saved, Due.drive(x));
        }
    }

    /** "Returns how many places were written then": of those that were saved, not of those before it. */
    private static void promise22HowManyPlacesWereWritten() {
        due.about("promise 22, how many were written");
        for (int places = 0; places <= 32; places++) {
            BlockRounds x = new BlockRounds();
            x.resize(32);
            for (int place = 0; place < places; place++) {
                x.write(31 - place, 1);
            }
            x.save(places % 2);
            x.resize(5);
            x.write(0, 1);
            due.is("restore", places, x.restore(places % 2));
        }
    }

    /** "This is a change.": also if it restores what is there; undo brings the state before it. */
    private static void promise22IsAChange() {
        due.about("promise 22, a change");
        BlockRounds x = new BlockRounds();
        x.write(0, 1);
        x.save(0);
        due.is("restore", 1, x.restore(0));
        due.is("history", 2, x.count(9));
        x.write(1, 1);
        String before = Due.drive(x);
        x.restore(0);
        due.is("history", 4, x.count(9));
        due.is("undo", 3, x.undo());
        due.is("the state before it", before, Due.drive(x));
        for (int i = 0; i < 7; i++) {
            x.restore(0);
        }
        due.is("history", 6, x.count(9));
    }

    /** "everything except the pad, the history and the slots": restore leaves these as they are. */
    private static void promise22ExceptThePadTheHistoryAndTheSlots() {
        due.about("promise 22, except the pad, the history and the slots");
        BlockRounds x = new BlockRounds();
        Due.type(x, "r1");
        x.save(0);
        x.put(';');
        x.write(0, 1);
        x.write(1, 1);
        x.save(1);
        due.is("restore", 0, x.restore(0));
        due.is("the pad", 3, x.count(8));
        due.is("the history", 3, x.count(9));
        due.is("the other slot", 2, x.restore(1));
        due.is("undo", 3, x.undo());
        due.is("undo", 2, x.undo());
        due.is("the history's states", 3, x.places(0));
        due.is("undo", 1, x.undo());
        due.is("the history's states", 1, x.places(0));
    }

    /** SIZE is saved, too: places behind a smaller one are gone, and those behind a greater one are there. */
    private static void promise22ToAnotherSize() {
        due.about("promise 22, to another SIZE");
        BlockRounds x = new BlockRounds();
        x.resize(1);
        x.write(0, 1);
        x.save(0);
        x.resize(32);
        x.write(31, 2);
        x.save(1);
        due.is("to 1", 1, x.restore(0));
        due.is("SIZE", 1, x.count(0));
        due.is("the place 1", -1, x.round(1));
        x.await(0, 2);
        x.write(0, 3);
        due.is("behind the last one", 0, x.block(0, 0, 5));
        due.is("to 32", 1, x.restore(1));
        due.is("SIZE", 32, x.count(0));
        due.is("the place 31", 2, x.read(31));
        due.is("the place 32", -1, x.read(32));
        x.await(0, 2);
        x.await(1, 2);
        x.write(31, 4);
        due.is("behind the last one", 31, x.block(0, 0, 0));
        due.is("it strayed", 1, x.places(5));
    }
}
