/** Promises 20 to 22: undo, and saved states. */
public final class UndoTest {
    private static final Due due = new Due("UndoTest");

    public static void main(String[] args) {
        promise20();
        promise20EachChange();
        promise20Records();
        promise20Long();
        promise20Leaves();
        promise21();
        promise22();
        promise22Keeps();
        promise22Sizes();
        due.end();
    }

    private static void promise20() {
        BlockRounds x = new BlockRounds();
        due.refuses(x, "undo", -5, x::undo);
        String[] states = new String[9];
        for (int i = 0; i < 9; i++) {
            states[i] = Due.drive(x);
            x.write(i % 3, i);
            due.is("history", Math.min(6, i + 1), x.count(9));
        }
        for (int i = 8; i >= 3; i--) {
            due.is("undo", i - 3, x.undo());
            due.is("the state before write " + i, states[i], Due.drive(x));
        }
        due.refuses(x, "undo", -5, x::undo);
        due.is("a change", 2, x.write(0, 9));
        due.is("one can be undone", 0, x.undo());
        due.is("the state", states[3], Due.drive(x));
    }

    private static void promise20EachChange() {
        BlockRounds x = new BlockRounds();
        x.write(0, 1);
        x.write(1, 2);
        x.wipeOut(0, 0);
        x.wipeOut(1, 1);
        x.await(0, 3);
        x.save(1);
        String[] names = {"resize", "write", "await", "wipeOut", "read", "mend", "scrub", "carryOut", "restore"};
        for (int call = 0; call < names.length; call++) {
            String before = Due.drive(x);
            change(x, call);
            due.holds(names[call] + " changes something", names[call].equals("restore") || !before.equals(Due.drive(x)));
            due.is("undo", 5, x.undo());
            due.is(names[call] + " is undone", before, Due.drive(x));
            x.await(0, 3);
        }
    }

    private static void change(BlockRounds x, int call) {
        switch (call) {
            case 0: x.resize(9); break;
            case 1: x.write(0, 7); break;
            case 2: x.await(1, 4); break;
            case 3: x.wipeOut(1, 0); break;
            case 4: x.read(0); break;
            case 5: x.mend(0); break;
            case 6: x.scrub(); break;
            case 7: Due.carryOut(x, "w3=3"); break;
            default: x.restore(1); break;
        }
    }

    private static void promise20Records() {
        BlockRounds x = new BlockRounds();
        x.resize(16);
        x.await(0, 0);
        x.wipeOut(0, 0);
        x.mend(0);
        x.scrub();
        due.is("also if nothing is different", 5, x.count(9));
        x.save(0);
        x.fault();
        x.put('s');
        x.wipe();
        x.share();
        x.places(0);
        x.losing(0, 0);
        x.wouldRead(0, 0, 0);
        due.is("these are no changes", 5, x.count(9));
        x.undo();
        x.undo();
        due.is("undo is none", 3, x.count(9));
        x.restore(0);
        due.is("restore is one", 4, x.count(9));
    }

    /** The history's rows are used again many times over, with steps back between. */
    private static void promise20Long() {
        BlockRounds x = new BlockRounds();
        java.util.ArrayList<String> states = new java.util.ArrayList<>();
        for (int i = 0; i < 400; i++) {
            if (i * 7 % 11 < 7) {
                states.add(Due.drive(x));
                if (states.size() > 6) {
                    states.remove(0);
                }
                x.write(i % 16, i);
            } else if (states.isEmpty()) {
                due.is("undo", -5, x.undo());
            } else {
                String state = states.remove(states.size() - 1);
                due.is("undo", states.size(), x.undo());
                due.is("state", state, Due.drive(x));
            }
        }
    }

    private static void promise20Leaves() {
        BlockRounds x = new BlockRounds();
        x.write(0, 1);
        x.write(1, 1);
        x.save(0);
        Due.type(x, "r0");
        x.resize(5);
        due.is("undo", 2, x.undo());
        due.is("undo", 1, x.undo());
        due.is("undo", 0, x.undo());
        due.is("undone", Due.drive(new BlockRounds()), Due.drive(x));
        due.is("the pad", 2, x.count(8));
        due.is("the slot", 2, x.restore(0));
    }

    private static void promise21() {
        BlockRounds x = new BlockRounds();
        due.is("save", 0, x.save(0));
        due.is("none was written", 0, x.restore(0));
        due.is("the other slot", -5, x.restore(1));
        x.write(0, 1);
        x.write(0, 2);
        x.write(15, 2);
        x.wipeOut(0, 15);
        x.wipeOut(1, 15);
        String saved = Due.drive(x);
        due.is("save: lost ones were written", 2, x.save(1));
        due.is("no change", 6, x.count(9));
        x.write(5, 5);
        due.is("restore", 2, x.restore(1));
        due.is("as it was", saved, Due.drive(x));
        due.is("restore the other one", 0, x.restore(0));
        x.write(5, 5);
        due.is("it is overwritten", 1, x.save(1));
        x.resize(2);
        due.is("restore", 1, x.restore(1));
        due.is("what was saved last", 5, x.read(5));
        due.refuses(x, "save(2)", -2, () -> x.save(2));
        due.refuses(x, "save(-1)", -2, () -> x.save(-1));
        due.is("both slots stay", 1, x.restore(1));
        due.is("both slots stay", 0, x.restore(0));
    }

    private static void promise22() {
        BlockRounds x = new BlockRounds();
        due.refuses(x, "restore(0)", -5, () -> x.restore(0));
        due.refuses(x, "restore(1)", -5, () -> x.restore(1));
        due.refuses(x, "restore(2)", -2, () -> x.restore(2));
        due.refuses(x, "restore(-1)", -2, () -> x.restore(-1));
        x.resize(32);
        x.await(0, 1);
        x.write(31, 5);
        x.read(31);
        x.await(1, 3);
        x.save(0);
        String saved = Due.drive(x);
        due.refuses(x, "restore(1)", -5, () -> x.restore(1));
        Due.type(x, "r31;s");
        x.resize(1);
        x.write(0, 9);
        String before = Due.drive(x);
        int undos = x.count(9);
        due.is("restore", 1, x.restore(0));
        due.is("as it was", saved, Due.drive(x));
        due.is("the pad stays", 5, x.count(8));
        due.is("the history grows", Math.min(6, undos + 1), x.count(9));
        due.is("it is undone", 5, x.undo());
        due.is("as before", before, Due.drive(x));
    }

    private static void promise22Keeps() {
        BlockRounds x = new BlockRounds();
        x.write(3, 3);
        x.save(0);
        String saved = Due.drive(x);
        x.restore(0);
        x.write(3, 4);
        x.await(0, 2);
        x.wipeOut(1, 3);
        due.is("restore", 1, x.restore(0));
        due.is("the slot keeps what was saved", saved, Due.drive(x));
        x.scrub();
        x.resize(7);
        due.is("restore", 1, x.restore(0));
        due.is("the slot keeps what was saved", saved, Due.drive(x));
    }

    /** A place behind the new SIZE must not come back from a row that was used before. */
    private static void promise22Sizes() {
        BlockRounds x = new BlockRounds();
        x.resize(4);
        x.save(0);
        x.resize(32);
        for (int place = 0; place < 32; place++) {
            x.write(place, place);
        }
        due.is("save", 32, x.save(1));
        due.is("restore", 0, x.restore(0));
        due.is("SIZE", 4, x.count(0));
        due.is("place", -1, x.read(4));
        due.is("restore", 32, x.restore(1));
        due.is("all", (1L << 32) - 1, x.places(1));
    }
}
