import java.util.function.Supplier;
import java.util.function.ToLongFunction;

/** Collects the answers of one test class, and prints those that are not the due ones. */
final class Due {
    private final String test;
    private String about = "";
    private int asked;
    private int wrong;

    Due(String test) {
        this.test = test;
    }

    /** Tells which promise, and which case of it, the answers from here on belong to. */
    void about(String promiseAndCase) {
        about = promiseAndCase + ": ";
    }

    void is(String call, long want, long got) {
        asked++;
        if (want != got) {
            wrong++;
            System.out.println(test + ": " + about + call + " answered " + got + ", due is " + want);
        }
    }

    void is(String call, String want, String got) {
        asked++;
        if (!want.equals(got)) {
            wrong++;
            System.out.println(test + ": " + about + call + " answered\n" + got + "\ndue is\n" + want);
        }
    }

    void holds(String what, boolean holds) {
        is(what, 1, holds ? 1 : 0);
    }

    /** Ends the program with exit code 1 if an answer was wrong. */
    void end() {
        System.out.println(test + ": " + asked + " answers, " + wrong + " wrong");
        if (wrong > 0 || asked == 0) {
            System.exit(1);
        }
    }

    /** The number by which put() is told up to 8 characters. */
    static long packed(String characters) {
        long number = 0;
        for (int i = 0; i < characters.length(); i++) {
            number = number << 8 | characters.charAt(i);
        }
        return number;
    }

    /** Appends a text to the pad, in pieces of 8 characters. */
    static void type(BlockRounds x, String text) {
        for (int from = 0; from < text.length(); from += 8) {
            x.put(packed(text.substring(from, Math.min(text.length(), from + 8))));
        }
    }

    /** Empties the pad, types a text, and carries it out. */
    static int carryOut(BlockRounds x, String text) {
        x.wipe();
        type(x, text);
        return x.carryOut();
    }

    /** Empties the pad, types a text, and asks for its fault. */
    static int fault(BlockRounds x, String text) {
        x.wipe();
        type(x, text);
        return x.fault();
    }

    /** All that can be asked for without a change. */
    static String seen(BlockRounds x) {
        return drive(x) + " pad=" + x.count(8) + " fault=" + x.fault() + " undos=" + x.count(9);
    }

    /** What is seen of all that is undone and saved. */
    static String drive(BlockRounds x) {
        StringBuilder text = new StringBuilder("counts");
        for (int what = 0; what <= 7; what++) {
            text.append(' ').append(x.count(what));
        }
        text.append(" sets");
        for (int what = 0; what <= 5; what++) {
            text.append(' ').append(x.places(what));
        }
        text.append(" share ").append(x.share());
        for (int place = 0; place < x.count(0); place++) {
            text.append("\n").append(place).append(": round ").append(x.round(place));
            for (int side = 0; side <= 1; side++) {
                text.append(side == 0 ? " disk" : " mirror");
                for (int what = 0; what <= 5; what++) {
                    text.append(' ').append(x.block(side, place, what));
                }
            }
        }
        return text.toString();
    }

    /** Asks a call that has to return an error and to change nothing. */
    void refuses(BlockRounds x, String call, long want, java.util.function.LongSupplier asked) {
        String before = seen(x);
        is(call, want, asked.getAsLong());
        is(call + " changes nothing", before, seen(x));
    }

    /**
     * Asks a call that has to return an error, and holds the object, with its history, its slots
     * and its pad, against a twin that was not asked.
     */
    void refused(String call, long want, Supplier<BlockRounds> scene, ToLongFunction<BlockRounds> asked) {
        BlockRounds x = scene.get();
        is(call, want, asked.applyAsLong(x));
        same(call + " changes nothing", scene.get(), x);
    }

    /** Whether two objects answer the same from here on. */
    void same(String call, BlockRounds twin, BlockRounds x) {
        is(call, seen(twin), seen(x));
        for (int step = 1; step <= 7; step++) {
            is(call + ", undo " + step, twin.undo(), x.undo());
            is(call + ", seen behind undo " + step, seen(twin), seen(x));
        }
        for (int slot = 0; slot <= 1; slot++) {
            is(call + ", restore " + slot, twin.restore(slot), x.restore(slot));
            is(call + ", seen behind restore " + slot, seen(twin), seen(x));
        }
        is(call + ", put", twin.put('0'), x.put('0'));
        is(call + ", carryOut", twin.carryOut(), x.carryOut());
        is(call + ", seen behind carryOut", seen(twin), seen(x));
    }

    /** An object in which something stands everywhere: places, ghosts, what waits, counts, the pad, the history, the slots. */
    static BlockRounds rich() {
        BlockRounds x = new BlockRounds();
        x.resize(6);
        x.write(0, 1);
        x.write(5, 9999);
        x.save(0);
        x.await(0, BlockRounds.TWICE);
        x.write(5, 7);
        x.read(0);
        x.mend(0);
        x.wipeOut(0, 5);
        x.wipeOut(1, 5);
        x.read(5);
        x.save(1);
        x.await(1, BlockRounds.STRAY);
        x.write(2, 50);
        x.await(0, BlockRounds.STRAY);
        x.await(1, BlockRounds.ROT);
        type(x, "w1=1;r");
        return x;
    }
}
