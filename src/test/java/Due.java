/** Collects the answers of one test class, and prints those that are not the due ones. */
final class Due {
    private final String test;
    private int asked;
    private int wrong;

    Due(String test) {
        this.test = test;
    }

    void is(String call, long want, long got) {
        asked++;
        if (want != got) {
            wrong++;
            System.out.println(test + ": " + call + " answered " + got + ", due is " + want);
        }
    }

    void is(String call, String want, String got) {
        asked++;
        if (!want.equals(got)) {
            wrong++;
            System.out.println(test + ": " + call + " answered\n" + got + "\ndue is\n" + want);
        }
    }

    void holds(String what, boolean holds) {
        is(what, 1, holds ? 1 : 0);
    }

    /** Ends the program with exit code 1 if an answer was wrong. */
    void end() {
        System.out.println(test + ": " + asked + " answers, " + wrong + " wrong");
        if (wrong > 0 || asked == 0) {
            System.exit(1);
        }
    }

    /** The number by which put() is told up to 8 characters. */
    static long packed(String characters) {
        long number = 0;
        for (int i = 0; i < characters.length(); i++) {
            number = number << 8 | characters.charAt(i);
        }
        return number;
    }

    /** Appends a text to the pad, in pieces of 8 characters. */
    static void type(BlockRounds x, String text) {
        for (int from = 0; from < text.length(); from += 8) {
            x.put(packed(text.substring(from, Math.min(text.length(), from + 8))));
        }
    }

    /** Empties the pad, types a text, and carries it out. */
    static int carryOut(BlockRounds x, String text) {
        x.wipe();
        type(x, text);
        return x.carryOut();
    }

    /** Empties the pad, types a text, and asks for its fault. */
    static int fault(BlockRounds x, String text) {
        x.wipe();
        type(x, text);
        return x.fault();
    }

    /** All that can be asked for without a change. */
    static String seen(BlockRounds x) {
        return drive(x) + " pad=" + x.count(8) + " fault=" + x.fault() + " undos=" + x.count(9);
    }

    /** What is seen of all that is undone and saved. */
    static String drive(BlockRounds x) {
        StringBuilder text = new StringBuilder("counts");
        for (int what = 0; what <= 7; what++) {
            text.append(' ').append(x.count(what));
        }
        text.append(" sets");
        for (int what = 0; what <= 5; what++) {
            text.append(' ').append(x.places(what));
        }
        text.append(" share ").append(x.share());
        for (int place = 0; place < x.count(0); place++) {
            text.append("\n").append(place).append(": round ").append(x.round(place));
            for (int side = 0; side <= 1; side++) {
                text.append(side == 0 ? " disk" : " mirror");
                for (int what = 0; what <= 5; what++) {
                    text.append(' ').append(x.block(side, place, what));
                }
            }
        }
        return text.toString();
    }

    /** Asks a call that has to return an error and to change nothing. */
    void refuses(BlockRounds x, String call, long want, java.util.function.LongSupplier asked) {
        String before = seen(x);
        is(call, want, asked.getAsLong());
        is(call + " changes nothing", before, seen(x));
    }
}
