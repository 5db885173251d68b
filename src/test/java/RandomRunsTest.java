import java.util.Random;

/** Runs of calls, the same ones each time, on BlockRounds and on the model: all answers must be the same. */
public final class RandomRunsTest {
    private static final Due due = new Due("RandomRunsTest");
    private static final int RUNS = 400;
    private static final int CALLS = 512;

    private final Random random;
    private final BlockRounds x = new BlockRounds();
    private final Model m = new Model();
    private final String run;
    private final int smallPlaces;

    private RandomRunsTest(int run) {
        this.run = "run " + run + ", call ";
        random = new Random(run);
        smallPlaces = run % 3 == 0 ? 3 : 40;
    }

    public static void main(String[] args) {
        for (int run = 0; run < RUNS; run++) {
            RandomRunsTest test = new RandomRunsTest(run);
            for (int call = 0; call < CALLS; call++) {
                test.call(call);
            }
            test.compareAll("at the end");
        }
        due.end();
    }

    private int place() {
        int range = Math.min(smallPlaces, m.now.size);
        return random.nextInt(12) == 0 ? odd() : random.nextInt(range);
    }

    private int odd() {
        int[] values = {-1, -2, m.now.size, m.now.size + 1, 31, 32, 33, Integer.MAX_VALUE, Integer.MIN_VALUE, 64, 16};
        return values[random.nextInt(values.length)];
    }

    private int data() {
        switch (random.nextInt(10)) {
            case 0: return 9999;
            case 1: return 0;
            case 2: return random.nextBoolean() ? 10000 : -1;
            default: return random.nextInt(10000);
        }
    }

    private int side() {
        return random.nextInt(20) == 0 ? random.nextInt(7) - 3 : random.nextInt(2);
    }

    private int kind() {
        return random.nextInt(20) == 0 ? random.nextInt(14) - 5 : random.nextInt(5);
    }

    private void call(int number) {
        String at = run + number + ": ";
        int a = place(), b = place(), d = data(), side = side(), kind = kind();
        switch (random.nextInt(40)) {
            case 0:
                int size = random.nextInt(4) > 0 ? -random.nextInt(3) : 1 + random.nextInt(33);
                due.is(at + "resize " + size, m.resize(size), x.resize(size));
                break;
            case 1: case 2: case 3: case 4: case 5: case 6: case 7: case 8: case 9:
                due.is(at + "write " + a + " " + d, m.write(a, d), x.write(a, d));
                break;
            case 10: case 11: case 12: case 13: case 14: case 15:
                due.is(at + "await " + side + " " + kind, m.await(side, kind), x.await(side, kind));
                break;
            case 16: case 17:
                due.is(at + "wipeOut " + side + " " + a, m.wipeOut(side, a), x.wipeOut(side, a));
                break;
            case 18: case 19: case 20:
                due.is(at + "read " + a, m.read(a), x.read(a));
                break;
            case 21: case 22:
                due.is(at + "mend " + a, m.mend(a), x.mend(a));
                break;
            case 23:
                if (random.nextInt(3) == 0) due.is(at + "scrub", m.scrub(), x.scrub());
                break;
            case 24: case 25:
                due.is(at + "wouldRead " + a + " " + b + " " + d, m.wouldRead(a, b, d), x.wouldRead(a, b, d));
                break;
            case 26: case 27:
                due.is(at + "losing " + a + " " + d, m.losing(a, d), x.losing(a, d));
                break;
            case 28: case 29: case 30:
                text(at);
                break;
            case 31: case 32:
                due.is(at + "undo", m.undo(), x.undo());
                break;
            case 33:
                due.is(at + "save " + kind, m.save(kind), x.save(kind));
                break;
            case 34:
                due.is(at + "restore " + kind, m.restore(kind), x.restore(kind));
                break;
            default:
                looks(at);
                break;
        }
        if (number % 16 == 0) compareAll(at);
    }

    private void looks(String at) {
        int p = place(), side = side(), what = random.nextInt(14) - 2;
        due.is(at + "block", m.block(side, p, what), x.block(side, p, what));
        due.is(at + "round", m.round(p), x.round(p));
        due.is(at + "places " + what, m.places(what), x.places(what));
        due.is(at + "count " + what, m.count(what), x.count(what));
        due.is(at + "share", m.share(), x.share());
    }

    private void compareAll(String at) {
        for (int what = 0; what <= 9; what++) due.is(at + "count " + what, m.count(what), x.count(what));
        for (int what = 0; what <= 5; what++) due.is(at + "places " + what, m.places(what), x.places(what));
        due.is(at + "share", m.share(), x.share());
        for (int p = 0; p < m.now.size; p++) {
            due.is(at + "round " + p, m.round(p), x.round(p));
            for (int what = 0; what <= 5; what++) {
                due.is(at + "block 0 " + p + " " + what, m.block(0, p, what), x.block(0, p, what));
                due.is(at + "block 1 " + p + " " + what, m.block(1, p, what), x.block(1, p, what));
            }
        }
    }

    private void text(String at) {
        if (random.nextInt(3) > 0) {
            due.is(at + "wipe", m.wipe(), x.wipe());
        }
        String text = orders();
        for (int from = 0; from < text.length(); from += 8) {
            long packed = Due.packed(text.substring(from, Math.min(text.length(), from + 8)));
            due.is(at + "put " + packed, m.put(packed), x.put(packed));
        }
        if (random.nextInt(8) == 0) {
            long any = random.nextLong() >>> random.nextInt(64);
            due.is(at + "put " + any, m.put(any), x.put(any));
        }
        due.is(at + "fault of " + m.pad, m.fault(), x.fault());
        due.is(at + "carryOut " + m.pad, m.carryOut(), x.carryOut());
    }

    private String orders() {
        StringBuilder text = new StringBuilder();
        int number = 1 + random.nextInt(random.nextInt(10) == 0 ? 45 : 9);
        for (int i = 0; i < number; i++) {
            text.append(i > 0 ? ";" : "").append(order());
        }
        if (random.nextInt(4) == 0 && text.length() > 0) {
            String signs = "wr!xs;=0123459";
            text.setCharAt(random.nextInt(text.length()), signs.charAt(random.nextInt(signs.length())));
        }
        return text.toString();
    }

    private String order() {
        int range = Math.min(smallPlaces, m.now.size) + (random.nextInt(8) == 0 ? 2 : 0);
        int p = random.nextInt(range);
        int big = random.nextInt(10) == 0 ? random.nextInt(20000) : random.nextInt(10000);
        switch (random.nextInt(6)) {
            case 0: case 1: return "w" + p + "=" + big;
            case 2: return "r" + p;
            case 3: return "!" + random.nextInt(2) + random.nextInt(5);
            case 4: return "x" + random.nextInt(2) + p;
            default: return "s";
        }
    }
}
