import java.util.ArrayDeque;
import java.util.ArrayList;
import java.util.HashMap;
import java.util.List;
import java.util.Map;
import java.util.function.ToIntFunction;
import java.util.regex.Matcher;
import java.util.regex.Pattern;

/** The document a second time, as plainly as the Java library allows, to hold BlockRounds against. */
final class Model {
    private static final String NUMBER = "(?:0|[1-9][0-9]{0,3})";
    private static final String ORDER = "(?:w" + NUMBER + "=" + NUMBER + "|r" + NUMBER + "|![01][0-4]|x[01]" + NUMBER + "|s)";
    private static final Pattern TEXT = Pattern.compile(ORDER + "(?:;" + ORDER + ")*");

    record Block(int address, int round, int data, int sum) {
        static int right(int address, int round, int data) {
            return (7 * address + 13 * round + data) % 97;
        }

        boolean whole() {
            return sum == right(address, round, data);
        }
    }

    static final class State {
        int size = 16;
        Map<Integer, Integer> index = new HashMap<>();
        List<Map<Integer, Block>> sides = List.of(new HashMap<>(), new HashMap<>());
        int[] waits = new int[2];
        int[] counts = new int[5]; // writes, reads, mirror asked, lost, mended

        State copy() {
            State s = new State();
            s.size = size;
            s.index.putAll(index);
            s.sides.get(0).putAll(sides.get(0));
            s.sides.get(1).putAll(sides.get(1));
            s.waits = waits.clone();
            s.counts = counts.clone();
            return s;
        }

        boolean place(int p) {
            return 0 <= p && p < size;
        }

        int rounds(int p) {
            return index.getOrDefault(p, 0);
        }

        int reason(int side, int p) {
            Block b = sides.get(side).get(p);
            return b == null ? 1 : !b.whole() ? 2 : b.address != p ? 3 : b.round != rounds(p) ? 4 : 0;
        }

        boolean lost(int p) {
            return rounds(p) > 0 && reason(0, p) > 0 && reason(1, p) > 0;
        }

        int write(int p, int data) {
            if (!place(p)) return -1;
            if (data < 0 || data > 9999) return -2;
            if (rounds(p) == 999) return -4;
            int round = index.merge(p, 1, Integer::sum);
            for (int side = 0; side < 2; side++) {
                Block good = new Block(p, round, data, Block.right(p, round, data));
                Map<Integer, Block> on = sides.get(side);
                int kind = waits[side];
                if (kind == 0 || kind == 3) on.put(p, good);
                if (kind == 2 || kind == 3) on.put((p + 1) % size, good);
                if (kind == 4) on.put(p, new Block(p, round, (data + 1) % 10000, good.sum));
                waits[side] = 0;
            }
            counts[0]++;
            return round;
        }

        int await(int side, int kind) {
            if (side != 0 && side != 1) return -1;
            if (kind < 0 || kind > 4) return -2;
            int before = waits[side];
            waits[side] = kind;
            return before;
        }

        int wipeOut(int side, int p) {
            if (side != 0 && side != 1 || !place(p)) return -1;
            return sides.get(side).remove(p) == null ? 0 : 1;
        }

        int peek(int p) {
            if (rounds(p) == 0) return 0;
            return lost(p) ? -6 : sides.get(reason(0, p) == 0 ? 0 : 1).get(p).data;
        }

        int read(int p) {
            if (!place(p)) return -1;
            counts[1]++;
            if (rounds(p) > 0 && reason(0, p) > 0) counts[2]++;
            if (lost(p)) counts[3]++;
            return peek(p);
        }

        int mend(int p) {
            if (!place(p)) return -1;
            for (int good = 0; good < 2; good++) {
                if (rounds(p) > 0 && reason(good, p) == 0 && reason(1 - good, p) > 0) {
                    sides.get(1 - good).put(p, sides.get(good).get(p));
                    counts[4]++;
                    return good == 1 ? 1 : 2;
                }
            }
            return 0;
        }

        int scrub() {
            int mended = 0;
            for (int p = 0; p < size; p++) if (rounds(p) > 0 && mend(p) > 0) mended++;
            return mended;
        }
    }

    State now = new State();
    String pad = "";
    final ArrayDeque<State> history = new ArrayDeque<>();
    final State[] slots = new State[2];

    private int change(ToIntFunction<State> call) {
        State before = now.copy();
        int answer = call.applyAsInt(now);
        if (answer >= 0 || answer == -6) {
            history.addLast(before);
            if (history.size() > 6) history.removeFirst();
        }
        return answer;
    }

    int resize(int size) {
        if (size < 1 || size > 32) return -2;
        return change(s -> {
            int before = s.size;
            now = new State();
            now.size = size;
            return before;
        });
    }

    int write(int p, int data) { return change(s -> s.write(p, data)); }
    int await(int side, int kind) { return change(s -> s.await(side, kind)); }
    int wipeOut(int side, int p) { return change(s -> s.wipeOut(side, p)); }
    int read(int p) { return change(s -> s.read(p)); }
    int mend(int p) { return change(s -> s.mend(p)); }
    int scrub() { return change(State::scrub); }

    int block(int side, int p, int what) {
        if (side < 0 || side > 1 || !now.place(p)) return -1;
        Block b = now.sides.get(side).get(p);
        switch (what) {
            case 0: return b == null ? -6 : b.address;
            case 1: return b == null ? -6 : b.round;
            case 2: return b == null ? -6 : b.data;
            case 3: return b == null ? -6 : b.sum;
            case 4: return b != null && b.whole() ? 1 : 0;
            case 5: return now.rounds(p) == 0 ? -6 : now.reason(side, p);
            default: return -2;
        }
    }

    int round(int p) { return now.place(p) ? now.rounds(p) : -1; }

    long places(int what) {
        if (what < 0 || what > 5) return -2;
        long set = 0;
        for (int p = 0; p < now.size; p++) {
            boolean written = now.rounds(p) > 0;
            boolean disk = written && now.reason(0, p) == 0;
            boolean mirror = written && now.reason(1, p) == 0;
            Block d = now.sides.get(0).get(p);
            Block m = now.sides.get(1).get(p);
            boolean astray = d != null && d.address != p || m != null && m.address != p;
            boolean[] in = {written, disk, mirror, written && !disk && !mirror, disk ^ mirror, astray};
            if (in[what]) set += 1L << p;
        }
        return set;
    }

    int count(int what) {
        switch (what) {
            case 0: return now.size;
            case 1: case 2: return now.waits[what - 1];
            case 8: return pad.length();
            case 9: return history.size();
            default: return what < 0 || what > 9 ? -2 : now.counts[what - 3];
        }
    }

    int share() {
        int written = Long.bitCount(places(0));
        if (written == 0) return -6;
        return Float.floatToIntBits((float) (written - Long.bitCount(places(3))) / (float) written);
    }

    int wouldRead(int p, int written, int data) {
        State s = now.copy();
        int answer = s.write(written, data);
        return answer < 0 ? answer : !s.place(p) ? -1 : s.peek(p);
    }

    int losing(int p, int data) {
        int kinds = 0;
        for (int kind = 1; kind <= 4; kind++) {
            State s = now.copy();
            s.waits = new int[] {kind, kind};
            int answer = s.write(p, data);
            if (answer < 0) return answer;
            boolean loses = false;
            for (int q = 0; q < s.size; q++) loses |= s.lost(q) && !now.lost(q);
            if (loses) kinds += 1 << kind;
        }
        return kinds;
    }

    int put(long characters) {
        StringBuilder text = new StringBuilder();
        boolean ended = false;
        for (int i = 0; i < 8; i++) {
            int code = (int) (characters >>> 8 * i) & 255;
            if (code == 0) {
                ended = true;
            } else if (ended || code < 33 || code > 126) {
                return -2;
            } else {
                text.insert(0, (char) code);
            }
        }
        if (text.length() == 0) return -2;
        if (pad.length() + text.length() > 80) return -4;
        pad += text;
        return pad.length();
    }

    int wipe() {
        int before = pad.length();
        pad = "";
        return before;
    }

    int fault() {
        for (int end = 1; end <= pad.length(); end++) {
            Matcher matcher = TEXT.matcher(pad.substring(0, end));
            if (!matcher.matches() && !matcher.hitEnd()) return end - 1;
        }
        return TEXT.matcher(pad).matches() ? -6 : pad.length();
    }

    int carryOut() {
        if (fault() != -6) return -3;
        List<String> orders = new ArrayList<>(List.of(pad.split(";")));
        pad = "";
        return change(s -> {
            int done = 0;
            for (String order : orders) {
                int answer = carryOut(s, order.charAt(0), order.substring(1));
                if (answer < 0 && answer != -6) break;
                done++;
            }
            return done;
        });
    }

    private static int carryOut(State s, char verb, String rest) {
        switch (verb) {
            case 'w': return s.write(Integer.parseInt(rest.split("=")[0]), Integer.parseInt(rest.split("=")[1]));
            case 'r': return s.read(Integer.parseInt(rest));
            case '!': return s.await(rest.charAt(0) - '0', rest.charAt(1) - '0');
            case 'x': return s.wipeOut(rest.charAt(0) - '0', Integer.parseInt(rest.substring(1)));
            default: return s.scrub();
        }
    }

    int undo() {
        if (history.isEmpty()) return -5;
        now = history.removeLast();
        return history.size();
    }

    int save(int slot) {
        if (slot != 0 && slot != 1) return -2;
        slots[slot] = now.copy();
        return now.index.size();
    }

    int restore(int slot) {
        if (slot != 0 && slot != 1) return -2;
        if (slots[slot] == null) return -5;
        return change(s -> {
            now = slots[slot].copy();
            return now.index.size();
        });
    }
}
