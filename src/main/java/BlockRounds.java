import java.util.Arrays;

/**
 * A disk of places and its mirror, whose blocks carry their own address and round, so that a
 * block that went astray, or an old one, is known when it is read.
 */
public final class BlockRounds {
    public static final int NO_SUCH = -1, BAD_VALUE = -2, BAD_TEXT = -3, TOO_MANY = -4, NOT_POSSIBLE = -5, NONE = -6;
    public static final int LOSE = 1, STRAY = 2, TWICE = 3, ROT = 4;

    private static final int MOST_PLACES = 32;
    private static final int FIRST_SIZE = 16;
    private static final int MOST_ROUND = 999;
    private static final int MOST_DATA = 9999;
    private static final int MOST_UNDOS = 6;
    private static final int LONGEST_PAD = 80;
    /** Each order but the last one is at least one sign and a semicolon. */
    private static final int MOST_ORDERS = 40;

    /** What waits for a side for which nothing waits. */
    private static final int NO_KIND = 0;
    /** The round in a place where nothing lies: a block's round is 1 or more. */
    private static final int NO_BLOCK = 0;

    private static final int BELIEVED = 0;
    private static final int NOTHING_LIES = 1;
    private static final int NOT_WHOLE = 2;
    private static final int OTHER_ADDRESS = 3;
    private static final int OTHER_ROUND = 4;

    private static final int WRITTEN = 0;
    private static final int DISK_BELIEVED = 1;
    private static final int MIRROR_BELIEVED = 2;
    private static final int LOST = 3;
    private static final int MENDABLE = 4;
    private static final int ASTRAY = 5;

    private final Drive now;
    /** Where the what-if calls try a write, so that nothing changes. */
    private final Drive trial;
    private final Drive slot0;
    private final Drive slot1;
    private boolean slot0Saved;
    private boolean slot1Saved;
    private final History history;
    private final Pad pad;

    public BlockRounds() {
        now = new Drive();
        trial = new Drive();
        slot0 = new Drive();
        slot1 = new Drive();
        history = new History();
        pad = new Pad();
    }

    // ---- changes

    public int resize(int size) {
        history.prepare(now);
        return history.keep(now.startAnew(size));
    }

    public int write(int place, int data) {
        history.prepare(now);
        return history.keep(now.store(place, data));
    }

    public int await(int side, int kind) {
        history.prepare(now);
        return history.keep(now.expect(side, kind));
    }

    public int wipeOut(int side, int place) {
        history.prepare(now);
        return history.keep(now.empty(side, place));
    }

    public int read(int place) {
        history.prepare(now);
        return history.keep(now.fetch(place));
    }

    public int mend(int place) {
        history.prepare(now);
        return history.keep(now.repair(place));
    }

    public int scrub() {
        history.prepare(now);
        return history.keep(now.repairAll());
    }

    // ---- what there is

    public int block(int side, int place, int what) {
        if (!isSide(side) || !now.hasPlace(place)) {
            return NO_SUCH;
        }
        if (what < 0 || what > 5) {
            return BAD_VALUE;
        }
        Side blocks = now.sideOf(side);
        if (what == 5) {
            return now.isWritten(place) ? blocks.reasonAgainst(place, now.roundOf(place)) : NONE;
        }
        return blocks.part(place, what);
    }

    public int round(int place) {
        return now.hasPlace(place) ? now.roundOf(place) : NO_SUCH;
    }

    public long places(int what) {
        return what < WRITTEN || what > ASTRAY ? BAD_VALUE : now.setOf(what);
    }

    public int count(int what) {
        switch (what) {
            case 0: return now.size;
            case 1: return now.disk.waiting;
            case 2: return now.mirror.waiting;
            case 3: return now.writes;
            case 4: return now.reads;
            case 5: return now.mirrorReads;
            case 6: return now.lostReads;
            case 7: return now.mended;
            case 8: return pad.length;
            case 9: return history.kept;
            default: return BAD_VALUE;
        }
    }

    public int share() {
        int written = now.writtenPlaces();
        int lost = Long.bitCount(now.setOf(LOST));
        return written == 0 ? NONE : floatBitsOf(written - lost, written);
    }

    // ---- what if; nothing changes

    public int wouldRead(int place, int written, int data) {
        trial.copyFrom(now);
        int answer = trial.store(written, data);
        return isError(answer) ? answer : trial.fetch(place);
    }

    public int losing(int place, int data) {
        long lostNow = now.setOf(LOST);
        int kinds = 0;
        for (int kind = LOSE; kind <= ROT; kind++) {
            trial.copyFrom(now);
            trial.expect(0, kind);
            trial.expect(1, kind);
            int answer = trial.store(place, data);
            if (isError(answer)) {
                return answer;
            }
            if ((trial.setOf(LOST) & ~lostNow) != 0) {
                kinds |= 1 << kind;
            }
        }
        return kinds;
    }

    // ---- texts

    public int put(long characters) {
        return pad.append(characters);
    }

    public int wipe() {
        return pad.empty();
    }

    public int fault() {
        return pad.scan();
    }

    public int carryOut() {
        if (pad.scan() != NONE) {
            return BAD_TEXT;
        }
        history.prepare(now);
        int carriedOut = 0;
        while (carriedOut < pad.orders && carriedOut < MOST_ORDERS) {
            if (isError(carryOutOrder(pad.verbs[carriedOut], pad.firsts[carriedOut], pad.seconds[carriedOut]))) {
                break;
            }
            carriedOut++;
        }
        pad.empty();
        return history.keep(carriedOut);
    }

    // ---- undo, saving

    public int undo() {
        return history.takeBack(now);
    }

    public int save(int slot) {
        if (slot == 0) {
            slot0.copyFrom(now);
            slot0Saved = true;
        } else if (slot == 1) {
            slot1.copyFrom(now);
            slot1Saved = true;
        } else {
            return BAD_VALUE;
        }
        return now.writtenPlaces();
    }

    public int restore(int slot) {
        if (slot != 0 && slot != 1) {
            return BAD_VALUE;
        }
        if (slot == 0 ? !slot0Saved : !slot1Saved) {
            return NOT_POSSIBLE;
        }
        history.prepare(now);
        now.copyFrom(slot == 0 ? slot0 : slot1);
        return history.keep(now.writtenPlaces());
    }

    // ---- helpers

    private int carryOutOrder(int verb, int first, int second) {
        switch (verb) {
            case 'w': return now.store(first, second);
            case 'r': return now.fetch(second);
            case '!': return now.expect(first, second);
            case 'x': return now.empty(first, second);
            default: return now.repairAll();
        }
    }

    private static boolean isSide(int side) {
        return side == 0 || side == 1;
    }

    private static boolean isError(int answer) {
        return answer >= NOT_POSSIBLE && answer <= NO_SUCH;
    }

    /** The bits of the float part / all, for a part that is not above all. */
    private static int floatBitsOf(int part, int all) {
        if (part <= 0 || all <= 0) {
            return 0;
        }
        long dividend = part;
        int exponent = 127;
        for (int i = 0; i < MOST_PLACES && dividend < all; i++) {
            dividend <<= 1;
            exponent--;
        }
        dividend <<= 23;
        long fraction = dividend / all;
        // To the nearest one; just half can't be left: for that, all would have to be a multiple of 2 to the 24.
        if (2 * (dividend % all) > all) {
            fraction++;
        }
        // The fraction's leading 1 is not a bit of its own: it adds the 1 that the exponent lacks here.
        return ((exponent - 1) << 23) + (int) fraction;
    }

    /** The blocks of the disk or of the mirror, and what waits for it. */
    private static final class Side {
        private final int[] addresses = new int[MOST_PLACES];
        private final int[] rounds = new int[MOST_PLACES];
        private final int[] datas = new int[MOST_PLACES];
        private final int[] sums = new int[MOST_PLACES];
        private int waiting = NO_KIND;

        private void clear() {
            Arrays.fill(rounds, NO_BLOCK);
            waiting = NO_KIND;
        }

        private void copyFrom(Side other) {
            System.arraycopy(other.addresses, 0, addresses, 0, MOST_PLACES);
            System.arraycopy(other.rounds, 0, rounds, 0, MOST_PLACES);
            System.arraycopy(other.datas, 0, datas, 0, MOST_PLACES);
            System.arraycopy(other.sums, 0, sums, 0, MOST_PLACES);
            waiting = other.waiting;
        }

        /** A block that is meant for a place arrives; what waits is used up. */
        private void receive(int place, int nextPlace, int round, int data) {
            int sum = sumOf(place, round, data);
            int kind = waiting;
            waiting = NO_KIND;
            switch (kind) {
                case LOSE:
                    break;
                case STRAY:
                    lay(nextPlace, place, round, data, sum);
                    break;
                case TWICE:
                    lay(place, place, round, data, sum);
                    lay(nextPlace, place, round, data, sum);
                    break;
                case ROT:
                    lay(place, place, round, data < MOST_DATA ? data + 1 : 0, sum);
                    break;
                default:
                    lay(place, place, round, data, sum);
                    break;
            }
        }

        private void lay(int place, int address, int round, int data, int sum) {
            if (place < 0 || place >= MOST_PLACES) {
                return;
            }
            addresses[place] = address;
            rounds[place] = round;
            datas[place] = data;
            sums[place] = sum;
        }

        private boolean lies(int place) {
            return place >= 0 && place < MOST_PLACES && rounds[place] != NO_BLOCK;
        }

        /** Takes what lies in a place away; tells 1 if a block lay there, otherwise 0. */
        private int take(int place) {
            if (!lies(place)) {
                return 0;
            }
            rounds[place] = NO_BLOCK;
            return 1;
        }

        private void copyBlock(Side other, int place) {
            if (other.lies(place)) {
                lay(place, other.addresses[place], other.rounds[place], other.datas[place], other.sums[place]);
            }
        }

        private boolean isWhole(int place) {
            return lies(place) && sums[place] == sumOf(addresses[place], rounds[place], datas[place]);
        }

        private boolean isOfOtherAddress(int place) {
            return lies(place) && addresses[place] != place;
        }

        private int reasonAgainst(int place, int round) {
            if (!lies(place)) {
                return NOTHING_LIES;
            }
            if (sums[place] != sumOf(addresses[place], rounds[place], datas[place])) {
                return NOT_WHOLE;
            }
            if (addresses[place] != place) {
                return OTHER_ADDRESS;
            }
            return rounds[place] == round ? BELIEVED : OTHER_ROUND;
        }

        private int dataAt(int place) {
            return lies(place) ? datas[place] : NONE;
        }

        /** The address (0), round (1), data (2) or sum (3) of a block, or whether it is whole (4). */
        private int part(int place, int what) {
            if (what == 4) {
                return isWhole(place) ? 1 : 0;
            }
            if (!lies(place)) {
                return NONE;
            }
            switch (what) {
                case 0: return addresses[place];
                case 1: return rounds[place];
                case 2: return datas[place];
                default: return sums[place];
            }
        }

        private static int sumOf(int address, int round, int data) {
            return (7 * address + 13 * round + data) % 97;
        }
    }

    /** All that is undone and saved: the disk, its mirror, the index, and the counts. */
    private static final class Drive {
        private int size = FIRST_SIZE;
        private final int[] index = new int[MOST_PLACES];
        private final Side disk = new Side();
        private final Side mirror = new Side();
        private int writes;
        private int reads;
        private int mirrorReads;
        private int lostReads;
        private int mended;

        private void copyFrom(Drive other) {
            size = other.size;
            System.arraycopy(other.index, 0, index, 0, MOST_PLACES);
            disk.copyFrom(other.disk);
            mirror.copyFrom(other.mirror);
            writes = other.writes;
            reads = other.reads;
            mirrorReads = other.mirrorReads;
            lostReads = other.lostReads;
            mended = other.mended;
        }

        private int startAnew(int newSize) {
            if (newSize < 1 || newSize > MOST_PLACES) {
                return BAD_VALUE;
            }
            int before = size;
            size = newSize;
            Arrays.fill(index, 0);
            disk.clear();
            mirror.clear();
            writes = 0;
            reads = 0;
            mirrorReads = 0;
            lostReads = 0;
            mended = 0;
            return before;
        }

        private boolean hasPlace(int place) {
            return place >= 0 && place < size && place < MOST_PLACES;
        }

        private int roundOf(int place) {
            return hasPlace(place) ? index[place] : 0;
        }

        private boolean isWritten(int place) {
            return roundOf(place) != 0;
        }

        private Side sideOf(int side) {
            return side == 0 ? disk : mirror;
        }

        /** A place that was never written believes no block: its round is 0, and that of no block is. */
        private boolean isBelieved(Side side, int place) {
            return side.reasonAgainst(place, roundOf(place)) == BELIEVED;
        }

        private int store(int place, int data) {
            if (!hasPlace(place)) {
                return NO_SUCH;
            }
            if (data < 0 || data > MOST_DATA) {
                return BAD_VALUE;
            }
            int round = index[place] + 1;
            if (round > MOST_ROUND) {
                return TOO_MANY;
            }
            index[place] = round;
            int nextPlace = place + 1 < size ? place + 1 : 0;
            disk.receive(place, nextPlace, round, data);
            mirror.receive(place, nextPlace, round, data);
            writes++;
            return round;
        }

        private int expect(int side, int kind) {
            if (!isSide(side)) {
                return NO_SUCH;
            }
            if (kind < NO_KIND || kind > ROT) {
                return BAD_VALUE;
            }
            Side waited = sideOf(side);
            int before = waited.waiting;
            waited.waiting = kind;
            return before;
        }

        private int empty(int side, int place) {
            if (!isSide(side) || !hasPlace(place)) {
                return NO_SUCH;
            }
            return sideOf(side).take(place);
        }

        /** Reads a place, and counts it. */
        private int fetch(int place) {
            if (!hasPlace(place)) {
                return NO_SUCH;
            }
            reads++;
            if (!isWritten(place)) {
                return 0;
            }
            if (isBelieved(disk, place)) {
                return disk.dataAt(place);
            }
            mirrorReads++;
            if (isBelieved(mirror, place)) {
                return mirror.dataAt(place);
            }
            lostReads++;
            return NONE;
        }

        /** Tells 1 if the disk was mended, 2 if the mirror was, otherwise 0. */
        private int repair(int place) {
            if (!hasPlace(place)) {
                return NO_SUCH;
            }
            boolean diskBelieved = isBelieved(disk, place);
            if (diskBelieved == isBelieved(mirror, place)) {
                return 0;
            }
            mended++;
            if (diskBelieved) {
                mirror.copyBlock(disk, place);
                return 2;
            }
            disk.copyBlock(mirror, place);
            return 1;
        }

        private int repairAll() {
            int before = mended;
            for (int place = 0; place < size && place < MOST_PLACES; place++) {
                repair(place);
            }
            return mended - before;
        }

        private long setOf(int what) {
            long set = 0;
            for (int place = 0; place < size && place < MOST_PLACES; place++) {
                if (belongs(place, what)) {
                    set |= 1L << place;
                }
            }
            return set;
        }

        private boolean belongs(int place, int what) {
            switch (what) {
                case WRITTEN: return isWritten(place);
                case DISK_BELIEVED: return isBelieved(disk, place);
                case MIRROR_BELIEVED: return isBelieved(mirror, place);
                case LOST: return isWritten(place) && !isBelieved(disk, place) && !isBelieved(mirror, place);
                case MENDABLE: return isBelieved(disk, place) != isBelieved(mirror, place);
                case ASTRAY: return disk.isOfOtherAddress(place) || mirror.isOfOtherAddress(place);
                default: return false;
            }
        }

        private int writtenPlaces() {
            return Long.bitCount(setOf(WRITTEN));
        }
    }

    /** The states before the latest changes, in a ring with one row more than can be undone. */
    private static final class History {
        private final Drive[] rows = new Drive[MOST_UNDOS + 1];
        /** The row that no state is kept in. */
        private int spare;
        private int kept;

        private History() {
            for (int i = 0; i < rows.length; i++) {
                rows[i] = new Drive();
            }
        }

        /** Copies the state into the spare row: whether a change fails is known only behind it. */
        private void prepare(Drive now) {
            Drive row = spareRow();
            if (row != null) {
                row.copyFrom(now);
            }
        }

        /** Keeps the state that was prepared, unless the change's answer is an error; gives the answer on. */
        private int keep(int answer) {
            if (isError(answer)) {
                return answer;
            }
            spare = spare < MOST_UNDOS ? spare + 1 : 0;
            if (kept < MOST_UNDOS) {
                kept++;
            }
            return answer;
        }

        private int takeBack(Drive now) {
            if (kept == 0) {
                return NOT_POSSIBLE;
            }
            kept--;
            spare = spare > 0 ? spare - 1 : MOST_UNDOS;
            Drive row = spareRow();
            if (row != null) {
                now.copyFrom(row);
            }
            return kept;
        }

        private Drive spareRow() {
            return spare >= 0 && spare < rows.length ? rows[spare] : null;
        }
    }

    /** The text that is written on, and the orders that were found in it when it was last scanned. */
    private static final class Pad {
        private static final int WRONG = -1;

        private final char[] signs = new char[LONGEST_PAD];
        private int length;
        /** Where the scan stands; if it stops, this is the fault. */
        private int at;
        private final int[] verbs = new int[MOST_ORDERS];
        private final int[] firsts = new int[MOST_ORDERS];
        private final int[] seconds = new int[MOST_ORDERS];
        private int orders;

        private int append(long characters) {
            int added = lengthOf(characters);
            if (added == 0) {
                return BAD_VALUE;
            }
            if (length + added > LONGEST_PAD) {
                return TOO_MANY;
            }
            for (int i = added - 1; i >= 0 && length >= 0 && length < LONGEST_PAD; i--) {
                signs[length] = (char) ((characters >>> (8 * i)) & 255);
                length++;
            }
            return length;
        }

        /** How many characters a number holds; 0 if they are none, or not right. */
        private static int lengthOf(long characters) {
            long rest = characters;
            int held = 0;
            for (int i = 0; i < 8 && rest != 0; i++) {
                long code = rest & 255;
                if (code < 33 || code > 126) {
                    return 0;
                }
                held++;
                rest >>>= 8;
            }
            return held;
        }

        private int empty() {
            int before = length;
            length = 0;
            return before;
        }

        /** Finds the orders; tells the fault, NONE if there is none. */
        private int scan() {
            at = 0;
            orders = 0;
            boolean right = scanOrder();
            for (int i = 0; i < LONGEST_PAD && right && at < length; i++) {
                right = scanSign(';') && scanOrder();
            }
            return right ? NONE : at;
        }

        private boolean scanOrder() {
            int verb = signAt();
            if (!isVerb(verb)) {
                return false;
            }
            at++;
            int first = 0;
            int second = 0;
            switch (verb) {
                case 'w':
                    first = scanNumber();
                    second = first != WRONG && scanSign('=') ? scanNumber() : WRONG;
                    break;
                case 'r':
                    second = scanNumber();
                    break;
                case '!':
                    first = scanDigit(1);
                    second = first != WRONG ? scanDigit(4) : WRONG;
                    break;
                case 'x':
                    first = scanDigit(1);
                    second = first != WRONG ? scanNumber() : WRONG;
                    break;
                default:
                    break;
            }
            return second != WRONG && note(verb, first, second);
        }

        private static boolean isVerb(int sign) {
            return sign == 'w' || sign == 'r' || sign == '!' || sign == 'x' || sign == 's';
        }

        private boolean note(int verb, int first, int second) {
            if (orders < 0 || orders >= MOST_ORDERS) {
                return false;
            }
            verbs[orders] = verb;
            firsts[orders] = first;
            seconds[orders] = second;
            orders++;
            return true;
        }

        /** The sign at which the scan stands; 0, which no pad holds, behind the last one. */
        private int signAt() {
            return at >= 0 && at < length && at < LONGEST_PAD ? signs[at] : 0;
        }

        private boolean scanSign(int sign) {
            if (signAt() != sign) {
                return false;
            }
            at++;
            return true;
        }

        /** A digit that is not above the most, or WRONG. */
        private int scanDigit(int most) {
            int digit = signAt() - '0';
            if (digit < 0 || digit > most) {
                return WRONG;
            }
            at++;
            return digit;
        }

        /** A number, or WRONG; a digit that may not follow is left where it is: nothing else takes it there. */
        private int scanNumber() {
            int number = scanDigit(9);
            for (int i = 0; i < 4 && number > 0; i++) {
                int digit = signAt() - '0';
                if (digit < 0 || digit > 9 || 10 * number + digit > MOST_DATA) {
                    break;
                }
                number = 10 * number + digit;
                at++;
            }
            return number;
        }
    }
}
