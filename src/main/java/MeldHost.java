import java.util.ArrayList;
import java.util.Arrays;

/** A store on a log that servers share; the document's numbered promises say what each call does. */
public final class MeldHost {
    private static final int TRANSACTIONS = 16;
    private static final int SERVERS = 4;
    private static final int LEVELS = 2;
    private static final int KEYS = 256;
    private static final int MOST_WRITES = 8;
    private static final int MOST_PARTS = 8;
    private static final int MOST_INTENTIONS = 400;
    private static final int MOST_RESTARTS = 4;
    private static final int KINDS_OF_PART = 4;
    private static final int KINDS_OF_INTENTION = 6;
    private static final int KINDS_OF_COUNT = 5;

    private final ArrayList<Intention> log;
    private final Server[] servers;
    // What each TRANSACTION would put into THE LOG; null where it is not open.
    private final Intention[] drafts;
    // Made once and filled anew by each begin, so that a run of many begins stays small.
    private final Numbers[] views;
    private int restarts;

    public MeldHost() {
        log = new ArrayList<>();
        servers = new Server[SERVERS];
        for (int s = 0; s < SERVERS; s++) {
            servers[s] = new Server();
        }
        drafts = new Intention[TRANSACTIONS];
        views = new Numbers[TRANSACTIONS];
        for (int t = 0; t < TRANSACTIONS; t++) {
            views[t] = new Numbers();
        }
        restarts = 0;
    }

    public void begin(int t, int server, int level) throws IllegalArgumentException, IllegalStateException {
        needBelow(t, TRANSACTIONS);
        needBelow(server, SERVERS);
        needBelow(level, LEVELS);
        if (drafts[t] != null) {
            throw new IllegalStateException("the transaction is open");
        }
        Server home = servers[server];
        drafts[t] = new Intention(server, home.gone, level);
        // The SERVER may advance while the TRANSACTION is open, which must not see it: so it gets a copy.
        views[t].copyFrom(home.numbers);
    }

    public long get(int t, int key)
            throws IllegalArgumentException, IllegalStateException, UnsupportedOperationException {
        needBelow(t, TRANSACTIONS);
        needBelow(key, KEYS);
        openDraft(t).readKey(key);
        return numberIn(views[t], key);
    }

    public int put(int t, int key, long v)
            throws IllegalArgumentException, IllegalStateException, IndexOutOfBoundsException {
        needBelow(t, TRANSACTIONS);
        needBelow(key, KEYS);
        int writes = writeKey(openDraft(t), key, true, v);
        views[t].give(key, v);
        return writes;
    }

    public int delete(int t, int key)
            throws IllegalArgumentException, IllegalStateException, IndexOutOfBoundsException {
        needBelow(t, TRANSACTIONS);
        needBelow(key, KEYS);
        int writes = writeKey(openDraft(t), key, false, 0);
        views[t].take(key);
        return writes;
    }

    public long part(int t, int low, int high, int what)
            throws IllegalArgumentException, IllegalStateException, IndexOutOfBoundsException {
        needBelow(t, TRANSACTIONS);
        needPart(low, high, what);
        Intention draft = openDraft(t);
        if (draft.parts >= MOST_PARTS) {
            throw new IndexOutOfBoundsException("there would be nine parts");
        }
        draft.readPart(low, high);
        return views[t].tell(low, high, what);
    }

    public int commit(int t) throws IllegalArgumentException, IllegalStateException, IndexOutOfBoundsException {
        needBelow(t, TRANSACTIONS);
        Intention draft = openDraft(t);
        if (draft.writes == 0) {
            drafts[t] = null;
            return -1;
        }
        if (log.size() >= MOST_INTENTIONS) {
            throw new IndexOutOfBoundsException("the log is full");
        }
        // All SERVERS find the same, and by what stands before it alone: so it is found out once, here.
        draft.good = canBeDone(draft);
        log.add(draft);
        drafts[t] = null;
        return log.size() - 1;
    }

    public void abort(int t) throws IllegalArgumentException, IllegalStateException {
        needBelow(t, TRANSACTIONS);
        openDraft(t);
        drafts[t] = null;
    }

    public int advance(int server, int n) throws IllegalArgumentException {
        needBelow(server, SERVERS);
        needBelow(n, MOST_INTENTIONS + 1);
        Server goer = servers[server];
        int steps = Math.min(n, log.size() - goer.gone);
        for (int i = 0; i < steps; i++) {
            goer.goThrough(log.get(goer.gone));
        }
        return steps;
    }

    public void restart(int server) throws IllegalArgumentException, IllegalStateException {
        needBelow(server, SERVERS);
        if (restarts >= MOST_RESTARTS) {
            throw new IllegalStateException("there were four restarts");
        }
        restarts++;
        servers[server].startOver();
        for (int t = 0; t < TRANSACTIONS; t++) {
            if (drafts[t] != null && drafts[t].server == server) {
                drafts[t] = null;
            }
        }
    }

    public long state(int server, int key) throws IllegalArgumentException, UnsupportedOperationException {
        needBelow(server, SERVERS);
        needBelow(key, KEYS);
        return numberIn(servers[server].numbers, key);
    }

    public long look(int server, int low, int high, int what) throws IllegalArgumentException {
        needBelow(server, SERVERS);
        needPart(low, high, what);
        return servers[server].numbers.tell(low, high, what);
    }

    public int verdict(int server, int k) throws IllegalArgumentException, IndexOutOfBoundsException {
        needBelow(server, SERVERS);
        Intention asked = logged(k);
        if (k >= servers[server].gone) {
            return 0;
        }
        return asked.good ? 1 : 2;
    }

    public int intention(int k, int what) throws IllegalArgumentException, IndexOutOfBoundsException {
        needBelow(what, KINDS_OF_INTENTION);
        return logged(k).tell(what);
    }

    public int count(int what, int k, int j) throws IllegalArgumentException {
        needBelow(what, KINDS_OF_COUNT);
        if (what == 0) {
            return log.size();
        }
        if (what == 1) {
            return howManyOpen();
        }
        needBelow(k, SERVERS);
        if (what == 2) {
            return servers[k].gone;
        }
        if (what == 3) {
            return servers[k].goodGone;
        }
        needBelow(j, KEYS);
        return servers[k].lastWriter[j];
    }

    private static void needBelow(int value, int bound) {
        if (value < 0 || value >= bound) {
            throw new IllegalArgumentException("an argument is out of its bounds");
        }
    }

    private static void needPart(int low, int high, int what) {
        needBelow(high, KEYS);
        needBelow(low, high + 1);
        needBelow(what, KINDS_OF_PART);
    }

    private Intention openDraft(int t) {
        Intention draft = drafts[t];
        if (draft == null) {
            throw new IllegalStateException("the transaction is not open");
        }
        return draft;
    }

    private Intention logged(int k) {
        if (k < 0 || k >= log.size()) {
            throw new IndexOutOfBoundsException("there is no such intention");
        }
        return log.get(k);
    }

    private static long numberIn(Numbers numbers, int key) {
        if (!numbers.present.has(key)) {
            throw new UnsupportedOperationException("the key has no number");
        }
        return numbers.numbers[key];
    }

    private static int writeKey(Intention draft, int key, boolean hasNumber, long number) {
        if (!draft.hasRoomFor(key)) {
            throw new IndexOutOfBoundsException("there would be nine keys");
        }
        draft.write(key, hasNumber, number);
        return draft.writes;
    }

    private boolean canBeDone(Intention draft) {
        for (int k = draft.snapshot; k < log.size(); k++) {
            Intention earlier = log.get(k);
            if (earlier.good && draft.isHitBy(earlier)) {
                return false;
            }
        }
        return true;
    }

    private int howManyOpen() {
        int open = 0;
        for (int t = 0; t < TRANSACTIONS; t++) {
            if (drafts[t] != null) {
                open++;
            }
        }
        return open;
    }

    /** Some of the KEYS, a bit for each. */
    private static final class KeySet {
        private static final int BITS = 64;

        private final long[] words = new long[KEYS / BITS];

        boolean has(int key) {
            return (words[key / BITS] >>> (key % BITS) & 1L) != 0;
        }

        void add(int key) {
            words[key / BITS] |= 1L << (key % BITS);
        }

        void drop(int key) {
            words[key / BITS] &= ~(1L << (key % BITS));
        }

        void dropAll() {
            Arrays.fill(words, 0L);
        }

        void copyFrom(KeySet other) {
            System.arraycopy(other.words, 0, words, 0, words.length);
        }

        int size() {
            int size = 0;
            for (int i = 0; i < words.length; i++) {
                size += Long.bitCount(words[i]);
            }
            return size;
        }
    }

    /** What number each KEY has, if any: a SERVER'S STATE, or what a TRANSACTION sees. */
    private static final class Numbers {
        private final KeySet present = new KeySet();
        // Holds what was there before where a KEY is not present.
        private final long[] numbers = new long[KEYS];

        void give(int key, long number) {
            present.add(key);
            numbers[key] = number;
        }

        void take(int key) {
            present.drop(key);
        }

        void takeAll() {
            present.dropAll();
        }

        void copyFrom(Numbers other) {
            present.copyFrom(other.present);
            System.arraycopy(other.numbers, 0, numbers, 0, KEYS);
        }

        long tell(int low, int high, int what) {
            switch (what) {
                case 0:
                    return howMany(low, high);
                case 1:
                    return sum(low, high);
                case 2:
                    return least(low, high);
                default:
                    return greatest(low, high);
            }
        }

        private int howMany(int low, int high) {
            int found = 0;
            for (int key = low; key <= high; key++) {
                if (present.has(key)) {
                    found++;
                }
            }
            return found;
        }

        private long sum(int low, int high) {
            long sum = 0;
            for (int key = low; key <= high; key++) {
                if (present.has(key)) {
                    sum += numbers[key];
                }
            }
            return sum;
        }

        private int least(int low, int high) {
            for (int key = low; key <= high; key++) {
                if (present.has(key)) {
                    return key;
                }
            }
            return -1;
        }

        private int greatest(int low, int high) {
            for (int key = high; key >= low; key--) {
                if (present.has(key)) {
                    return key;
                }
            }
            return -1;
        }
    }

    /** What a TRANSACTION has READ and wants to write; it grows until it comes to THE LOG. */
    private static final class Intention {
        private final int server;
        private final int snapshot;
        private final int level;
        private final KeySet readKeys = new KeySet();
        private final int[] lows = new int[MOST_PARTS];
        private final int[] highs = new int[MOST_PARTS];
        private final int[] writtenKeys = new int[MOST_WRITES];
        // Where false, the WRITE leaves its KEY without a number.
        private final boolean[] hasNumber = new boolean[MOST_WRITES];
        private final long[] newNumbers = new long[MOST_WRITES];
        private int parts;
        private int writes;
        // Says nothing before it is in THE LOG.
        private boolean good;

        Intention(int server, int snapshot, int level) {
            this.server = server;
            this.snapshot = snapshot;
            this.level = level;
        }

        void readKey(int key) {
            // What it sees of a KEY that it has written is its own: no other's WRITE can make that wrong.
            if (!hasWritten(key)) {
                readKeys.add(key);
            }
        }

        void readPart(int low, int high) {
            if (parts < MOST_PARTS) {
                lows[parts] = low;
                highs[parts] = high;
                parts++;
            }
        }

        boolean hasRoomFor(int key) {
            return placeOf(key) < MOST_WRITES;
        }

        void write(int key, boolean isNumber, long number) {
            int place = placeOf(key);
            if (place >= MOST_WRITES) {
                return;
            }
            writtenKeys[place] = key;
            hasNumber[place] = isNumber;
            newNumbers[place] = number;
            writes = Math.max(writes, place + 1);
        }

        /** Where the WRITE of a KEY stands, or would come to stand: then it is how many there are. */
        private int placeOf(int key) {
            for (int i = 0; i < writes; i++) {
                if (writtenKeys[i] == key) {
                    return i;
                }
            }
            return writes;
        }

        private boolean hasWritten(int key) {
            return placeOf(key) < writes;
        }

        private boolean hasRead(int key) {
            for (int i = 0; i < parts; i++) {
                if (lows[i] <= key && key <= highs[i]) {
                    return true;
                }
            }
            return readKeys.has(key);
        }

        boolean isHitBy(Intention earlier) {
            for (int i = 0; i < earlier.writes; i++) {
                int key = earlier.writtenKeys[i];
                if (level == 0 ? hasRead(key) : hasWritten(key)) {
                    return true;
                }
            }
            return false;
        }

        void writeInto(Numbers numbers) {
            for (int i = 0; i < writes; i++) {
                if (hasNumber[i]) {
                    numbers.give(writtenKeys[i], newNumbers[i]);
                } else {
                    numbers.take(writtenKeys[i]);
                }
            }
        }

        void signInto(int[] lastWriter, int number) {
            for (int i = 0; i < writes; i++) {
                lastWriter[writtenKeys[i]] = number;
            }
        }

        int tell(int what) {
            switch (what) {
                case 0:
                    return snapshot;
                case 1:
                    return level;
                case 2:
                    return readKeys.size();
                case 3:
                    return parts;
                case 4:
                    return writes;
                default:
                    return server;
            }
        }
    }

    /** How far a SERVER has gone through THE LOG, and what it has by that. */
    private static final class Server {
        private final Numbers numbers = new Numbers();
        // Kept apart from the numbers: a KEY that was written to none has a writer too.
        private final int[] lastWriter = new int[KEYS];
        private int gone;
        private int goodGone;

        Server() {
            Arrays.fill(lastWriter, -1);
        }

        void goThrough(Intention next) {
            if (next.good) {
                next.writeInto(numbers);
                next.signInto(lastWriter, gone);
                goodGone++;
            }
            gone++;
        }

        void startOver() {
            numbers.takeAll();
            Arrays.fill(lastWriter, -1);
            gone = 0;
            goodGone = 0;
        }
    }
}
