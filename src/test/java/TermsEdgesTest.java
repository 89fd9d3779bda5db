/** Each sentence of the document's "Terms" that names an edge has a test of its own here, under its words. */
public final class TermsEdgesTest extends Sheet {
    public static void main(String[] args) {
        keysGoFrom0To255();
        keysAreApart();
        numberHas64Bits();
        noneIsNotTheNumberZero();
        logHasUpTo400();
        serversGoFrom0To3();
        eachServerHasGoneAsFarAsItHas();
        stateIsWithoutNumbersFirst();
        stateIsChangedInOrderByTheGood();
        snapshotIsFromTheBegin();
        partGoesFromLowToHigh();
        goodLooksFromTheSnapshotOn();
        goodLooksBeforeItAlone();
        goodLooksAtTheGoodAlone();
        levelZeroLooksAtWhatIsRead();
        levelOneLooksAtWhatIsWritten();
        writingCountsWhateverWasThere();
        transactionsGoFrom0To15();
        seesTheStateAsItBegan();
        seesItsOwnWrites();
        atMostEightKeys();
        eighthKeyCountsLikeTheFirst();
        atMostEightParts();
        readsWithoutEnd();
        readIfNotWrittenBefore();
        readIfTheWriteWasRefused();
        partIsReadAlsoWhereWritten();
        samePartAgainCounts();
        keyWrittenAgainIsNotOneMore();
        writesNothingAndIsDone();
        writesNothingAndTheLogIsFull();
        noServerGoesThroughByCommit();
        atMost512Calls();
        Due.end();
    }

    private static void keysGoFrom0To255() {
        Face x = fresh("Terms 1: KEYS 0..255");
        x.begin(0, 0, 0);
        due(1, x.put(0, 0, 5));
        due(2, x.put(0, 255, 6));
        due(5, x.get(0, 0));
        due(6, x.get(0, 255));
        due(11, x.part(0, 0, 255, 1));
        x.commit(0);
        x.advance(0, 1);
        due(5, x.state(0, 0));
        due(6, x.state(0, 255));
        due(0, x.count(4, 0, 0));
        due(0, x.count(4, 0, 255));
        x.begin(0, 0, 0);
        due(1, x.delete(0, 0));
        due(2, x.delete(0, 255));
        for (int key : new int[] {-1, 256}) {
            due(IAE, x.get(0, key));
            due(IAE, x.put(0, key, 1));
            due(IAE, x.delete(0, key));
            due(IAE, x.state(0, key));
            due(IAE, x.count(4, 0, key));
            due(IAE, x.part(0, key, 255, 0));
            due(IAE, x.part(0, 0, key, 0));
            due(IAE, x.look(0, key, 255, 0));
            due(IAE, x.look(0, 0, key, 0));
        }
    }

    private static void keysAreApart() {
        Face x = fresh("Terms 1: KEYS .., each with a number");
        int[] written = {0, 31, 32, 63, 64, 127, 128, 255};
        x.begin(0, 0, 0);
        for (int key : written) {
            x.put(0, key, 1000 + key);
        }
        x.commit(0);
        x.advance(0, 1);
        boolean[] has = new boolean[256];
        for (int key : written) {
            has[key] = true;
        }
        for (int key = 0; key < 256; key++) {
            due(has[key] ? String.valueOf(1000 + key) : UOE, x.state(0, key));
        }
        erase(x, 0, 64);
        x.advance(0, 1);
        due(7, x.look(0, 0, 255, 0));
        due(UOE, x.state(0, 64));
        due(1063, x.state(0, 63));
        due(1128, x.state(0, 128));
    }

    private static void numberHas64Bits() {
        Face x = fresh("Terms 1: a number (64 bits)");
        long[] numbers = {Long.MIN_VALUE, Long.MAX_VALUE, -1, 1L << 31, 1L << 32, -1L << 32, Integer.MIN_VALUE};
        x.begin(0, 0, 0);
        for (int i = 0; i < numbers.length; i++) {
            x.put(0, i, numbers[i]);
            due(numbers[i], x.get(0, i));
            due(numbers[i], x.part(0, i, i, 1));
        }
        x.commit(0);
        x.advance(0, 1);
        x.begin(1, 0, 0);
        for (int i = 0; i < numbers.length; i++) {
            due(numbers[i], x.state(0, i));
            due(numbers[i], x.get(1, i));
            due(numbers[i], x.look(0, i, i, 1));
        }
    }

    private static void noneIsNotTheNumberZero() {
        Face x = fresh("Terms 1: a number or none");
        x.begin(0, 0, 0);
        due(UOE, x.get(0, 7));
        x.put(0, 7, 0);
        due(0, x.get(0, 7));
        due(1, x.part(0, 6, 8, 0));
        x.commit(0);
        x.advance(0, 1);
        due(0, x.state(0, 7));
        due(UOE, x.state(0, 6));
        due(1, x.look(0, 0, 255, 0));
        erase(x, 0, 7);
        x.advance(0, 1);
        due(UOE, x.state(0, 7));
        due(0, x.look(0, 0, 255, 0));
    }

    /** More than 512 calls, as THE LOG cannot be filled in fewer: what is told of it should hold all the same. */
    private static void logHasUpTo400() {
        Face x = fresh("Terms 1: THE LOG has INTENTIONS 0, 1 .. (up to 400)");
        for (int i = 0; i < 400; i++) {
            x.begin(0, 0, 0);
            x.put(0, i % 256, i);
            due(i, x.commit(0));
            due(IOOBE, x.verdict(0, i + 1));
        }
        due(400, x.count(0, 0, 0));
        due(0, x.verdict(0, 399));
        due(1, x.intention(399, 4));
        due(IOOBE, x.intention(400, 4));
        x.begin(0, 0, 0);
        x.put(0, 1, 1);
        due(IOOBE, x.commit(0));
        due(400, x.count(0, 0, 0));
        due(IOOBE, x.intention(400, 4));
        due(400, x.advance(0, 400));
        due(400, x.count(3, 0, 0));
        due(399, x.count(4, 0, 143));
    }

    private static void serversGoFrom0To3() {
        Face x = fresh("Terms 1: SERVERS 0..3");
        for (int s = 0; s < 4; s++) {
            due(DONE, x.begin(s, s, 0));
            x.put(s, s, s);
            due(s, x.commit(s));
            due(s, x.intention(s, 5));
        }
        for (int s = 0; s < 4; s++) {
            due(4, x.advance(s, 400));
            due(6, x.look(s, 0, 255, 1));
            due(1, x.verdict(s, 3));
            due(s, x.state(s, s));
            due(DONE, x.restart(s));
        }
        for (int s : new int[] {-1, 4}) {
            due(IAE, x.begin(0, s, 0));
            due(IAE, x.advance(s, 0));
            due(IAE, x.look(s, 0, 255, 1));
            due(IAE, x.verdict(s, 0));
            due(IAE, x.state(s, 0));
            due(IAE, x.restart(s));
            due(IAE, x.count(2, s, 0));
        }
    }

    private static void eachServerHasGoneAsFarAsItHas() {
        Face x = fresh("Terms 1: SERVERS have gone through the first ones of THE LOG, each as far as it has");
        for (int i = 0; i < 4; i++) {
            write(x, 0, 9, i);
        }
        for (int s = 1; s < 4; s++) {
            x.advance(s, s);
        }
        due(UOE, x.state(0, 9));
        for (int s = 0; s < 4; s++) {
            due(s, x.count(2, s, 0));
            due(s - 1, x.count(4, s, 9));
            for (int k = 0; k < 4; k++) {
                due(k < s ? 1 : 0, x.verdict(s, k));
            }
        }
        for (int s = 1; s < 4; s++) {
            due(s - 1, x.state(s, 9));
        }
    }

    private static void stateIsWithoutNumbersFirst() {
        Face x = fresh("Terms 1: STATE: that of all without numbers");
        for (int key = 0; key < 256; key++) {
            due(UOE, x.state(key % 4, key));
        }
        for (int s = 0; s < 4; s++) {
            due(0, x.look(s, 0, 255, 0));
            due(-1, x.look(s, 0, 255, 2));
        }
    }

    private static void stateIsChangedInOrderByTheGood() {
        Face x = fresh("Terms 1: changed by what these INTENTIONS that are GOOD write, in their order");
        x.begin(0, 0, 0);
        x.get(0, 1);
        x.put(0, 1, 99);
        x.put(0, 2, 99);
        x.delete(0, 4);
        write(x, 0, 4, 40);
        write(x, 0, 1, 10);
        erase(x, 0, 1);
        write(x, 0, 1, 11);
        write(x, 0, 3, 30);
        erase(x, 0, 3);
        due(6, x.commit(0));
        due(7, x.advance(0, 400));
        due(2, x.verdict(0, 6));
        due(11, x.state(0, 1));
        due(UOE, x.state(0, 2));
        due(UOE, x.state(0, 3));
        due(40, x.state(0, 4));
        for (int i = 0; i < 7; i++) {
            x.advance(1, 1);
        }
        due(11, x.state(1, 1));
        due(51, x.look(1, 0, 255, 1));
    }

    private static void snapshotIsFromTheBegin() {
        Face x = fresh("Terms 1: SNAPSHOT (how many its SERVER had gone through as the TRANSACTION began)");
        write(x, 0, 1, 1);
        write(x, 0, 1, 2);
        write(x, 0, 1, 3);
        x.begin(0, 2, 0);
        x.advance(2, 2);
        x.advance(3, 3);
        x.begin(1, 2, 0);
        x.advance(2, 1);
        x.begin(2, 3, 0);
        for (int t = 0; t < 3; t++) {
            x.put(t, 100 + t, 1);
            x.commit(t);
            due(t == 0 ? 0 : t + 1, x.intention(3 + t, 0));
        }
    }

    private static void partGoesFromLowToHigh() {
        Face x = fresh("Terms 1: PARTS (of KEYS from a low to a high)");
        int[] written = {9, 10, 20, 21};
        int[] want = {1, 2, 2, 1};
        for (int t = 0; t < 4; t++) {
            x.begin(t, 3, 0);
            x.part(t, 10, 20, 0);
            x.put(t, 200 + t, 1);
            write(x, 3, written[t], 1);
            due(want[t], committedVerdict(x, t));
        }
        due(2, x.look(3, 10, 20, 0));
        due(10, x.look(3, 10, 20, 2));
        due(20, x.look(3, 10, 20, 3));
    }

    private static void goodLooksFromTheSnapshotOn() {
        Face x = fresh("Terms 1: no INTENTION from its SNAPSHOT on");
        write(x, 0, 1, 1);
        write(x, 0, 2, 1);
        x.advance(0, 1);
        // SNAPSHOT 1: INTENTION 0 stands before it, INTENTION 1 is the first that counts.
        int[] asked = {1, 2};
        for (int t = 0; t < 2; t++) {
            x.begin(t, 0, 0);
            x.get(t, asked[t]);
            x.put(t, 100 + t, 1);
            x.begin(2 + t, 0, 1);
            x.put(2 + t, asked[t], 1);
        }
        due(1, committedVerdict(x, 0));
        due(2, committedVerdict(x, 1));
        due(1, committedVerdict(x, 2));
        due(2, committedVerdict(x, 3));
    }

    private static void goodLooksBeforeItAlone() {
        Face x = fresh("Terms 1: before it");
        x.begin(0, 0, 0);
        x.get(0, 1);
        x.part(0, 0, 255, 0);
        x.put(0, 1, 1);
        x.begin(1, 0, 1);
        x.put(1, 2, 1);
        x.commit(0);
        x.commit(1);
        write(x, 0, 1, 2);
        write(x, 0, 2, 2);
        for (int s = 0; s < 4; s++) {
            x.advance(s, 400);
            due(1, x.verdict(s, 0));
            due(1, x.verdict(s, 1));
        }
        // The last of all those before it counts too.
        x.begin(0, 0, 0);
        x.get(0, 3);
        x.put(0, 4, 1);
        write(x, 0, 5, 1);
        write(x, 0, 3, 1);
        due(2, committedVerdict(x, 0));
    }

    private static void goodLooksAtTheGoodAlone() {
        Face x = fresh("Terms 1: that is GOOD");
        for (int t = 0; t < 4; t++) {
            x.begin(t, 0, t / 2);
        }
        x.get(0, 1);
        x.put(0, 2, 1);
        x.get(1, 2);
        x.put(1, 3, 1);
        x.put(2, 1, 1);
        x.put(2, 4, 1);
        x.put(3, 4, 1);
        write(x, 0, 1, 1);
        due(2, committedVerdict(x, 0));
        due(1, committedVerdict(x, 1));
        due(2, committedVerdict(x, 2));
        due(1, committedVerdict(x, 3));
        due(3, x.count(3, 3, 0));
    }

    private static void levelZeroLooksAtWhatIsRead() {
        Face x = fresh("Terms 1: LEVEL 0: a KEY that it has READ, or in a PART that it has READ");
        for (int t = 0; t < 4; t++) {
            x.begin(t, 0, 0);
            x.put(t, 7, t);
        }
        x.get(1, 8);
        x.part(2, 8, 8, 0);
        x.get(3, 6);
        x.part(3, 100, 255, 0);
        x.part(3, 0, 6, 0);
        write(x, 0, 7, 7);
        write(x, 0, 8, 8);
        due(1, committedVerdict(x, 0));
        due(2, committedVerdict(x, 1));
        due(2, committedVerdict(x, 2));
        due(1, committedVerdict(x, 3));
    }

    private static void levelOneLooksAtWhatIsWritten() {
        Face x = fresh("Terms 1: LEVEL 1: a KEY that it writes");
        for (int t = 0; t < 4; t++) {
            x.begin(t, 0, 1);
        }
        x.get(0, 7);
        x.part(0, 0, 255, 0);
        x.put(0, 8, 1);
        x.put(1, 7, 1);
        for (int key = 100; key < 107; key++) {
            x.put(2, key, 1);
        }
        x.delete(2, 7);
        x.delete(3, 6);
        write(x, 0, 7, 7);
        due(1, committedVerdict(x, 0));
        due(2, committedVerdict(x, 1));
        due(2, committedVerdict(x, 2));
        due(1, committedVerdict(x, 3));
    }

    private static void writingCountsWhateverWasThere() {
        Face x = fresh("Terms 1: (Writing counts, whatever was there before.)");
        write(x, 0, 1, 5);
        x.advance(0, 1);
        for (int t = 0; t < 6; t++) {
            x.begin(t, 0, t / 4);
        }
        x.get(0, 1);
        x.put(0, 100, 1);
        x.get(1, 2);
        x.put(1, 101, 1);
        x.part(2, 1, 1, 0);
        x.put(2, 102, 1);
        x.part(3, 2, 2, 0);
        x.put(3, 103, 1);
        x.put(4, 1, 5);
        x.delete(5, 2);
        // The same number once more, and none where there was none.
        write(x, 0, 1, 5);
        erase(x, 0, 2);
        for (int t = 0; t < 6; t++) {
            due(2, committedVerdict(x, t));
        }
        due(1, x.count(4, 3, 1));
        due(2, x.count(4, 3, 2));
    }

    private static void transactionsGoFrom0To15() {
        Face x = fresh("Terms 2: TRANSACTIONS 0..15 are open at a SERVER or not");
        for (int t = 0; t < 16; t++) {
            due(DONE, x.begin(t, t % 4, t % 2));
            due(t + 1, x.count(1, 0, 0));
        }
        for (int t = 0; t < 16; t++) {
            due(1, x.put(t, t, t));
            due(t, x.get(t, t));
            due(1, x.part(t, 0, 255, 0));
        }
        for (int t = 0; t < 16; t++) {
            due(t, x.commit(t));
            due(t % 4, x.intention(t, 5));
            due(t % 2, x.intention(t, 1));
            due(15 - t, x.count(1, 0, 0));
        }
        for (int t : new int[] {-1, 16}) {
            due(IAE, x.begin(t, 0, 0));
            due(IAE, x.get(t, 0));
            due(IAE, x.put(t, 0, 0));
            due(IAE, x.delete(t, 0));
            due(IAE, x.part(t, 0, 255, 0));
            due(IAE, x.commit(t));
            due(IAE, x.abort(t));
        }
    }

    private static void seesTheStateAsItBegan() {
        Face x = fresh("Terms 2: An open one sees the STATE of its SERVER as it was when it began");
        write(x, 0, 1, 10);
        write(x, 0, 2, 20);
        x.advance(0, 2);
        x.advance(1, 1);
        x.begin(0, 0, 0);
        x.begin(1, 1, 0);
        x.begin(2, 2, 0);
        write(x, 0, 1, 11);
        erase(x, 0, 2);
        write(x, 0, 3, 30);
        for (int s = 0; s < 3; s++) {
            x.advance(s, 400);
        }
        due(10, x.get(0, 1));
        due(20, x.get(0, 2));
        due(UOE, x.get(0, 3));
        due(30, x.part(0, 0, 255, 1));
        due(10, x.part(1, 0, 255, 1));
        due(UOE, x.get(1, 2));
        due(0, x.part(2, 0, 255, 0));
        x.restart(1);
        due(10, x.get(0, 1));
        due(2, x.part(0, 0, 255, 0));
        x.begin(3, 0, 0);
        due(11, x.get(3, 1));
        due(UOE, x.get(3, 2));
        due(41, x.part(3, 0, 255, 1));
    }

    private static void seesItsOwnWrites() {
        Face x = fresh("Terms 2: changed by its own WRITES");
        write(x, 0, 1, 10);
        x.advance(0, 1);
        x.begin(0, 0, 0);
        x.begin(1, 0, 0);
        x.delete(0, 1);
        x.put(0, 2, 20);
        due(UOE, x.get(0, 1));
        due(20, x.get(0, 2));
        due(1, x.part(0, 0, 255, 0));
        due(10, x.get(1, 1));
        due(UOE, x.get(1, 2));
        due(10, x.part(1, 0, 255, 1));
        due(10, x.state(0, 1));
        due(UOE, x.state(0, 2));
        x.put(0, 1, 30);
        x.put(0, 2, 21);
        due(51, x.part(0, 0, 255, 1));
        x.delete(0, 2);
        due(UOE, x.get(0, 2));
        due(30, x.part(0, 0, 255, 1));
    }

    private static void atMostEightKeys() {
        Face x = fresh("Terms 2: at most 8 KEYS");
        x.begin(0, 0, 0);
        x.begin(1, 0, 1);
        for (int i = 0; i < 8; i++) {
            due(i + 1, i % 2 == 0 ? x.put(0, i, i) : x.delete(0, i));
        }
        due(IOOBE, x.put(0, 8, 1));
        due(IOOBE, x.delete(0, 8));
        due(1, x.put(1, 8, 1));
        due(0, x.commit(0));
        due(8, x.intention(0, 4));
        due(1, x.commit(1));
        due(1, x.intention(1, 4));
        x.begin(0, 0, 0);
        due(1, x.put(0, 8, 1));
    }

    private static void eighthKeyCountsLikeTheFirst() {
        Face x = fresh("Terms 2: at most 8 KEYS (the eighth counts like the first)");
        for (int t = 0; t < 5; t++) {
            x.begin(t, 0, t / 4);
        }
        for (int i = 0; i < 8; i++) {
            x.put(0, 10 + i, i);
        }
        x.get(1, 17);
        x.put(1, 1, 1);
        x.part(2, 17, 17, 0);
        x.put(2, 2, 1);
        x.get(3, 18);
        x.put(3, 3, 1);
        x.put(4, 17, 1);
        due(1, committedVerdict(x, 0));
        due(7, x.state(3, 17));
        due(0, x.count(4, 3, 17));
        due(2, committedVerdict(x, 1));
        due(2, committedVerdict(x, 2));
        due(1, committedVerdict(x, 3));
        due(2, committedVerdict(x, 4));
    }

    private static void atMostEightParts() {
        Face x = fresh("Terms 2: at most 8 PARTS");
        x.begin(0, 0, 0);
        x.begin(1, 0, 1);
        for (int i = 0; i < 8; i++) {
            due(0, x.part(0, i, 255, i % 2));
        }
        due(IOOBE, x.part(0, 8, 255, 0));
        due(0, x.part(1, 8, 255, 0));
        x.put(0, 1, 1);
        due(0, x.commit(0));
        due(8, x.intention(0, 3));
        x.begin(0, 0, 0);
        due(0, x.part(0, 8, 255, 0));
        x.put(0, 2, 1);
        x.commit(0);
        due(1, x.intention(1, 3));
    }

    private static void readsWithoutEnd() {
        Face x = fresh("Terms 2: at most 8 KEYS (of those that it writes; of those READ it names no end)");
        x.begin(0, 0, 0);
        for (int key = 0; key < 256; key++) {
            due(UOE, x.get(0, key));
        }
        due(1, x.put(0, 255, 1));
        due(0, x.commit(0));
        due(256, x.intention(0, 2));
    }

    private static void readIfNotWrittenBefore() {
        Face x = fresh("Terms 2: A KEY is READ if its number is asked for, and it has not written it before");
        for (int t = 0; t < 5; t++) {
            x.begin(t, 0, 0);
        }
        x.get(0, 1);
        x.put(0, 1, 1);
        x.put(1, 1, 1);
        due(1, x.get(1, 1));
        x.delete(2, 1);
        due(UOE, x.get(2, 1));
        x.put(3, 2, 1);
        x.get(3, 1);
        x.get(3, 1);
        x.put(4, 1, 1);
        x.state(0, 1);
        x.look(0, 0, 255, 0);
        write(x, 0, 1, 1);
        int[] wantRead = {1, 0, 0, 1, 0};
        for (int t = 0; t < 5; t++) {
            due(wantRead[t] == 1 ? 2 : 1, committedVerdict(x, t));
            due(wantRead[t], x.intention(t + 1, 2));
        }
    }

    private static void readIfTheWriteWasRefused() {
        Face x = fresh("Terms 2: it has not written it before (a refused put has not)");
        x.begin(0, 0, 0);
        for (int key = 10; key < 18; key++) {
            x.put(0, key, key);
        }
        due(IOOBE, x.put(0, 1, 1));
        due(UOE, x.get(0, 1));
        due(IOOBE, x.delete(0, 2));
        due(UOE, x.get(0, 2));
        write(x, 0, 2, 1);
        due(2, committedVerdict(x, 0));
        due(2, x.intention(1, 2));
    }

    private static void partIsReadAlsoWhereWritten() {
        Face x = fresh("Terms 2: A PART is READ as a whole, also where it has written KEYS");
        for (int t = 0; t < 3; t++) {
            x.begin(t, 0, 0);
            x.put(t, 5, t);
        }
        due(1, x.part(0, 5, 5, 0));
        due(1, x.part(1, 0, 255, 0));
        x.part(2, 0, 4, 0);
        x.part(2, 6, 255, 0);
        write(x, 0, 5, 9);
        due(2, committedVerdict(x, 0));
        due(2, committedVerdict(x, 1));
        due(1, committedVerdict(x, 2));
        due(0, x.intention(1, 2));
    }

    private static void samePartAgainCounts() {
        Face x = fresh("Terms 2: each time one is asked for counts as one PART, also the same again");
        x.begin(0, 0, 0);
        for (int i = 0; i < 8; i++) {
            due(0, x.part(0, 3, 4, 0));
        }
        due(IOOBE, x.part(0, 3, 4, 0));
        x.put(0, 1, 1);
        x.commit(0);
        due(8, x.intention(0, 3));
        x.begin(0, 0, 0);
        x.part(0, 3, 4, 0);
        x.part(0, 3, 4, 0);
        x.part(0, 3, 4, 2);
        x.put(0, 1, 1);
        x.commit(0);
        due(3, x.intention(1, 3));
    }

    private static void keyWrittenAgainIsNotOneMore() {
        Face x = fresh("Terms 2: A KEY that is written again is not one KEY more");
        x.begin(0, 0, 0);
        due(1, x.put(0, 1, 1));
        due(1, x.put(0, 1, 1));
        due(1, x.delete(0, 1));
        due(1, x.delete(0, 1));
        due(1, x.put(0, 1, 2));
        for (int i = 2; i <= 8; i++) {
            due(i, x.delete(0, i));
        }
        for (int i = 1; i <= 8; i++) {
            due(8, x.put(0, i, i));
        }
        due(8, x.delete(0, 8));
        x.commit(0);
        due(8, x.intention(0, 4));
        x.advance(0, 1);
        due(28, x.look(0, 0, 255, 1));
    }

    private static void writesNothingAndIsDone() {
        Face x = fresh("Terms 2: comes to THE LOG, but if it writes nothing (it is done then)");
        x.begin(0, 0, 0);
        x.get(0, 1);
        x.part(0, 0, 255, 0);
        x.begin(1, 0, 1);
        due(-1, x.commit(0));
        due(-1, x.commit(1));
        due(0, x.count(0, 0, 0));
        due(0, x.count(1, 0, 0));
        due(IOOBE, x.intention(0, 0));
        due(ISE, x.commit(0));
        due(ISE, x.get(1, 1));
        // A KEY that gets back what it had is written all the same.
        x.begin(0, 0, 0);
        x.delete(0, 1);
        due(0, x.commit(0));
        due(1, x.count(0, 0, 0));
    }

    private static void writesNothingAndTheLogIsFull() {
        Face x = fresh("Terms 2: (Then THE LOG is not looked at, full or not.)");
        x.begin(0, 0, 0);
        x.begin(1, 0, 0);
        x.get(1, 1);
        x.part(1, 0, 255, 0);
        fillLog(x);
        due(-1, x.commit(0));
        due(-1, x.commit(1));
        due(0, x.count(1, 0, 0));
        due(400, x.count(0, 0, 0));
        x.begin(0, 0, 0);
        due(-1, x.commit(0));
    }

    private static void noServerGoesThroughByCommit() {
        Face x = fresh("Terms 2: (No SERVER goes through it by that.)");
        for (int home = 0; home < 4; home++) {
            write(x, home, home, 1);
            x.begin(0, home, 0);
            x.commit(0);
            for (int s = 0; s < 4; s++) {
                due(0, x.count(2, s, 0));
                due(0, x.count(3, s, 0));
                due(-1, x.count(4, s, home));
                due(0, x.verdict(s, home));
                due(UOE, x.state(s, home));
            }
        }
    }

    private static void atMost512Calls() {
        Face x = fresh("What it is: An object is used for at most 512 calls");
        for (int i = 0; i < 170; i++) {
            x.begin(0, 0, 0);
            x.put(0, i % 2, i);
            due(i, x.commit(0));
        }
        due(170, x.advance(3, 400));
        due(168 + 169, x.look(3, 0, 255, 1));
    }
}
