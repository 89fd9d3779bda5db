/** Each sentence of the document's promises that names an edge has a test of its own here, under its words. */
public final class PromiseEdgesTest extends Sheet {
    public static void main(String[] args) {
        logIsEmpty();
        beginArguments();
        beginOfAnOpenOne();
        getArguments();
        getOfOneThatIsNotOpen();
        getOfNoneReads();
        putOfTheNinth();
        putArguments();
        deleteHasNoneFromNowOn();
        deleteOfTheNinth();
        deleteArguments();
        partOfNone();
        partSumWraps();
        partLeastAndGreatest();
        partLowNotAboveHigh();
        partArguments();
        partTheNinthIsNotRead();
        commitIsNotOpenAnyMore();
        commitThatWritesNothing();
        commitWhenTheLogIsFull();
        commitArguments();
        abortIsNotOpenAnyMore();
        advanceUpToN();
        advanceArguments();
        restartGoesBackToNothing();
        restartClosesThoseAtIt();
        restartFourTimes();
        restartRefusedIsNotDone();
        stateOfNone();
        stateArguments();
        lookAsPartTells();
        lookArguments();
        verdictOfEach();
        verdictWhereThereIsNone();
        intentionTellsEach();
        intentionArguments();
        countOfOpenOnes();
        countLastWriter();
        countArguments();
        Due.end();
    }

    private static void logIsEmpty() {
        Face x = fresh("Promise 1: THE LOG is empty");
        due(0, x.count(0, 0, 0));
        due(IOOBE, x.intention(0, 0));
        for (int s = 0; s < 4; s++) {
            due(IOOBE, x.verdict(s, 0));
            due(0, x.advance(s, 400));
            due(0, x.count(2, s, 0));
        }
        write(x, 0, 1, 1);
        due(1, x.count(0, 0, 0));
        due(0, fresh("Promise 1: THE LOG is empty (of each new object)").count(0, 0, 0));
    }

    private static void beginArguments() {
        Face x = fresh("Promise 2: IllegalArgumentException: t, server, level is not 0..1");
        due(DONE, x.begin(0, 0, 0));
        due(DONE, x.begin(15, 3, 1));
        for (int wrong : new int[] {-1, 2, Integer.MIN_VALUE, Integer.MAX_VALUE}) {
            due(IAE, x.begin(1, 0, wrong));
        }
        for (int wrong : new int[] {-1, 4, Integer.MIN_VALUE, Integer.MAX_VALUE}) {
            due(IAE, x.begin(1, wrong, 0));
        }
        for (int wrong : new int[] {-1, 16, Integer.MIN_VALUE, Integer.MAX_VALUE}) {
            due(IAE, x.begin(wrong, 0, 0));
        }
        due(2, x.count(1, 0, 0));
    }

    private static void beginOfAnOpenOne() {
        Face x = fresh("Promise 2: IllegalStateException: it is open");
        x.begin(0, 1, 1);
        x.put(0, 1, 1);
        due(ISE, x.begin(0, 1, 1));
        due(ISE, x.begin(0, 2, 0));
        due(1, x.count(1, 0, 0));
        due(1, x.get(0, 1));
        due(0, x.commit(0));
        due(1, x.intention(0, 5));
        due(1, x.intention(0, 1));
        due(DONE, x.begin(0, 2, 0));
        x.abort(0);
        due(DONE, x.begin(0, 2, 0));
        x.commit(0);
        due(DONE, x.begin(0, 2, 0));
        x.restart(2);
        due(DONE, x.begin(0, 2, 0));
    }

    private static void getArguments() {
        Face x = fresh("Promise 3: IllegalArgumentException: t, key");
        x.begin(0, 0, 0);
        x.begin(15, 0, 0);
        due(UOE, x.get(0, 0));
        due(UOE, x.get(15, 255));
        due(IAE, x.get(16, 0));
        due(IAE, x.get(0, 256));
        for (int far : FAR) {
            due(IAE, x.get(far, 0));
            due(IAE, x.get(0, far));
        }
    }

    private static void getOfOneThatIsNotOpen() {
        Face x = fresh("Promise 3: it is not open (here and below)");
        x.begin(0, 0, 0);
        for (int t = 1; t < 16; t++) {
            due(ISE, x.get(t, 0));
            due(ISE, x.put(t, 0, 0));
            due(ISE, x.delete(t, 0));
            due(ISE, x.part(t, 0, 255, 0));
            due(ISE, x.commit(t));
            due(ISE, x.abort(t));
        }
        due(1, x.count(1, 0, 0));
        due(0, x.count(0, 0, 0));
        due(-1, x.commit(0));
        due(ISE, x.get(0, 0));
    }

    private static void getOfNoneReads() {
        Face x = fresh("Promise 3: UnsupportedOperationException: none (it is READ all the same)");
        write(x, 0, 2, 1);
        erase(x, 0, 2);
        x.advance(0, 2);
        x.begin(0, 0, 0);
        due(UOE, x.get(0, 1));
        x.put(0, 100, 1);
        x.begin(1, 0, 0);
        due(UOE, x.get(1, 2));
        due(UOE, x.get(1, 2));
        x.put(1, 101, 1);
        write(x, 0, 1, 1);
        write(x, 0, 2, 1);
        due(2, committedVerdict(x, 0));
        due(2, committedVerdict(x, 1));
        due(1, x.intention(4, 2));
        due(1, x.intention(5, 2));
    }

    private static void putOfTheNinth() {
        Face x = fresh("Promise 4: IndexOutOfBoundsException: there would be nine");
        x.begin(0, 0, 0);
        for (int i = 0; i < 8; i++) {
            due(i + 1, x.put(0, i, i));
        }
        due(IOOBE, x.put(0, 8, 1));
        due(IOOBE, x.put(0, 255, 1));
        due(UOE, x.get(0, 8));
        due(8, x.put(0, 7, 70));
        due(8, x.put(0, 0, 1));
        due(0, x.commit(0));
        x.advance(0, 1);
        due(8, x.look(0, 0, 255, 0));
        due(70 + 1 + 21, x.look(0, 0, 255, 1));
    }

    private static void putArguments() {
        Face x = fresh("Promise 4: IllegalArgumentException (t, key)");
        x.begin(0, 0, 0);
        x.begin(15, 0, 0);
        due(1, x.put(0, 0, Long.MIN_VALUE));
        due(1, x.put(15, 255, Long.MAX_VALUE));
        due(IAE, x.put(16, 0, 1));
        due(IAE, x.put(0, 256, 1));
        for (int far : FAR) {
            due(IAE, x.put(far, 0, 1));
            due(IAE, x.put(0, far, 1));
        }
        due(2, x.put(0, 255, 1));
    }

    private static void deleteHasNoneFromNowOn() {
        Face x = fresh("Promise 5: A KEY has none from now on");
        write(x, 0, 1, 10);
        x.advance(0, 1);
        x.begin(0, 0, 0);
        due(10, x.get(0, 1));
        due(1, x.delete(0, 1));
        due(UOE, x.get(0, 1));
        due(0, x.part(0, 0, 255, 0));
        // Also where there was none.
        due(2, x.delete(0, 2));
        due(UOE, x.get(0, 2));
        due(10, x.state(0, 1));
        x.commit(0);
        due(10, x.state(0, 1));
        x.advance(0, 1);
        due(UOE, x.state(0, 1));
        due(0, x.look(0, 0, 255, 0));
    }

    private static void deleteOfTheNinth() {
        Face x = fresh("Promise 5: Likewise (there would be nine)");
        write(x, 0, 8, 80);
        x.advance(0, 1);
        x.begin(0, 0, 0);
        for (int i = 0; i < 8; i++) {
            due(i + 1, x.delete(0, i));
        }
        due(IOOBE, x.delete(0, 8));
        due(80, x.get(0, 8));
        due(8, x.delete(0, 7));
        due(8, x.delete(0, 0));
        due(1, x.commit(0));
        x.advance(0, 1);
        due(80, x.state(0, 8));
    }

    private static void deleteArguments() {
        Face x = fresh("Promise 5: Likewise (t, key)");
        x.begin(0, 0, 0);
        x.begin(15, 0, 0);
        due(1, x.delete(0, 0));
        due(1, x.delete(15, 255));
        due(IAE, x.delete(16, 0));
        due(IAE, x.delete(0, 256));
        for (int far : FAR) {
            due(IAE, x.delete(far, 0));
            due(IAE, x.delete(0, far));
        }
        due(2, x.delete(0, 255));
    }

    private static void partOfNone() {
        Face x = fresh("Promise 6: (-1 none)");
        write(x, 0, 9, 1);
        write(x, 0, 21, 1);
        x.advance(0, 2);
        x.begin(0, 0, 0);
        due(0, x.part(0, 10, 20, 0));
        due(0, x.part(0, 10, 20, 1));
        due(-1, x.part(0, 10, 20, 2));
        due(-1, x.part(0, 10, 20, 3));
        x.put(0, 10, 0);
        due(10, x.part(0, 10, 20, 2));
        x.delete(0, 10);
        due(-1, x.part(0, 10, 20, 3));
        x.delete(0, 9);
        x.delete(0, 21);
        due(-1, x.part(0, 0, 255, 2));
        due(-1, x.part(0, 0, 255, 3));
    }

    private static void partSumWraps() {
        Face x = fresh("Promise 6: their sum (wrapping)");
        x.begin(0, 0, 0);
        x.put(0, 1, Long.MAX_VALUE);
        x.put(0, 2, 1);
        due(Long.MIN_VALUE, x.part(0, 0, 255, 1));
        x.put(0, 2, Long.MAX_VALUE);
        due(-2, x.part(0, 0, 255, 1));
        x.put(0, 1, Long.MIN_VALUE);
        x.put(0, 2, -1);
        due(Long.MAX_VALUE, x.part(0, 0, 255, 1));
        x.put(0, 2, Long.MIN_VALUE);
        due(0, x.part(0, 0, 255, 1));
        due(2, x.part(0, 0, 255, 0));
        x.put(0, 1, Integer.MAX_VALUE);
        x.put(0, 2, Integer.MAX_VALUE);
        due(2L * Integer.MAX_VALUE, x.part(0, 0, 255, 1));
        x.delete(0, 2);
        due(Integer.MAX_VALUE, x.part(0, 0, 255, 1));
    }

    private static void partLeastAndGreatest() {
        Face x = fresh("Promise 6: the least, the greatest of these KEYS");
        x.begin(0, 0, 0);
        // The numbers go down while the KEYS go up: it is the KEYS that are told.
        x.put(0, 0, 300);
        x.put(0, 100, 200);
        x.put(0, 255, 100);
        due(0, x.part(0, 0, 255, 2));
        due(255, x.part(0, 0, 255, 3));
        due(100, x.part(0, 1, 255, 2));
        due(100, x.part(0, 0, 254, 3));
        due(100, x.part(0, 100, 100, 2));
        due(100, x.part(0, 100, 100, 3));
        due(255, x.part(0, 101, 255, 2));
        due(0, x.part(0, 0, 99, 3));
    }

    private static void partLowNotAboveHigh() {
        Face x = fresh("Promise 6: low not above high");
        x.begin(0, 0, 0);
        x.put(0, 7, 70);
        due(70, x.part(0, 7, 7, 1));
        due(0, x.part(0, 0, 0, 0));
        due(0, x.part(0, 255, 255, 0));
        due(IAE, x.part(0, 8, 7, 0));
        due(IAE, x.part(0, 1, 0, 0));
        due(IAE, x.part(0, 255, 254, 0));
        due(IAE, x.part(0, 255, 0, 0));
        x.commit(0);
        due(3, x.intention(0, 3));
    }

    private static void partArguments() {
        Face x = fresh("Promise 6: IllegalArgumentException: t, low, high (0..255), what");
        x.begin(0, 0, 0);
        x.begin(15, 0, 0);
        due(0, x.part(0, 0, 255, 0));
        due(-1, x.part(15, 0, 255, 3));
        due(IAE, x.part(16, 0, 255, 0));
        due(IAE, x.part(0, 0, 256, 0));
        due(IAE, x.part(0, 256, 256, 0));
        due(IAE, x.part(0, -1, -1, 0));
        due(IAE, x.part(0, 0, 255, 4));
        for (int far : FAR) {
            due(IAE, x.part(far, 0, 255, 0));
            due(IAE, x.part(0, far, 255, 0));
            due(IAE, x.part(0, 0, far, 0));
            due(IAE, x.part(0, far, far, 0));
            due(IAE, x.part(0, 0, 255, far));
        }
        due(IAE, x.part(0, Integer.MIN_VALUE, Integer.MAX_VALUE, 0));
        due(IAE, x.part(0, Integer.MAX_VALUE, Integer.MIN_VALUE, 0));
    }

    private static void partTheNinthIsNotRead() {
        Face x = fresh("Promise 6: there would be nine PARTS. (Then it is not READ.)");
        x.begin(0, 0, 0);
        x.begin(1, 0, 0);
        for (int i = 0; i < 8; i++) {
            x.part(0, 10, 10, 0);
            x.part(1, i == 7 ? 50 : 10, i == 7 ? 60 : 10, 0);
        }
        for (int what = 0; what < 4; what++) {
            due(IOOBE, x.part(0, 50, 60, what));
        }
        x.put(0, 1, 1);
        x.put(1, 2, 1);
        write(x, 0, 55, 1);
        due(1, committedVerdict(x, 0));
        due(2, committedVerdict(x, 1));
        due(8, x.intention(1, 3));
    }

    private static void commitIsNotOpenAnyMore() {
        Face x = fresh("Promise 7: It is committed, and not open any more: the number of the INTENTION");
        x.begin(3, 0, 0);
        x.begin(4, 0, 0);
        x.put(3, 1, 1);
        x.put(4, 1, 1);
        due(0, x.commit(4));
        due(1, x.count(1, 0, 0));
        due(ISE, x.get(4, 1));
        due(ISE, x.put(4, 1, 1));
        due(ISE, x.part(4, 0, 255, 0));
        due(ISE, x.commit(4));
        due(ISE, x.abort(4));
        due(1, x.commit(3));
        due(0, x.count(1, 0, 0));
        x.begin(4, 0, 0);
        due(UOE, x.get(4, 1));
        due(-1, x.commit(4));
        // Also one that is not GOOD has its number.
        x.begin(4, 0, 0);
        x.get(4, 1);
        x.put(4, 2, 2);
        due(2, x.commit(4));
        x.advance(0, 3);
        due(2, x.verdict(0, 2));
    }

    private static void commitThatWritesNothing() {
        Face x = fresh("Promise 7: -1 if it writes nothing");
        write(x, 0, 1, 1);
        x.begin(0, 0, 0);
        x.begin(1, 0, 1);
        x.get(0, 1);
        x.part(1, 0, 255, 0);
        due(-1, x.commit(0));
        due(-1, x.commit(1));
        due(1, x.count(0, 0, 0));
        due(0, x.count(1, 0, 0));
        x.begin(0, 0, 0);
        due(IAE, x.put(0, 256, 1));
        due(-1, x.commit(0));
    }

    /** More than 512 calls, as THE LOG cannot be filled in fewer: what is told of it should hold all the same. */
    private static void commitWhenTheLogIsFull() {
        Face x = fresh("Promise 7: IndexOutOfBoundsException: THE LOG is full (it stays open)");
        x.begin(0, 1, 0);
        x.put(0, 1, 10);
        fillLog(x);
        for (int i = 0; i < 2; i++) {
            due(IOOBE, x.commit(0));
            due(1, x.count(1, 0, 0));
            due(400, x.count(0, 0, 0));
            due(10, x.get(0, 1));
            due(ISE, x.begin(0, 1, 0));
        }
        due(2, x.put(0, 2, 20));
        due(2, x.part(0, 0, 255, 0));
        due(IOOBE, x.commit(0));
        due(DONE, x.abort(0));
        due(0, x.count(1, 0, 0));
    }

    private static void commitArguments() {
        Face x = fresh("Promises 7 and 8: IllegalArgumentException: t");
        x.begin(0, 0, 0);
        x.begin(15, 0, 0);
        due(IAE, x.commit(16));
        due(IAE, x.abort(16));
        for (int far : FAR) {
            due(IAE, x.commit(far));
            due(IAE, x.abort(far));
        }
        due(-1, x.commit(0));
        due(-1, x.commit(15));
        x.begin(0, 0, 0);
        x.begin(15, 0, 0);
        due(DONE, x.abort(0));
        due(DONE, x.abort(15));
    }

    private static void abortIsNotOpenAnyMore() {
        Face x = fresh("Promise 8: It is not open any more");
        x.begin(0, 0, 0);
        x.get(0, 2);
        x.part(0, 0, 255, 0);
        for (int key = 0; key < 8; key++) {
            x.put(0, key, key);
        }
        due(DONE, x.abort(0));
        due(0, x.count(1, 0, 0));
        due(0, x.count(0, 0, 0));
        due(ISE, x.abort(0));
        due(ISE, x.get(0, 1));
        due(ISE, x.commit(0));
        x.begin(0, 0, 1);
        due(UOE, x.get(0, 1));
        due(1, x.put(0, 9, 9));
        due(0, x.commit(0));
        int[] told = {0, 1, 1, 0, 1, 0};
        for (int what = 0; what < 6; what++) {
            due(told[what], x.intention(0, what));
        }
    }

    private static void advanceUpToN() {
        Face x = fresh("Promise 9: up to n more INTENTIONS: how many");
        for (int i = 0; i < 6; i++) {
            write(x, 0, i, i);
        }
        due(0, x.advance(0, 0));
        due(0, x.count(2, 0, 0));
        due(1, x.advance(0, 1));
        due(3, x.advance(0, 3));
        due(4, x.count(2, 0, 0));
        due(2, x.advance(0, 3));
        due(6, x.count(2, 0, 0));
        due(0, x.advance(0, 1));
        due(0, x.advance(0, 400));
        due(6, x.advance(1, 6));
        due(6, x.advance(2, 400));
        write(x, 0, 9, 9);
        due(1, x.advance(0, 400));
        // One that is not GOOD is gone through like the others.
        x.begin(0, 3, 0);
        x.get(0, 9);
        x.put(0, 8, 8);
        x.commit(0);
        due(1, x.advance(0, 400));
        due(8, x.count(2, 0, 0));
        due(7, x.count(3, 0, 0));
    }

    private static void advanceArguments() {
        Face x = fresh("Promise 9: IllegalArgumentException: server, n is not 0..400");
        write(x, 0, 1, 1);
        due(IAE, x.advance(0, 401));
        due(IAE, x.advance(4, 1));
        for (int far : FAR) {
            due(IAE, x.advance(0, far));
            due(IAE, x.advance(far, 1));
        }
        for (int s = 0; s < 4; s++) {
            due(0, x.count(2, s, 0));
        }
        due(0, x.advance(0, 0));
        due(1, x.advance(0, 400));
        due(IAE, x.advance(0, 401));
    }

    private static void restartGoesBackToNothing() {
        Face x = fresh("Promise 10: A SERVER has gone through nothing");
        write(x, 0, 1, 10);
        write(x, 0, 255, 20);
        erase(x, 0, 2);
        x.advance(1, 3);
        x.advance(2, 3);
        due(DONE, x.restart(1));
        due(0, x.count(2, 1, 0));
        due(0, x.count(3, 1, 0));
        for (int key : new int[] {1, 2, 255}) {
            due(-1, x.count(4, 1, key));
            due(UOE, x.state(1, key));
        }
        due(0, x.look(1, 0, 255, 0));
        due(0, x.look(1, 0, 255, 1));
        for (int k = 0; k < 3; k++) {
            due(0, x.verdict(1, k));
            due(1, x.verdict(2, k));
        }
        due(3, x.count(0, 0, 0));
        due(30, x.look(2, 0, 255, 1));
        x.begin(0, 1, 0);
        due(UOE, x.get(0, 1));
        x.put(0, 3, 1);
        x.commit(0);
        due(0, x.intention(3, 0));
        due(2, x.advance(1, 2));
        due(30, x.look(1, 0, 255, 1));
        due(2, x.advance(1, 400));
        due(2, x.verdict(1, 3));
        due(2, x.count(4, 1, 2));
    }

    private static void restartClosesThoseAtIt() {
        Face x = fresh("Promise 10: TRANSACTIONS at it are not open any more");
        for (int t = 0; t < 16; t++) {
            x.begin(t, t % 4, 0);
            x.put(t, t, t);
        }
        due(DONE, x.restart(3));
        due(12, x.count(1, 0, 0));
        for (int t = 0; t < 16; t++) {
            due(t % 4 == 3 ? ISE : "1", x.put(t, t, t));
        }
        due(ISE, x.commit(3));
        due(ISE, x.abort(15));
        due(DONE, x.begin(3, 0, 0));
        due(13, x.count(1, 0, 0));
        due(1, x.put(3, 9, 9));
        due(DONE, x.restart(0));
        due(8, x.count(1, 0, 0));
        due(0, x.commit(1));
        due(0, x.count(2, 3, 0));
    }

    private static void restartFourTimes() {
        int[][] orders = {{0, 0, 0, 0}, {0, 1, 2, 3}, {3, 3, 1, 3}};
        for (int[] order : orders) {
            Face x = fresh("Promise 10: IllegalStateException: that was done 4 times (of any SERVER)");
            write(x, 0, 1, 1);
            for (int s : order) {
                due(DONE, x.restart(s));
            }
            x.begin(0, 2, 0);
            x.advance(2, 1);
            for (int s = 0; s < 4; s++) {
                due(ISE, x.restart(s));
            }
            due(1, x.count(1, 0, 0));
            due(1, x.count(2, 2, 0));
            due(1, x.state(2, 1));
        }
    }

    private static void restartRefusedIsNotDone() {
        Face x = fresh("Promise 10: IllegalArgumentException: server (a refused one is not one of the 4)");
        due(IAE, x.restart(4));
        for (int far : FAR) {
            due(IAE, x.restart(far));
        }
        for (int i = 0; i < 4; i++) {
            due(DONE, x.restart(i));
        }
        due(ISE, x.restart(0));
        due(IAE, x.restart(4));
        due(IAE, x.restart(-1));
    }

    private static void stateOfNone() {
        Face x = fresh("Promise 11: UnsupportedOperationException: none");
        write(x, 0, 0, 0);
        write(x, 0, 255, -1);
        erase(x, 0, 255);
        x.advance(1, 2);
        x.advance(2, 3);
        due(UOE, x.state(0, 0));
        due(0, x.state(1, 0));
        due(-1, x.state(1, 255));
        due(UOE, x.state(2, 255));
        due(UOE, x.state(1, 254));
    }

    private static void stateArguments() {
        Face x = fresh("Promise 11: IllegalArgumentException: server, key");
        due(UOE, x.state(0, 0));
        due(UOE, x.state(3, 255));
        due(IAE, x.state(4, 0));
        due(IAE, x.state(0, 256));
        for (int far : FAR) {
            due(IAE, x.state(far, 0));
            due(IAE, x.state(0, far));
        }
    }

    private static void lookAsPartTells() {
        Face x = fresh("Promise 12: Of a PART of it, as part() tells");
        for (int what = 0; what < 4; what++) {
            due(what < 2 ? 0 : -1, x.look(0, 0, 255, what));
        }
        write(x, 0, 5, Long.MAX_VALUE);
        write(x, 0, 9, 1);
        write(x, 0, 12, 4);
        erase(x, 0, 12);
        x.advance(0, 400);
        due(2, x.look(0, 0, 255, 0));
        due(Long.MIN_VALUE, x.look(0, 5, 9, 1));
        due(5, x.look(0, 5, 9, 2));
        due(9, x.look(0, 5, 9, 3));
        due(9, x.look(0, 6, 255, 2));
        due(5, x.look(0, 0, 8, 3));
        due(-1, x.look(0, 6, 8, 2));
        due(-1, x.look(0, 10, 255, 3));
        due(1, x.look(0, 9, 9, 0));
        // It is no PART that a TRANSACTION reads: there is no ninth of it.
        x.begin(0, 0, 0);
        x.put(0, 7, 7);
        for (int i = 0; i < 9; i++) {
            due(2, x.look(0, 0, 255, 0));
        }
        x.commit(0);
        due(0, x.intention(4, 3));
    }

    private static void lookArguments() {
        Face x = fresh("Promise 12: IllegalArgumentException: server, low, high, what");
        due(-1, x.look(3, 255, 255, 3));
        due(0, x.look(0, 0, 0, 0));
        due(IAE, x.look(4, 0, 255, 0));
        due(IAE, x.look(0, 1, 0, 0));
        due(IAE, x.look(0, 255, 254, 0));
        due(IAE, x.look(0, 0, 256, 0));
        due(IAE, x.look(0, 256, 256, 0));
        due(IAE, x.look(0, -1, -1, 0));
        due(IAE, x.look(0, 0, 255, 4));
        for (int far : FAR) {
            due(IAE, x.look(far, 0, 255, 0));
            due(IAE, x.look(0, far, 255, 0));
            due(IAE, x.look(0, 0, far, 0));
            due(IAE, x.look(0, 0, 255, far));
        }
    }

    private static void verdictOfEach() {
        Face x = fresh("Promise 13: 0 it has not gone through it, 1 GOOD, 2 not");
        x.begin(0, 0, 0);
        x.get(0, 1);
        x.put(0, 2, 2);
        write(x, 0, 1, 1);
        x.commit(0);
        write(x, 0, 3, 3);
        int[] at = {1, 2, 1};
        for (int gone = 0; gone <= 3; gone++) {
            for (int k = 0; k < 3; k++) {
                due(k < gone ? at[k] : 0, x.verdict(2, k));
                due(0, x.verdict(1, k));
            }
            x.advance(2, 1);
        }
        x.restart(2);
        due(0, x.verdict(2, 0));
        due(0, x.verdict(2, 1));
    }

    private static void verdictWhereThereIsNone() {
        Face x = fresh("Promise 13: IllegalArgumentException: server. IndexOutOfBoundsException: there is none");
        due(IOOBE, x.verdict(0, 0));
        write(x, 0, 1, 1);
        due(0, x.verdict(3, 0));
        due(IOOBE, x.verdict(0, 1));
        due(IAE, x.verdict(4, 0));
        for (int far : FAR) {
            due(IOOBE, x.verdict(0, far));
            due(IAE, x.verdict(far, 0));
        }
        x.advance(0, 1);
        due(IOOBE, x.verdict(0, 1));
    }

    private static void intentionTellsEach() {
        Face x = fresh("Promise 14: SNAPSHOT, LEVEL, KEYS that were READ, PARTS, KEYS that it writes, its SERVER");
        write(x, 0, 1, 1);
        int[] least = {0, 0, 0, 0, 1, 0};
        for (int what = 0; what < 6; what++) {
            due(least[what], x.intention(0, what));
        }
        x.advance(3, 1);
        x.begin(0, 3, 1);
        for (int i = 0; i < 8; i++) {
            x.get(0, 100 + i % 5);
            x.part(0, i, 255, 0);
            x.put(0, i, i);
        }
        x.commit(0);
        int[] most = {1, 1, 5, 8, 8, 3};
        for (int what = 0; what < 6; what++) {
            due(most[what], x.intention(1, what));
        }
    }

    private static void intentionArguments() {
        Face x = fresh("Promise 14: IllegalArgumentException for others. IndexOutOfBoundsException: there is none");
        due(IOOBE, x.intention(0, 5));
        write(x, 0, 1, 1);
        due(0, x.intention(0, 5));
        due(IAE, x.intention(0, 6));
        due(IOOBE, x.intention(1, 0));
        for (int far : FAR) {
            due(IAE, x.intention(0, far));
            due(IOOBE, x.intention(far, 0));
        }
    }

    private static void countOfOpenOnes() {
        Face x = fresh("Promise 15: TRANSACTIONS that are open");
        due(0, x.count(1, 0, 0));
        x.begin(0, 0, 0);
        x.begin(15, 1, 0);
        x.begin(7, 1, 0);
        x.begin(8, 2, 0);
        due(4, x.count(1, 0, 0));
        x.abort(0);
        due(3, x.count(1, 0, 0));
        x.commit(8);
        due(2, x.count(1, 0, 0));
        x.restart(1);
        due(0, x.count(1, 0, 0));
    }

    private static void countLastWriter() {
        Face x = fresh("Promise 15: by which INTENTION that is GOOD KEY j was written last (also to none) there (-1 none)");
        x.begin(0, 0, 0);
        x.get(0, 0);
        x.put(0, 0, 9);
        x.put(0, 9, 9);
        write(x, 0, 0, 1);
        write(x, 0, 0, 2);
        erase(x, 0, 0);
        erase(x, 0, 255);
        due(4, x.commit(0));
        int[] want = {-1, 0, 1, 2, 2, 2};
        for (int gone = 0; gone <= 5; gone++) {
            due(want[gone], x.count(4, 2, 0));
            due(gone < 4 ? -1 : 3, x.count(4, 2, 255));
            due(-1, x.count(4, 2, 9));
            due(-1, x.count(4, 1, 0));
            x.advance(2, 1);
        }
        due(5, x.count(2, 2, 0));
        due(4, x.count(3, 2, 0));
    }

    private static void countArguments() {
        Face x = fresh("Promise 15: IllegalArgumentException for others, k (2 to 4), j (4). (Else k, j are not looked at.)");
        write(x, 0, 1, 1);
        x.begin(0, 0, 0);
        x.advance(3, 1);
        due(IAE, x.count(5, 0, 0));
        due(0, x.count(4, 3, 1));
        due(IAE, x.count(4, 3, 256));
        for (int wrong : new int[] {-1, 4, 256, Integer.MIN_VALUE, Integer.MAX_VALUE}) {
            due(1, x.count(0, wrong, wrong));
            due(1, x.count(1, wrong, wrong));
            for (int what = 2; what <= 4; what++) {
                due(IAE, x.count(what, wrong, 1));
            }
        }
        for (int wrong : new int[] {-1, 256, Integer.MIN_VALUE, Integer.MAX_VALUE}) {
            due(1, x.count(2, 3, wrong));
            due(1, x.count(3, 3, wrong));
            due(IAE, x.count(4, 3, wrong));
        }
        for (int far : FAR) {
            due(IAE, x.count(far, 0, 0));
        }
    }
}
