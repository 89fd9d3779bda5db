/** For each promise of the document: ordinary inputs, the edges that it names, and wrong inputs. */
public final class PromisesTest extends Sheet {
    public static void main(String[] args) {
        newObject();
        callThatThrowsChangesNothing();
        begin();
        get();
        getReads();
        put();
        delete();
        part();
        partReads();
        commit();
        fullLog();
        goodAtLevelZero();
        goodAtLevelOne();
        abort();
        advance();
        restart();
        state();
        look();
        verdict();
        intention();
        count();
        Due.end();
    }

    private static void newObject() {
        Face x = fresh("promise 1");
        due(0, x.count(0, 0, 0));
        due(0, x.count(1, 0, 0));
        for (int s = 0; s < 4; s++) {
            due(0, x.count(2, s, 0));
            due(0, x.count(3, s, 0));
            due(-1, x.count(4, s, 0));
            due(-1, x.count(4, s, 255));
            due(UOE, x.state(s, 0));
            due(UOE, x.state(s, 255));
            due(0, x.look(s, 0, 255, 0));
            due(IOOBE, x.verdict(s, 0));
            due(0, x.advance(s, 400));
        }
        due(IOOBE, x.intention(0, 0));
        for (int t = 0; t < 16; t++) {
            due(ISE, x.abort(t));
        }
        Face other = fresh("promise 1, two objects");
        write(other, 0, 1, 1);
        other.advance(0, 1);
        due(0, x.count(0, 0, 0));
        due(UOE, x.state(0, 1));
    }

    private static void callThatThrowsChangesNothing() {
        Face x = fresh("promise 1, throws");
        x.begin(0, 1, 0);
        for (int key = 0; key < 8; key++) {
            x.put(0, key, key);
            x.part(0, key, key, 0);
        }
        due(IOOBE, x.put(0, 8, 5));
        due(UOE, x.get(0, 8));
        due(IOOBE, x.delete(0, 9));
        due(IOOBE, x.part(0, 100, 200, 0));
        due(ISE, x.begin(0, 2, 1));
        due(IAE, x.put(0, 256, 1));
        due(IAE, x.put(0, -1, 1));
        due(0, x.commit(0));
        int[] told = {0, 0, 1, 8, 8, 1};
        for (int what = 0; what < 6; what++) {
            due(told[what], x.intention(0, what));
        }
        due(1, x.advance(1, 1));
        due(8, x.look(1, 0, 255, 0));
        due(UOE, x.state(1, 8));
    }

    private static void begin() {
        Face x = fresh("promise 2");
        due(DONE, x.begin(0, 0, 0));
        due(DONE, x.begin(15, 3, 1));
        due(2, x.count(1, 0, 0));
        due(ISE, x.begin(0, 0, 0));
        due(ISE, x.begin(15, 1, 0));
        for (int far : FAR) {
            due(IAE, x.begin(far, 0, 0));
            due(IAE, x.begin(1, far, 0));
            due(IAE, x.begin(1, 0, far));
            due(IAE, x.begin(0, far, 0));
        }
        due(IAE, x.begin(16, 0, 0));
        due(IAE, x.begin(1, 4, 0));
        due(IAE, x.begin(1, 0, 2));
        due(IAE, x.begin(0, 0, 2));
        due(2, x.count(1, 0, 0));
        x.commit(0);
        due(DONE, x.begin(0, 1, 1));
        x.abort(0);
        due(DONE, x.begin(0, 1, 1));
        due(UOE, x.get(0, 7));
    }

    private static void get() {
        Face x = fresh("promise 3");
        write(x, 0, 0, Long.MIN_VALUE);
        write(x, 0, 255, -1);
        x.advance(0, 2);
        x.begin(0, 0, 0);
        due(Long.MIN_VALUE, x.get(0, 0));
        due(-1, x.get(0, 255));
        due(UOE, x.get(0, 1));
        write(x, 0, 0, 9);
        write(x, 0, 1, 9);
        erase(x, 0, 255);
        x.advance(0, 3);
        due(Long.MIN_VALUE, x.get(0, 0));
        due(-1, x.get(0, 255));
        due(UOE, x.get(0, 1));
        x.put(0, 1, 4);
        due(4, x.get(0, 1));
        x.delete(0, 1);
        due(UOE, x.get(0, 1));
        x.put(0, 0, 0);
        due(0, x.get(0, 0));
        x.begin(1, 0, 0);
        due(9, x.get(1, 0));
        due(UOE, x.get(1, 255));
        x.begin(2, 1, 0);
        due(UOE, x.get(2, 0));
        due(ISE, x.get(3, 0));
        due(IAE, x.get(3, 256));
        due(IAE, x.get(16, 0));
        for (int far : FAR) {
            due(IAE, x.get(far, 0));
            due(IAE, x.get(0, far));
            due(IAE, x.get(3, far));
        }
        x.abort(0);
        x.begin(0, 2, 0);
        due(UOE, x.get(0, 0));
        due(UOE, x.get(0, 1));
    }

    private static void getReads() {
        Face x = fresh("promise 3, what is read");
        x.begin(0, 0, 0);
        x.get(0, 7);
        x.get(0, 7);
        x.get(0, 255);
        x.put(0, 8, 1);
        x.get(0, 8);
        x.delete(0, 9);
        due(UOE, x.get(0, 9));
        x.put(0, 7, 1);
        x.get(0, 7);
        x.commit(0);
        due(2, x.intention(0, 2));
        x.begin(1, 0, 0);
        for (int key = 0; key < 256; key++) {
            x.get(1, key);
        }
        x.put(1, 0, 0);
        x.commit(1);
        due(256, x.intention(1, 2));
    }

    private static void put() {
        Face x = fresh("promise 4");
        x.begin(0, 0, 0);
        for (int i = 0; i < 8; i++) {
            due(i + 1, x.put(0, 255 - i, i));
            due(i + 1, x.put(0, 255 - i, -i));
        }
        due(IOOBE, x.put(0, 0, 1));
        due(8, x.put(0, 255, Long.MAX_VALUE));
        due(8, x.put(0, 248, 1));
        due(UOE, x.get(0, 0));
        due(Long.MAX_VALUE, x.get(0, 255));
        due(ISE, x.put(1, 0, 1));
        due(IAE, x.put(1, 256, 1));
        due(IAE, x.put(0, 256, 1));
        due(IAE, x.put(16, 0, 1));
        for (int far : FAR) {
            due(IAE, x.put(far, 0, 1));
            due(IAE, x.put(1, far, 1));
        }
        x.begin(2, 0, 0);
        due(1, x.put(2, 0, 1));
        x.commit(0);
        x.begin(0, 0, 0);
        due(1, x.put(0, 0, 1));
    }

    private static void delete() {
        Face x = fresh("promise 5");
        write(x, 0, 3, 30);
        x.advance(0, 1);
        x.begin(0, 0, 0);
        due(1, x.delete(0, 3));
        due(UOE, x.get(0, 3));
        due(1, x.delete(0, 3));
        due(2, x.delete(0, 200));
        due(2, x.put(0, 3, 31));
        due(31, x.get(0, 3));
        due(2, x.delete(0, 3));
        for (int i = 3; i <= 8; i++) {
            due(i, x.delete(0, 100 + i));
        }
        due(IOOBE, x.delete(0, 0));
        due(8, x.delete(0, 200));
        due(ISE, x.delete(1, 0));
        due(IAE, x.delete(1, 256));
        due(IAE, x.delete(16, 0));
        for (int far : FAR) {
            due(IAE, x.delete(far, 0));
            due(IAE, x.delete(0, far));
        }
        due(30, x.state(0, 3));
        due(1, x.commit(0));
        due(8, x.intention(1, 4));
        due(30, x.state(0, 3));
        x.advance(0, 1);
        due(UOE, x.state(0, 3));
        due(1, x.count(4, 0, 3));
        due(1, x.count(4, 0, 200));
    }

    private static void part() {
        Face x = fresh("promise 6");
        write(x, 0, 0, Long.MAX_VALUE);
        write(x, 0, 100, 2);
        write(x, 0, 255, -7);
        x.advance(0, 3);
        x.begin(0, 0, 0);
        due(3, x.part(0, 0, 255, 0));
        due(Long.MAX_VALUE - 5, x.part(0, 0, 255, 1));
        due(Long.MIN_VALUE + 1, x.part(0, 0, 100, 1));
        due(0, x.part(0, 0, 255, 2));
        due(255, x.part(0, 0, 255, 3));
        due(100, x.part(0, 1, 254, 2));
        due(100, x.part(0, 0, 254, 3));
        due(1, x.part(0, 100, 100, 0));
        due(IOOBE, x.part(0, 100, 100, 0));
        x.begin(1, 0, 0);
        due(0, x.part(1, 1, 99, 0));
        due(0, x.part(1, 1, 99, 1));
        due(-1, x.part(1, 1, 99, 2));
        due(-1, x.part(1, 1, 99, 3));
        x.put(1, 50, 6);
        x.delete(1, 100);
        due(6, x.part(1, 1, 254, 1));
        due(50, x.part(1, 50, 50, 2));
        write(x, 0, 60, 1);
        x.advance(0, 1);
        due(1, x.part(1, 1, 254, 0));
        due(50, x.part(1, 1, 254, 3));
        partWrongInputs(x);
    }

    private static void partWrongInputs(Face x) {
        title("promise 6, wrong inputs");
        due(ISE, x.part(2, 0, 255, 0));
        due(IAE, x.part(2, 1, 0, 0));
        due(IAE, x.part(0, 255, 254, 0));
        due(IAE, x.part(0, 0, 256, 0));
        due(IAE, x.part(0, 256, 256, 0));
        due(IAE, x.part(0, -1, 5, 0));
        due(IAE, x.part(0, 0, 255, 4));
        due(IAE, x.part(16, 0, 255, 0));
        for (int far : FAR) {
            due(IAE, x.part(far, 0, 255, 0));
            due(IAE, x.part(2, far, 255, 0));
            due(IAE, x.part(2, 0, far, 0));
            due(IAE, x.part(2, far, far, 0));
            due(IAE, x.part(2, 0, 255, far));
        }
    }

    private static void partReads() {
        Face x = fresh("promise 6, what is read");
        x.begin(0, 0, 0);
        for (int i = 0; i < 8; i++) {
            due(0, x.part(0, 10, 19, 0));
        }
        due(IOOBE, x.part(0, 10, 19, 0));
        due(IOOBE, x.part(0, 30, 40, 0));
        x.put(0, 15, 1);
        x.begin(1, 0, 0);
        x.put(1, 15, 1);
        x.part(1, 15, 15, 0);
        write(x, 1, 30, 1);
        x.commit(0);
        x.commit(1);
        due(8, x.intention(1, 3));
        due(0, x.intention(1, 2));
        x.advance(0, 3);
        due(1, x.verdict(0, 1));
        due(2, x.verdict(0, 2));
    }

    private static void commit() {
        Face x = fresh("promise 7");
        x.begin(0, 0, 0);
        x.begin(1, 1, 1);
        x.begin(2, 2, 0);
        x.put(1, 1, 1);
        x.delete(2, 1);
        x.get(0, 1);
        x.part(0, 0, 255, 0);
        due(-1, x.commit(0));
        due(0, x.count(0, 0, 0));
        due(2, x.count(1, 0, 0));
        due(0, x.commit(2));
        due(1, x.commit(1));
        due(2, x.count(0, 0, 0));
        due(0, x.count(1, 0, 0));
        for (int t = 0; t < 3; t++) {
            due(ISE, x.commit(t));
        }
        for (int s = 0; s < 4; s++) {
            due(0, x.count(2, s, 0));
        }
        due(IAE, x.commit(16));
        for (int far : FAR) {
            due(IAE, x.commit(far));
        }
        due(UOE, x.state(1, 1));
    }

    /** More than 512 calls: the document leaves these answers free, but the log must not grow beyond its end. */
    private static void fullLog() {
        Face x = fresh("promise 7, full log");
        x.begin(0, 0, 0);
        x.begin(1, 0, 0);
        x.put(1, 2, 2);
        fillLog(x);
        due(400, x.count(0, 0, 0));
        due(IOOBE, x.commit(1));
        due(2, x.count(1, 0, 0));
        due(-1, x.commit(0));
        due(IOOBE, x.commit(1));
        due(DONE, x.abort(1));
        due(400, x.advance(3, 400));
        due(399, x.state(3, 143));
        due(144, x.count(4, 3, 144));
    }

    private static void goodAtLevelZero() {
        Face x = fresh("terms 1, level 0");
        write(x, 0, 1, 1);
        x.advance(0, 1);
        // TRANSACTION t becomes INTENTION t + 1; 1 reads what 0 wrote, but from before its SNAPSHOT.
        x.begin(0, 0, 0);
        x.get(0, 1);
        x.put(0, 2, 1);
        x.begin(1, 0, 0);
        x.part(1, 0, 4, 0);
        x.put(1, 50, 1);
        x.begin(2, 0, 0);
        x.part(2, 3, 5, 0);
        x.get(2, 50);
        x.put(2, 2, 3);
        x.begin(3, 0, 0);
        x.put(3, 2, 4);
        x.get(3, 2);
        x.begin(4, 3, 0);
        x.get(4, 1);
        x.put(4, 60, 1);
        x.begin(5, 0, 0);
        x.part(5, 2, 2, 0);
        x.put(5, 61, 1);
        x.begin(6, 0, 0);
        x.part(6, 0, 1, 0);
        x.part(6, 3, 255, 0);
        x.put(6, 2, 1);
        for (int t = 0; t < 7; t++) {
            due(t + 1, x.commit(t));
        }
        x.advance(1, 400);
        // 2 reads a PART that 1 writes in; 3 reads what 2 writes, but 2 is not GOOD; 7 goes round KEY 2.
        int[] want = {1, 1, 2, 1, 1, 2, 2, 1};
        for (int k = 0; k < want.length; k++) {
            due(want[k], x.verdict(1, k));
        }
        due(5, x.count(3, 1, 0));
        due(1, x.state(1, 2));
        due(UOE, x.state(1, 50));
        x.begin(0, 1, 0);
        x.get(0, 2);
        x.part(0, 0, 255, 0);
        x.put(0, 2, 9);
        x.commit(0);
        x.advance(1, 1);
        due(1, x.verdict(1, 8));
    }

    private static void goodAtLevelOne() {
        Face x = fresh("terms 1, level 1");
        x.begin(0, 0, 1);
        x.put(0, 1, 1);
        x.begin(1, 0, 1);
        x.get(1, 1);
        x.part(1, 0, 255, 0);
        x.put(1, 2, 1);
        x.begin(2, 0, 1);
        x.put(2, 3, 1);
        x.delete(2, 1);
        x.begin(3, 0, 1);
        x.delete(3, 3);
        x.begin(4, 0, 1);
        x.put(4, 3, 1);
        x.begin(5, 0, 0);
        x.put(5, 3, 8);
        for (int t = 0; t < 6; t++) {
            due(t, x.commit(t));
        }
        // 2 writes what 0 wrote; so 3 may write what 2 would have; deleting nothing is writing: 4 may not.
        int[] want = {1, 1, 2, 1, 2, 1};
        for (int s = 0; s < 4; s++) {
            x.advance(s, 6);
            for (int k = 0; k < want.length; k++) {
                due(want[k], x.verdict(s, k));
            }
            due(8, x.state(s, 3));
            due(5, x.count(4, s, 3));
        }
        x.begin(0, 0, 1);
        x.put(0, 1, 1);
        x.put(0, 3, 1);
        x.commit(0);
        x.advance(0, 1);
        due(1, x.verdict(0, 6));
    }

    private static void abort() {
        Face x = fresh("promise 8");
        x.begin(0, 0, 0);
        x.put(0, 1, 1);
        x.begin(15, 0, 0);
        due(DONE, x.abort(0));
        due(1, x.count(1, 0, 0));
        due(ISE, x.abort(0));
        due(ISE, x.commit(0));
        due(0, x.count(0, 0, 0));
        due(DONE, x.abort(15));
        due(IAE, x.abort(16));
        for (int far : FAR) {
            due(IAE, x.abort(far));
        }
        x.begin(0, 0, 0);
        due(UOE, x.get(0, 1));
        due(-1, x.commit(0));
    }

    private static void advance() {
        Face x = fresh("promise 9");
        for (int i = 0; i < 5; i++) {
            write(x, 0, i, i);
        }
        due(0, x.advance(2, 0));
        due(2, x.advance(2, 2));
        due(2, x.count(2, 2, 0));
        due(1, x.state(2, 1));
        due(UOE, x.state(2, 2));
        due(3, x.advance(2, 400));
        due(0, x.advance(2, 400));
        due(4, x.state(2, 4));
        due(0, x.count(2, 0, 0));
        due(5, x.advance(0, 5));
        due(IAE, x.advance(0, 401));
        due(IAE, x.advance(4, 0));
        for (int far : FAR) {
            due(IAE, x.advance(far, 0));
            due(IAE, x.advance(0, far));
        }
    }

    private static void restart() {
        Face x = fresh("promise 10");
        write(x, 0, 1, 10);
        erase(x, 0, 2);
        x.advance(0, 2);
        x.advance(3, 2);
        x.begin(0, 0, 0);
        x.begin(14, 0, 1);
        x.begin(1, 3, 0);
        due(DONE, x.restart(0));
        due(1, x.count(1, 0, 0));
        due(ISE, x.abort(0));
        due(ISE, x.commit(14));
        due(10, x.get(1, 1));
        due(0, x.count(2, 0, 0));
        due(0, x.count(3, 0, 0));
        due(-1, x.count(4, 0, 1));
        due(-1, x.count(4, 0, 2));
        due(UOE, x.state(0, 1));
        due(0, x.look(0, 0, 255, 0));
        due(0, x.verdict(0, 0));
        due(2, x.count(0, 0, 0));
        due(2, x.count(2, 3, 0));
        due(10, x.state(3, 1));
        due(DONE, x.begin(0, 0, 0));
        due(UOE, x.get(0, 1));
        x.put(0, 3, 3);
        x.commit(0);
        due(0, x.intention(2, 0));
        due(3, x.advance(0, 9));
        due(2, x.verdict(0, 2));
        due(2, x.count(3, 0, 0));
        due(1, x.count(4, 0, 2));
        due(10, x.state(0, 1));
        restartFourTimes();
    }

    private static void restartFourTimes() {
        Face x = fresh("promise 10, four times");
        due(IAE, x.restart(4));
        due(DONE, x.restart(3));
        due(DONE, x.restart(3));
        for (int far : FAR) {
            due(IAE, x.restart(far));
        }
        due(DONE, x.restart(0));
        due(DONE, x.restart(1));
        x.begin(5, 2, 0);
        write(x, 2, 1, 1);
        x.advance(2, 1);
        for (int s = 0; s < 4; s++) {
            due(ISE, x.restart(s));
        }
        due(IAE, x.restart(4));
        due(IAE, x.restart(-1));
        due(1, x.count(1, 0, 0));
        due(1, x.count(2, 2, 0));
    }

    private static void state() {
        Face x = fresh("promise 11");
        write(x, 0, 0, 0);
        write(x, 0, 255, Long.MIN_VALUE);
        write(x, 0, 0, 5);
        erase(x, 0, 255);
        x.advance(1, 2);
        x.advance(2, 4);
        due(0, x.state(1, 0));
        due(Long.MIN_VALUE, x.state(1, 255));
        due(5, x.state(2, 0));
        due(UOE, x.state(2, 255));
        due(UOE, x.state(0, 0));
        due(IAE, x.state(4, 0));
        due(IAE, x.state(0, 256));
        for (int far : FAR) {
            due(IAE, x.state(far, 0));
            due(IAE, x.state(0, far));
        }
        x.begin(0, 1, 0);
        x.put(0, 0, 77);
        due(0, x.state(1, 0));
    }

    private static void look() {
        Face x = fresh("promise 12");
        write(x, 0, 10, Long.MIN_VALUE);
        write(x, 0, 20, -1);
        write(x, 0, 30, 5);
        erase(x, 0, 30);
        x.advance(1, 3);
        x.advance(2, 4);
        due(3, x.look(1, 0, 255, 0));
        due(2, x.look(2, 0, 255, 0));
        due(Long.MAX_VALUE, x.look(2, 0, 255, 1));
        due(10, x.look(1, 10, 30, 2));
        due(30, x.look(1, 10, 30, 3));
        due(20, x.look(1, 11, 30, 2));
        due(20, x.look(1, 10, 29, 3));
        due(10, x.look(1, 10, 10, 3));
        due(10, x.look(1, 10, 10, 2));
        due(-1, x.look(2, 21, 255, 2));
        due(-1, x.look(2, 0, 9, 3));
        due(0, x.look(0, 0, 255, 1));
        for (int i = 0; i < 9; i++) {
            due(1, x.look(1, 20, 20, 0));
        }
        due(IAE, x.look(4, 0, 255, 0));
        due(IAE, x.look(0, 5, 4, 0));
        due(IAE, x.look(0, 0, 256, 0));
        due(IAE, x.look(0, 256, 256, 0));
        due(IAE, x.look(0, 0, 255, 4));
        for (int far : FAR) {
            due(IAE, x.look(far, 0, 255, 0));
            due(IAE, x.look(0, far, 255, 0));
            due(IAE, x.look(0, 0, far, 0));
            due(IAE, x.look(0, 0, 255, far));
        }
    }

    private static void verdict() {
        Face x = fresh("promise 13");
        x.begin(0, 0, 0);
        x.get(0, 1);
        x.put(0, 2, 2);
        write(x, 0, 1, 1);
        x.commit(0);
        due(0, x.verdict(3, 0));
        due(0, x.verdict(3, 1));
        x.advance(3, 1);
        due(1, x.verdict(3, 0));
        due(0, x.verdict(3, 1));
        x.advance(3, 1);
        due(2, x.verdict(3, 1));
        due(0, x.verdict(0, 1));
        due(IOOBE, x.verdict(3, 2));
        due(IAE, x.verdict(4, 0));
        due(IAE, x.verdict(4, 2));
        for (int far : FAR) {
            due(IAE, x.verdict(far, 0));
            due(IAE, x.verdict(far, far));
            due(IOOBE, x.verdict(0, far));
        }
    }

    private static void intention() {
        Face x = fresh("promise 14");
        write(x, 2, 1, 1);
        write(x, 2, 1, 1);
        x.advance(2, 2);
        x.begin(0, 2, 1);
        x.get(0, 5);
        x.get(0, 6);
        x.get(0, 7);
        for (int i = 0; i < 4; i++) {
            x.part(0, 0, 255, i);
        }
        for (int i = 0; i < 5; i++) {
            x.put(0, i, i);
        }
        write(x, 0, 9, 9);
        x.advance(2, 1);
        x.commit(0);
        int[] told = {2, 1, 3, 4, 5, 2};
        for (int what = 0; what < 6; what++) {
            due(told[what], x.intention(3, what));
        }
        int[] plain = {0, 0, 0, 0, 1, 0};
        for (int what = 0; what < 6; what++) {
            due(plain[what], x.intention(2, what));
        }
        due(IAE, x.intention(3, 6));
        due(IAE, x.intention(4, 6));
        due(IOOBE, x.intention(4, 0));
        for (int far : FAR) {
            due(IAE, x.intention(0, far));
            due(IAE, x.intention(far, far));
            due(IOOBE, x.intention(far, 0));
        }
    }

    private static void count() {
        Face x = fresh("promise 15");
        x.begin(0, 0, 0);
        x.get(0, 7);
        x.put(0, 9, 9);
        write(x, 1, 7, 1);
        erase(x, 1, 255);
        x.commit(0);
        x.begin(1, 1, 0);
        due(3, x.count(0, -1, 256));
        due(1, x.count(1, 4, -1));
        x.advance(3, 3);
        x.advance(1, 1);
        due(3, x.count(2, 3, -1));
        due(2, x.count(3, 3, 256));
        due(1, x.count(2, 1, 0));
        due(1, x.count(3, 1, 0));
        due(0, x.count(4, 3, 7));
        due(1, x.count(4, 3, 255));
        due(-1, x.count(4, 3, 9));
        due(-1, x.count(4, 1, 255));
        due(-1, x.count(4, 0, 7));
        due(IAE, x.count(5, 0, 0));
        due(IAE, x.count(4, 0, 256));
        for (int what = 2; what < 5; what++) {
            due(IAE, x.count(what, 4, 0));
            for (int far : FAR) {
                due(IAE, x.count(what, far, 0));
            }
        }
        for (int far : FAR) {
            due(IAE, x.count(far, 0, 0));
            due(IAE, x.count(4, 0, far));
            due(3, x.count(0, far, far));
            due(1, x.count(1, far, far));
            due(0, x.count(2, 0, far));
            due(0, x.count(3, 0, far));
        }
    }
}
