import java.util.ArrayList;
import java.util.List;

/**
 * Promise 1: "Of several exceptions of a call the one named first in its heading is thrown; a call that throws
 * changes nothing (but that get READS)." Each refused call is made on one of two objects that are alike else;
 * whatever can be asked afterwards must be answered alike.
 */
public final class RefusedCallsTest extends Sheet {
    private static final int FULL = 0;
    private static final int PLAIN = 1;
    private static final int NOT_OPEN = 4;

    private interface Call {
        String on(Face face);
    }

    public static void main(String[] args) {
        firstNamedException();
        transactionCallsChangeNothing();
        serverCallsChangeNothing();
        askingCallsChangeNothing();
        getThatThrowsReads();
        getRefusedOtherwiseDoesNotRead();
        Due.end();
    }

    private static void firstNamedException() {
        Face x = fresh("Promise 1: the one named first in its heading is thrown");
        prepare(x);
        title("Promise 1: IllegalArgumentException before IllegalStateException");
        due(IAE, x.begin(FULL, 4, 0));
        due(IAE, x.begin(FULL, 0, 2));
        due(IAE, x.get(NOT_OPEN, 256));
        due(IAE, x.put(NOT_OPEN, 256, 1));
        due(IAE, x.delete(NOT_OPEN, -1));
        due(IAE, x.part(NOT_OPEN, 1, 0, 0));
        due(IAE, x.part(NOT_OPEN, 0, 255, 4));
        due(IAE, x.restart(4));
        title("Promise 1: IllegalArgumentException before IndexOutOfBoundsException");
        due(IAE, x.put(FULL, 256, 1));
        due(IAE, x.delete(FULL, 256));
        due(IAE, x.part(FULL, 1, 0, 0));
        due(IAE, x.part(FULL, 0, 255, 4));
        due(IAE, x.verdict(4, 99));
        due(IAE, x.verdict(-1, -1));
        due(IAE, x.intention(99, 6));
        due(IAE, x.intention(-1, -1));
        title("Promise 1: IllegalStateException before UnsupportedOperationException");
        due(ISE, x.get(NOT_OPEN, 200));
    }

    /** Some INTENTIONS, a TRANSACTION that can take no KEY and no PART more, two others, and all restarts used. */
    private static void prepare(Face x) {
        for (int i = 0; i < 4; i++) {
            x.restart(3);
        }
        write(x, 0, 1, 10);
        write(x, 0, 2, 20);
        erase(x, 0, 3);
        x.advance(0, 2);
        x.advance(1, 3);
        x.begin(FULL, 0, 0);
        for (int i = 0; i < 8; i++) {
            x.put(FULL, 10 + i, i);
            x.part(FULL, 100 + i, 110, 0);
        }
        x.begin(PLAIN, 1, 1);
        x.get(PLAIN, 1);
        x.put(PLAIN, 30, 1);
        x.begin(2, 2, 0);
        write(x, 0, 4, 40);
    }

    /** All that can be asked of the object, before and after the open TRANSACTIONS are committed. */
    private static List<String> picture(Face x) {
        List<String> all = new ArrayList<>();
        serversTold(x, all);
        for (int key : new int[] {0, 1, 10, 50, 255}) {
            all.add("get " + key + " " + x.get(PLAIN, key));
        }
        for (int t = 0; t < 16; t++) {
            all.add("commit " + t + " " + x.commit(t));
        }
        for (int s = 0; s < 4; s++) {
            all.add("advance " + s + " " + x.advance(s, 400));
        }
        serversTold(x, all);
        for (int k = 0; k < 7; k++) {
            for (int what = 0; what < 6; what++) {
                all.add("intention " + k + " " + what + " " + x.intention(k, what));
            }
        }
        all.add("restart " + x.restart(3));
        return all;
    }

    private static void serversTold(Face x, List<String> all) {
        all.add("log " + x.count(0, 0, 0));
        all.add("open " + x.count(1, 0, 0));
        for (int s = 0; s < 4; s++) {
            all.add("gone " + s + " " + x.count(2, s, 0));
            all.add("good " + s + " " + x.count(3, s, 0));
            for (int what = 0; what < 4; what++) {
                all.add("look " + s + " " + what + " " + x.look(s, 0, 255, what));
            }
            for (int key : new int[] {0, 1, 3, 10, 50, 255}) {
                all.add("state " + s + " " + key + " " + x.state(s, key));
                all.add("writer " + s + " " + key + " " + x.count(4, s, key));
            }
            for (int k = 0; k < 7; k++) {
                all.add("verdict " + s + " " + k + " " + x.verdict(s, k));
            }
        }
    }

    private static void changesNothing(String name, String want, Call call) {
        Face x = fresh("Promise 1: a call that throws changes nothing: " + name);
        Face twin = new Real();
        prepare(x);
        prepare(twin);
        due(want, call.on(x));
        List<String> told = picture(x);
        List<String> due = picture(twin);
        for (int i = 0; i < due.size(); i++) {
            due(due.get(i), told.get(i));
        }
    }

    private static void transactionCallsChangeNothing() {
        changesNothing("begin, t", IAE, x -> x.begin(16, 0, 0));
        changesNothing("begin, server", IAE, x -> x.begin(NOT_OPEN, 4, 0));
        changesNothing("begin, level", IAE, x -> x.begin(NOT_OPEN, 0, 2));
        changesNothing("begin, open", ISE, x -> x.begin(FULL, 2, 1));
        changesNothing("begin, open and wrong", IAE, x -> x.begin(PLAIN, 2, 2));
        changesNothing("put, key", IAE, x -> x.put(PLAIN, 256, 7));
        changesNothing("put, not open", ISE, x -> x.put(NOT_OPEN, 50, 7));
        changesNothing("put, ninth", IOOBE, x -> x.put(FULL, 50, 7));
        changesNothing("delete, key", IAE, x -> x.delete(PLAIN, -1));
        changesNothing("delete, not open", ISE, x -> x.delete(NOT_OPEN, 1));
        changesNothing("delete, ninth", IOOBE, x -> x.delete(FULL, 1));
        changesNothing("part, low above high", IAE, x -> x.part(PLAIN, 5, 4, 0));
        changesNothing("part, what", IAE, x -> x.part(PLAIN, 0, 255, 4));
        changesNothing("part, not open", ISE, x -> x.part(NOT_OPEN, 0, 255, 0));
        changesNothing("part, ninth", IOOBE, x -> x.part(FULL, 0, 255, 0));
        changesNothing("commit, t", IAE, x -> x.commit(-1));
        changesNothing("commit, not open", ISE, x -> x.commit(NOT_OPEN));
        changesNothing("abort, t", IAE, x -> x.abort(16));
        changesNothing("abort, not open", ISE, x -> x.abort(NOT_OPEN));
    }

    private static void serverCallsChangeNothing() {
        changesNothing("advance, server", IAE, x -> x.advance(4, 1));
        changesNothing("advance, n below", IAE, x -> x.advance(0, -1));
        changesNothing("advance, n above", IAE, x -> x.advance(0, 401));
        changesNothing("restart, server", IAE, x -> x.restart(-1));
        for (int s = 0; s < 4; s++) {
            int server = s;
            changesNothing("restart, fifth", ISE, x -> x.restart(server));
        }
    }

    private static void askingCallsChangeNothing() {
        changesNothing("state, none", UOE, x -> x.state(0, 50));
        changesNothing("state, key", IAE, x -> x.state(0, 256));
        changesNothing("look, what", IAE, x -> x.look(0, 0, 255, -1));
        changesNothing("verdict, none", IOOBE, x -> x.verdict(0, 4));
        changesNothing("verdict, server", IAE, x -> x.verdict(4, 0));
        changesNothing("intention, none", IOOBE, x -> x.intention(-1, 0));
        changesNothing("intention, what", IAE, x -> x.intention(0, 6));
        changesNothing("count, what", IAE, x -> x.count(5, 0, 0));
        changesNothing("count, k", IAE, x -> x.count(2, 4, 0));
        changesNothing("count, j", IAE, x -> x.count(4, 0, 256));
    }

    private static void getThatThrowsReads() {
        Face x = fresh("Promise 1: a call that throws changes nothing (but that get READS)");
        x.begin(0, 0, 0);
        x.put(0, 1, 1);
        due(UOE, x.get(0, 2));
        x.begin(1, 0, 0);
        x.put(1, 3, 1);
        write(x, 0, 2, 1);
        due(2, committedVerdict(x, 0));
        due(1, committedVerdict(x, 1));
        due(1, x.intention(1, 2));
        due(0, x.intention(2, 2));
    }

    private static void getRefusedOtherwiseDoesNotRead() {
        changesNothing("get, key below", IAE, x -> x.get(PLAIN, -1));
        changesNothing("get, key above", IAE, x -> x.get(PLAIN, 256));
        changesNothing("get, t", IAE, x -> x.get(16, 50));
        changesNothing("get, not open", ISE, x -> x.get(NOT_OPEN, 50));
        changesNothing("get, none where it has written", UOE, x -> {
            x.delete(PLAIN, 30);
            String answer = x.get(PLAIN, 30);
            x.put(PLAIN, 30, 1);
            return answer;
        });
    }
}
