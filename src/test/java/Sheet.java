/** What the tests share that go through the document's sentences one by one. */
abstract class Sheet {
    static final String IAE = Due.IAE;
    static final String ISE = Due.ISE;
    static final String IOOBE = Due.IOOBE;
    static final String UOE = Due.UOE;
    static final String DONE = Due.DONE;
    static final int[] FAR = {-1, Integer.MIN_VALUE, Integer.MAX_VALUE};

    private static String where = "";

    /** A new object; what is not as due from here on is told under this title. */
    static Face fresh(String title) {
        title(title);
        return new Real();
    }

    static void title(String title) {
        where = title;
    }

    static void due(Object want, String got) {
        StackTraceElement caller = Thread.currentThread().getStackTrace()[2];
        Due.due(where + ", line " + caller.getLineNumber() + ":", want, got);
    }

    /** A committed TRANSACTION 15 at a SERVER that writes one KEY and reads nothing: it is GOOD. */
    static void write(Face x, int server, int key, long v) {
        x.begin(15, server, 0);
        x.put(15, key, v);
        x.commit(15);
    }

    static void erase(Face x, int server, int key) {
        x.begin(15, server, 0);
        x.delete(15, key);
        x.commit(15);
    }

    /** What SERVER 3 says of the INTENTION of a TRANSACTION that is committed now. */
    static String committedVerdict(Face x, int t) {
        String number = x.commit(t);
        x.advance(3, 400);
        return number.startsWith("throws.") ? number : x.verdict(3, Integer.parseInt(number));
    }

    static void fillLog(Face x) {
        for (int i = 0; i < 400; i++) {
            write(x, 0, i % 256, i);
        }
    }
}
