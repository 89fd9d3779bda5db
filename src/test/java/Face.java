/** The calls of the document, each answered by a text, so that a model can stand in for the class. */
interface Face {
    String begin(int t, int server, int level);

    String get(int t, int key);

    String put(int t, int key, long v);

    String delete(int t, int key);

    String part(int t, int low, int high, int what);

    String commit(int t);

    String abort(int t);

    String advance(int server, int n);

    String restart(int server);

    String state(int server, int key);

    String look(int server, int low, int high, int what);

    String verdict(int server, int k);

    String intention(int k, int what);

    String count(int what, int k, int j);
}
