/** The class under test behind the texts of Face. */
final class Real implements Face {
    private final MeldHost host = new MeldHost();

    @Override
    public String begin(int t, int server, int level) {
        return Due.answer(() -> host.begin(t, server, level));
    }

    @Override
    public String get(int t, int key) {
        return Due.answer(() -> (Object) host.get(t, key));
    }

    @Override
    public String put(int t, int key, long v) {
        return Due.answer(() -> (Object) host.put(t, key, v));
    }

    @Override
    public String delete(int t, int key) {
        return Due.answer(() -> (Object) host.delete(t, key));
    }

    @Override
    public String part(int t, int low, int high, int what) {
        return Due.answer(() -> (Object) host.part(t, low, high, what));
    }

    @Override
    public String commit(int t) {
        return Due.answer(() -> (Object) host.commit(t));
    }

    @Override
    public String abort(int t) {
        return Due.answer(() -> host.abort(t));
    }

    @Override
    public String advance(int server, int n) {
        return Due.answer(() -> (Object) host.advance(server, n));
    }

    @Override
    public String restart(int server) {
        return Due.answer(() -> host.restart(server));
    }

    @Override
    public String state(int server, int key) {
        return Due.answer(() -> (Object) host.state(server, key));
    }

    @Override
    public String look(int server, int low, int high, int what) {
        return Due.answer(() -> (Object) host.look(server, low, high, what));
    }

    @Override
    public String verdict(int server, int k) {
        return Due.answer(() -> (Object) host.verdict(server, k));
    }

    @Override
    public String intention(int k, int what) {
        return Due.answer(() -> (Object) host.intention(k, what));
    }

    @Override
    public String count(int what, int k, int j) {
        return Due.answer(() -> (Object) host.count(what, k, j));
    }
}
