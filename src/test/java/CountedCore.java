/** An object under test that takes no more calls than the document speaks of: what later ones answer is free. */
final class CountedCore {
    private static final int MOST_CALLS = 512;

    private final ContinuationCore core = new ContinuationCore();
    private int calls;

    private ContinuationCore counted() {
        calls++;
        if (calls > MOST_CALLS) {
            throw new AssertionError("the test makes more than 512 calls");
        }
        return core;
    }

    int text(long signs) {
        return counted().text(signs);
    }

    int clear() {
        return counted().clear();
    }

    int whole() {
        return counted().whole();
    }

    int given(int name, int value) {
        return counted().given(name, value);
    }

    int start() {
        return counted().start();
    }

    int run(int steps) {
        return counted().run(steps);
    }

    int stop() {
        return counted().stop();
    }

    int state(int what) {
        return counted().state(what);
    }

    int sign(int i) {
        return counted().sign(i);
    }

    int global(int name) {
        return counted().global(name);
    }
}
