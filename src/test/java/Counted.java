/**
 * The program with its calls counted: the document promises nothing behind the 512th call of an object,
 * so a test that goes on beyond it is wrong itself.
 */
final class Counted {
    static final int MOST_CALLS = 512;

    private final ReefLights x = new ReefLights();
    private int calls = 0;

    private ReefLights called() {
        calls++;
        if (calls == MOST_CALLS + 1) {
            Due.is("calls of one object in this test", calls, MOST_CALLS);
        }
        return x;
    }

    int calls() {
        return calls;
    }

    int feed(int n, long bytes) {
        return called().feed(n, bytes);
    }

    int reef() {
        return called().reef();
    }

    int skies() {
        return called().skies();
    }

    int fault() {
        return called().fault();
    }

    long told(int what) {
        return called().told(what);
    }

    int light(int l, int what) {
        return called().light(l, what);
    }

    int sky(int day) {
        return called().sky(day);
    }

    int odds(int i, int j) {
        return called().odds(i, j);
    }

    int goal(int l) {
        return called().goal(l);
    }

    int wick(int l, boolean is) {
        return called().wick(l, is);
    }

    int go(int n) {
        return called().go(n);
    }

    int drift(int n) {
        return called().drift(n);
    }

    int pour(int n) {
        return called().pour(n);
    }

    int begin() {
        return called().begin();
    }

    int round(int n, int what) {
        return called().round(n, what);
    }

    int darken(int q, int n) {
        return called().darken(q, n);
    }

    int lasts(int l) {
        return called().lasts(l);
    }

    int late(int l) {
        return called().late(l);
    }

    int store(int l, int s) {
        return called().store(l, s);
    }

    int comes(int i, int j, int m) {
        return called().comes(i, j, m);
    }

    int say(int set, boolean burning) {
        return called().say(set, burning);
    }

    int forget() {
        return called().forget();
    }

    int out(int m, int e, int what) {
        return called().out(m, e, what);
    }

    int write(int l, int oil) {
        return called().write(l, oil);
    }

    int tear(int l) {
        return called().tear(l);
    }

    int judge(int l) {
        return called().judge(l);
    }

    int seed(int v) {
        return called().seed(v);
    }

    int keep(int i) {
        return called().keep(i);
    }

    int goBack(int i) {
        return called().goBack(i);
    }
}
