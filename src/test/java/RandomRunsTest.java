import java.util.Random;

/** Random runs of calls, each answer against the second reading of the document in Model. */
public final class RandomRunsTest {
    private static final int RUNS = 1500, CALLS = 200, CALLS_OF_TELLING = 16, MOST_OF_ONE_CHECK = 130;

    private static final String[] KINDS = {"plain", "double", "leaky", "floating", "gas"};
    private static final String[] SKIES = {"fine", "rough", "ice"};

    private final Random random;
    private final Counted x = new Counted();
    private final Model model = new Model();
    private final StringBuilder story = new StringBuilder();
    private boolean good = true;

    private RandomRunsTest(long seed) {
        random = new Random(seed);
    }

    public static void main(String[] args) {
        int wrong = 0;
        for (int run = 0; run < RUNS && wrong < 5; run++) {
            RandomRunsTest test = new RandomRunsTest(run);
            test.play();
            if (!test.good) {
                wrong++;
                System.out.println("run " + run + ":\n" + test.story);
            }
        }
        Due.is("random runs that went apart", wrong, 0);
        Due.end("RandomRunsTest");
    }

    private void play() {
        if (random.nextInt(20) != 0) {
            feed(reefText());
            check("reef()", x.reef(), model.reef());
        }
        if (random.nextBoolean()) {
            feed(skiesText());
            check("skies()", x.skies(), model.skies());
        }
        // one more check may feed two texts, and what is told in the end needs calls too
        for (int i = 0; i < CALLS && good && x.calls() < Counted.MOST_CALLS - MOST_OF_ONE_CHECK - CALLS_OF_TELLING; i++) {
            call();
        }
        for (int what = 0; what <= 15; what++) {
            check("told(" + what + ")", x.told(what), model.told(what));
        }
    }

    private void check(String call, long got, long want) {
        if (!good) {
            return;
        }
        story.append("  ").append(call).append(" = ").append(got).append('\n');
        if (got != want) {
            story.append("  due was ").append(want).append('\n');
            good = false;
        }
    }

    private void feed(String text) {
        story.append("  text '").append(text).append("'\n");
        for (int from = 0; from < text.length();) {
            int n = Math.min(1 + random.nextInt(8), text.length() - from);
            long bytes = random.nextLong();
            for (int i = 0; i < n; i++) {
                bytes = bytes << 8 | text.charAt(from + i);
            }
            check("feed(" + n + ", " + bytes + ")", x.feed(n, bytes), model.feed(n, bytes));
            from += n;
        }
    }

    private int upTo(int most) {
        return random.nextInt(most + 1);
    }

    /** Mostly within the bounds, now and then at or beyond them. */
    private int near(int low, int high) {
        switch (random.nextInt(25)) {
            case 0: return low - 1;
            case 1: return high + 1;
            case 2: return low;
            case 3: return high;
            case 4: return random.nextInt();
            default: return low + random.nextInt(high - low + 1);
        }
    }

    private int aLight() {
        return near(0, Math.max(0, (int) model.told(0) - 1));
    }

    private String sometimesBroken(String text, int oneIn) {
        if (text.isEmpty() || random.nextInt(oneIn) != 0) {
            return text;
        }
        StringBuilder t = new StringBuilder(text);
        int times = 1 + random.nextInt(2);
        for (int i = 0; i < times && t.length() > 0; i++) {
            int at = random.nextInt(t.length());
            String signs = "  ;;,,0123456789abelnz-\t\u00e9A";
            switch (random.nextInt(4)) {
                case 0: t.deleteCharAt(at); break;
                case 1: t.insert(at, signs.charAt(random.nextInt(signs.length()))); break;
                case 2: t.setCharAt(at, signs.charAt(random.nextInt(signs.length()))); break;
                default: t.setLength(at); break;
            }
        }
        return t.toString();
    }

    private String odds() {
        StringBuilder t = new StringBuilder("odds");
        for (int i = 0; i < 3; i++) {
            int a = random.nextInt(4) == 0 ? random.nextInt(2) * 100 : upTo(100);
            int b = upTo(100 - a);
            int c = 100 - a - b + (random.nextInt(60) == 0 ? 1 : 0);
            t.append(' ').append(a).append(' ').append(b).append(' ').append(c);
        }
        return t.append(';').toString();
    }

    private String night() {
        StringBuilder t = new StringBuilder("night ");
        int n = random.nextInt(40) == 0 ? 13 : 1 + random.nextInt(12);
        for (int i = 0; i < n; i++) {
            t.append(i == 0 ? "" : random.nextBoolean() ? "," : " , ").append(1 + random.nextInt(24));
        }
        return t.append(';').toString();
    }

    private String reefText() {
        StringBuilder t = new StringBuilder();
        int lights = random.nextInt(30) == 0 ? 10 : random.nextInt(3) == 0 ? upTo(9) : 1 + random.nextInt(5);
        if (random.nextBoolean()) t.append("boat ").append(1 + random.nextInt(random.nextBoolean() ? 99 : 20)).append(' ').append(1 + random.nextInt(200)).append(';');
        if (random.nextBoolean()) t.append("barrel ").append(upTo(random.nextBoolean() ? 9999 : 100)).append(';');
        for (int i = 0; i < lights; i++) {
            t.append("light ").append(KINDS[random.nextInt(5)]).append(random.nextInt(5) == 0 ? "" : "  ").append(upTo(random.nextBoolean() ? 99 : 20)).append(' ')
                .append(upTo(random.nextBoolean() ? 99 : 12)).append(' ').append(upTo(random.nextBoolean() ? 999 : 90)).append(' ').append(upTo(random.nextBoolean() ? 99 : 3)).append(';');
        }
        if (random.nextBoolean()) t.append("hens ").append(upTo(99)).append(' ').append(1 + random.nextInt(20)).append(';');
        if (random.nextBoolean()) t.append(night());
        if (random.nextInt(4) != 0) t.append(odds());
        if (random.nextInt(30) == 0) t.append("barrel 7;");
        return sometimesBroken(t.toString(), 8);
    }

    private String skiesText() {
        StringBuilder t = new StringBuilder();
        int clauses = random.nextInt(40) == 0 ? 31 : random.nextInt(8);
        for (int i = 0; i < clauses; i++) {
            t.append(SKIES[random.nextInt(3)]).append(clauses == 31 ? "" : " ").append(1 + random.nextInt(clauses == 31 ? 9 : random.nextInt(5) == 0 ? 99 : 6)).append(';');
        }
        return sometimesBroken(t.toString(), 6);
    }

    private void call() {
        switch (random.nextInt(31)) {
            case 0: {
                int n = near(1, 8);
                long bytes = random.nextInt(3) == 0 ? random.nextLong() : ' ';
                check("feed(" + n + ", " + bytes + ")", x.feed(n, bytes), model.feed(n, bytes));
                break;
            }
            case 1:
                if (random.nextInt(6) == 0) {
                    if (random.nextInt(3) != 0) feed(reefText());
                    check("reef()", x.reef(), model.reef());
                }
                break;
            case 2:
                if (random.nextInt(2) == 0) {
                    if (random.nextInt(4) != 0) feed(skiesText());
                    check("skies()", x.skies(), model.skies());
                }
                break;
            case 3: check("fault()", x.fault(), model.fault()); break;
            case 4: case 5: case 6: {
                int what = near(0, 15);
                check("told(" + what + ")", x.told(what), model.told(what));
                break;
            }
            case 7: case 8: {
                int l = aLight(), what = near(0, 8);
                check("light(" + l + ", " + what + ")", x.light(l, what), model.light(l, what));
                break;
            }
            case 9: {
                int day = near(0, random.nextBoolean() ? 9999 : 30);
                check("sky(" + day + ")", x.sky(day), model.sky(day));
                break;
            }
            case 10: {
                int i = near(0, 2), j = near(0, 2);
                check("odds(" + i + ", " + j + ")", x.odds(i, j), model.odds(i, j));
                break;
            }
            default: laterCall(); break;
        }
    }

    private void laterCall() {
        switch (random.nextInt(22)) {
            case 0: case 1: {
                int l = random.nextInt(3) == 0 ? -1 : aLight();
                check("goal(" + l + ")", x.goal(l), model.goal(l));
                break;
            }
            case 2: {
                int l = aLight();
                boolean is = random.nextBoolean();
                check("wick(" + l + ", " + is + ")", x.wick(l, is), model.wick(l, is));
                break;
            }
            case 3: case 4: {
                int n = random.nextInt(10) == 0 ? near(1, 200) : 1 + random.nextInt(4);
                check("go(" + n + ")", x.go(n), model.go(n));
                break;
            }
            case 5: {
                int n = random.nextInt(10) == 0 ? near(1, 200) : 1 + random.nextInt(4);
                check("drift(" + n + ")", x.drift(n), model.drift(n));
                break;
            }
            case 6: {
                int n = near(0, 999);
                check("pour(" + n + ")", x.pour(n), model.pour(n));
                break;
            }
            case 7:
                if (random.nextInt(3) == 0) check("begin()", x.begin(), model.begin());
                break;
            case 8: {
                int n = near(1, model.told(0) > 5 ? 2 : model.told(0) > 3 ? 3 : 4), what = near(0, 5);
                check("round(" + n + ", " + what + ")", x.round(n, what), model.round(n, what));
                break;
            }
            case 9: {
                int q = near(0, random.nextBoolean() ? 99999 : 400), n = near(1, random.nextBoolean() ? 99 : 4);
                check("darken(" + q + ", " + n + ")", x.darken(q, n), model.darken(q, n));
                break;
            }
            case 10: {
                int l = aLight();
                check("lasts(" + l + ")", x.lasts(l), model.lasts(l));
                break;
            }
            case 11: case 12: {
                int l = aLight();
                check("late(" + l + ")", x.late(l), model.late(l));
                break;
            }
            case 13: {
                int l = aLight(), s = near(0, 999);
                check("store(" + l + ", " + s + ")", x.store(l, s), model.store(l, s));
                break;
            }
            case 14: {
                int i = near(0, 2), j = near(0, 2), m = near(0, 60);
                check("comes(" + i + ", " + j + ", " + m + ")", x.comes(i, j, m), model.comes(i, j, m));
                break;
            }
            default: lastCall(); break;
        }
    }

    private void lastCall() {
        switch (random.nextInt(10)) {
            case 0: {
                int set = near(0, (1 << model.told(0)) - 1);
                boolean burning = random.nextBoolean();
                check("say(" + set + ", " + burning + ")", x.say(set, burning), model.say(set, burning));
                break;
            }
            case 1:
                if (random.nextInt(8) == 0) check("forget()", x.forget(), model.forget());
                break;
            case 2: case 3: {
                int m = near(0, random.nextBoolean() ? 9 : 3), e = near(0, random.nextBoolean() ? 12 : 2), what = near(0, 2);
                check("out(" + m + ", " + e + ", " + what + ")", x.out(m, e, what), model.out(m, e, what));
                break;
            }
            case 4: {
                int l = aLight();
                int pages = random.nextInt(10) == 0 ? 41 : 1 + random.nextInt(3);
                for (int i = 0; i < pages; i++) {
                    int oil = l >= 0 && l < model.told(0) && random.nextInt(6) != 0 ? rightPage(l) : near(0, 99999);
                    check("write(" + l + ", " + oil + ")", x.write(l, oil), model.write(l, oil));
                }
                break;
            }
            case 5: {
                int l = aLight();
                if (random.nextInt(6) == 0) check("tear(" + l + ")", x.tear(l), model.tear(l));
                break;
            }
            case 6: {
                int l = aLight();
                check("judge(" + l + ")", x.judge(l), model.judge(l));
                break;
            }
            case 7: {
                int v = random.nextInt();
                check("seed(" + v + ")", x.seed(v), model.seed(v));
                break;
            }
            case 8: {
                int i = near(0, 1);
                check("keep(" + i + ")", x.keep(i), model.keep(i));
                break;
            }
            default: {
                int i = near(0, 1);
                check("goBack(" + i + ")", x.goBack(i), model.goBack(i));
                break;
            }
        }
    }

    /** What an honest keeper would write next, so that books are not all wrong on their first day. */
    private int rightPage(int l) {
        int day = model.books.getOrDefault(l, java.util.List.of()).size();
        return day < model.w.was.size() ? model.w.was.get(day)[l] : upTo(50);
    }
}
