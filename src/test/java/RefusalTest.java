import java.util.function.Supplier;
import java.util.function.ToLongFunction;

/**
 * Every refusal of every call: the first value beyond each bound on both sides and the farthest ones, what is
 * answered, that nothing is changed by it, and which refusal comes first where two meet.
 */
public final class RefusalTest {
    private static final String REEF = "boat 15 40;barrel 90;hens 7 3;night 10,14;odds 60 30 10 20 50 30 10 20 70;"
        + "light plain 12 10 90 5;light leaky 5 8 95 3;light gas 44 0 7 4;";

    public static void main(String[] args) {
        feeding();
        skiesTooLong();
        telling();
        lights();
        skiesAndOdds();
        goalsAndWicks();
        goingAndDrifting();
        pouring();
        rounds();
        darkening();
        lastingLateStore();
        coming();
        sayings();
        outs();
        books();
        seeds();
        images();
        emptyObject();
        Due.end("RefusalTest");
    }

    /** An object with something of everything: days told and drawn, sayings, books, two images, half a text, a fault. */
    private static Counted rich() {
        Counted x = Due.of(REEF, "fine 2;rough 3;ice 4;");
        Due.reef(x, "boat");
        x.seed(4711);
        x.pour(30);
        x.goal(1);
        x.go(2);
        x.keep(0);
        x.goal(0);
        x.wick(1, true);
        x.drift(3);
        x.keep(1);
        x.goal(2);
        x.drift(1);
        x.say(3, true);
        x.say(6, false);
        x.write(0, 80);
        x.write(0, 71);
        x.write(1, 9);
        Due.feed(x, "light gas 7 8 9 6;");
        return x;
    }

    private static void refused(String call, ToLongFunction<Counted> answer, long want) {
        Due.refused(RefusalTest::rich, call, answer, want);
    }

    private static Counted fed(int bytes) {
        Counted x = Due.of(REEF);
        Due.feed(x, "light gas 7 8 9 6;" + " ".repeat(bytes - 18));
        return x;
    }

    private static void feeding() {
        Due.sentence("feed: n 1 .. 8, OUTSIDE");
        for (int n : new int[] {0, 9, -1, Due.FAR_BELOW, Due.FAR_ABOVE}) {
            refused("feed(" + n + ", ' ')", x -> x.feed(n, 32), Due.OUTSIDE);
        }
        Due.sentence("feed: FULL (500)");
        Due.refused(() -> fed(500), "feed(1, ' ') at 500 bytes", x -> x.feed(1, 32), Due.FULL);
        Due.refused(() -> fed(500), "feed(8, x) at 500 bytes", x -> x.feed(8, 0x7878787878787878L), Due.FULL);
        Due.refused(() -> fed(499), "feed(2, ' ') at 499 bytes", x -> x.feed(2, 0x2020), Due.FULL);
        Due.refused(() -> fed(493), "feed(8, x) at 493 bytes", x -> x.feed(8, 0x7878787878787878L), Due.FULL);
        Due.sentence("refusals: OUTSIDE ahead of FULL");
        for (int n : new int[] {0, 9, -1, Due.FAR_BELOW, Due.FAR_ABOVE}) {
            Due.refused(() -> fed(500), "feed(" + n + ", ' ') at 500 bytes", x -> x.feed(n, 32), Due.OUTSIDE);
        }
    }

    private static void skiesTooLong() {
        Due.sentence("skies: NOT: more than 200 bytes (THE TEXT stays)");
        Due.refused(() -> fed(201), "skies() of 201 bytes", Counted::skies, Due.NOT);
        Due.refused(() -> fed(500), "skies() of 500 bytes", Counted::skies, Due.NOT);
    }

    private static void telling() {
        Due.sentence("told: 0 .. 15, OUTSIDE");
        for (int what : new int[] {-1, 16, Due.FAR_BELOW, Due.FAR_ABOVE}) {
            refused("told(" + what + ")", x -> x.told(what), Due.OUTSIDE);
        }
    }

    private static void lights() {
        Due.sentence("light: UNKNOWN");
        for (int l : new int[] {-1, 3, 9, Due.FAR_BELOW, Due.FAR_ABOVE}) {
            refused("light(" + l + ", 0)", x -> x.light(l, 0), Due.UNKNOWN);
            refused("light(" + l + ", 8)", x -> x.light(l, 8), Due.UNKNOWN);
        }
        for (int what : new int[] {-1, 9, Due.FAR_BELOW, Due.FAR_ABOVE}) {
            Due.sentence("light: what 0 .. 8, OUTSIDE");
            refused("light(0, " + what + ")", x -> x.light(0, what), Due.OUTSIDE);
            refused("light(2, " + what + ")", x -> x.light(2, what), Due.OUTSIDE);
            Due.sentence("refusals: UNKNOWN ahead of OUTSIDE");
            refused("light(3, " + what + ")", x -> x.light(3, what), Due.UNKNOWN);
            refused("light(-1, " + what + ")", x -> x.light(-1, what), Due.UNKNOWN);
        }
    }

    private static void skiesAndOdds() {
        Due.sentence("sky: 0 .. 9999, OUTSIDE");
        for (int day : new int[] {-1, 10000, Due.FAR_BELOW, Due.FAR_ABOVE}) {
            refused("sky(" + day + ")", x -> x.sky(day), Due.OUTSIDE);
        }
        Due.sentence("odds: UNKNOWN");
        for (int s : new int[] {-1, 3, Due.FAR_BELOW, Due.FAR_ABOVE}) {
            refused("odds(" + s + ", 0)", x -> x.odds(s, 0), Due.UNKNOWN);
            refused("odds(2, " + s + ")", x -> x.odds(2, s), Due.UNKNOWN);
            refused("odds(1, " + s + ")", x -> x.odds(1, s), Due.UNKNOWN);
            refused("odds(" + s + ", " + s + ")", x -> x.odds(s, s), Due.UNKNOWN);
        }
    }

    private static void goalsAndWicks() {
        Due.sentence("goal: UNKNOWN (NONE: the harbour)");
        for (int l : new int[] {-2, 3, 9, Due.FAR_BELOW, Due.FAR_ABOVE}) {
            refused("goal(" + l + ")", x -> x.goal(l), Due.UNKNOWN);
        }
        Due.sentence("wick: UNKNOWN");
        for (int l : new int[] {-1, 3, 9, Due.FAR_BELOW, Due.FAR_ABOVE}) {
            refused("wick(" + l + ", true)", x -> x.wick(l, true), Due.UNKNOWN);
            refused("wick(" + l + ", false)", x -> x.wick(l, false), Due.UNKNOWN);
        }
    }

    private static void goingAndDrifting() {
        for (int n : new int[] {0, 201, -1, Due.FAR_BELOW, Due.FAR_ABOVE}) {
            Due.sentence("go: 1 .. 200, OUTSIDE");
            refused("go(" + n + ")", x -> x.go(n), Due.OUTSIDE);
            Due.sentence("drift: 1 .. 200, OUTSIDE");
            refused("drift(" + n + ")", x -> x.drift(n), Due.OUTSIDE);
        }
    }

    /** At the harbour, with room in the boat and oil in the barrel: what is wrong could be poured. */
    private static Counted home() {
        return Due.of(REEF);
    }

    private static void pouring() {
        for (int n : new int[] {-1, 1000, Due.FAR_BELOW, Due.FAR_ABOVE}) {
            Due.sentence("pour: n 0 .. 999, OUTSIDE");
            Due.refused(RefusalTest::home, "pour(" + n + ")", x -> x.pour(n), Due.OUTSIDE);
            Due.sentence("refusals: OUTSIDE ahead of NOT");
            refused("pour(" + n + ") at sea", x -> x.pour(n), Due.OUTSIDE);
        }
        Due.sentence("pour: NOT: it is not there");
        for (int n : new int[] {0, 1, 999}) {
            refused("pour(" + n + ") at sea", x -> x.pour(n), Due.NOT);
            Due.refused(() -> aMileOff(0), "pour(" + n + ") a mile off", x -> x.pour(n), Due.NOT);
            Due.refused(() -> aMileOff(-1), "pour(" + n + ") a mile off, on its way home", x -> x.pour(n), Due.NOT);
        }
    }

    private static Counted aMileOff(int goal) {
        Counted x = Due.of("boat 1 40;light plain 9 1 9 1;");
        x.goal(0);
        x.go(1);
        x.goal(goal);
        return x;
    }

    private static void rounds() {
        Due.sentence("round: n 1 .. 4, OUTSIDE");
        for (int n : new int[] {0, 5, -1, Due.FAR_BELOW, Due.FAR_ABOVE}) {
            for (int what : new int[] {0, 1, 2}) {
                refused("round(" + n + ", " + what + ")", x -> x.round(n, what), Due.OUTSIDE);
            }
        }
        Due.sentence("round: OUTSIDE (also a d that is not of n)");
        for (int n = 1; n <= 4; n++) {
            int days = n;
            for (int what : new int[] {-1, n + 2, n + 3, Due.FAR_BELOW, Due.FAR_ABOVE}) {
                refused("round(" + n + ", " + what + ")", x -> x.round(days, what), Due.OUTSIDE);
            }
        }
    }

    private static void darkening() {
        Due.sentence("darken: q 0 .. 99999, OUTSIDE");
        for (int q : new int[] {-1, 100000, Due.FAR_BELOW, Due.FAR_ABOVE}) {
            refused("darken(" + q + ", 1)", x -> x.darken(q, 1), Due.OUTSIDE);
            refused("darken(" + q + ", 99)", x -> x.darken(q, 99), Due.OUTSIDE);
        }
        Due.sentence("darken: nights 1 .. 99, OUTSIDE");
        for (int n : new int[] {0, 100, -1, Due.FAR_BELOW, Due.FAR_ABOVE}) {
            refused("darken(0, " + n + ")", x -> x.darken(0, n), Due.OUTSIDE);
            refused("darken(99999, " + n + ")", x -> x.darken(99999, n), Due.OUTSIDE);
        }
    }

    private static void lastingLateStore() {
        for (int l : new int[] {-1, 3, 9, Due.FAR_BELOW, Due.FAR_ABOVE}) {
            Due.sentence("lasts: UNKNOWN");
            refused("lasts(" + l + ")", x -> x.lasts(l), Due.UNKNOWN);
            Due.sentence("late: UNKNOWN");
            refused("late(" + l + ")", x -> x.late(l), Due.UNKNOWN);
            Due.sentence("store: UNKNOWN");
            refused("store(" + l + ", 0)", x -> x.store(l, 0), Due.UNKNOWN);
            Due.sentence("refusals: UNKNOWN ahead of OUTSIDE");
            refused("store(" + l + ", -1)", x -> x.store(l, -1), Due.UNKNOWN);
            refused("store(" + l + ", 1000)", x -> x.store(l, 1000), Due.UNKNOWN);
        }
        Due.sentence("store: s 0 .. 999, OUTSIDE");
        for (int s : new int[] {-1, 1000, Due.FAR_BELOW, Due.FAR_ABOVE}) {
            refused("store(0, " + s + ")", x -> x.store(0, s), Due.OUTSIDE);
            refused("store(2, " + s + ")", x -> x.store(2, s), Due.OUTSIDE);
        }
    }

    private static void coming() {
        for (int s : new int[] {-1, 3, Due.FAR_BELOW, Due.FAR_ABOVE}) {
            Due.sentence("comes: UNKNOWN");
            refused("comes(" + s + ", 0, 1)", x -> x.comes(s, 0, 1), Due.UNKNOWN);
            refused("comes(0, " + s + ", 1)", x -> x.comes(0, s, 1), Due.UNKNOWN);
            Due.sentence("refusals: UNKNOWN ahead of OUTSIDE");
            refused("comes(" + s + ", 0, -1)", x -> x.comes(s, 0, -1), Due.UNKNOWN);
            refused("comes(0, " + s + ", 61)", x -> x.comes(0, s, 61), Due.UNKNOWN);
        }
        Due.sentence("comes: m DAYS (0 .. 60), OUTSIDE");
        for (int m : new int[] {-1, 61, Due.FAR_BELOW, Due.FAR_ABOVE}) {
            refused("comes(0, 0, " + m + ")", x -> x.comes(0, 0, m), Due.OUTSIDE);
            refused("comes(2, 2, " + m + ")", x -> x.comes(2, 2, m), Due.OUTSIDE);
        }
    }

    private static Counted twelveSayings() {
        Counted x = Due.of(REEF);
        for (int i = 0; i < 12; i++) {
            x.say(i % 8, i % 3 == 0);
        }
        return x;
    }

    private static void sayings() {
        for (int set : new int[] {8, 9, 15, 256, 512, -1, -8, Due.FAR_BELOW, Due.FAR_ABOVE}) {
            Due.sentence("say: UNKNOWN (bits of such)");
            refused("say(" + set + ", true)", x -> x.say(set, true), Due.UNKNOWN);
            refused("say(" + set + ", false)", x -> x.say(set, false), Due.UNKNOWN);
            Due.sentence("refusals: UNKNOWN ahead of FULL");
            Due.refused(RefusalTest::twelveSayings, "say(" + set + ", true) behind twelve", x -> x.say(set, true), Due.UNKNOWN);
        }
        Due.sentence("say: FULL (12)");
        for (int set : new int[] {0, 1, 7}) {
            Due.refused(RefusalTest::twelveSayings, "say(" + set + ", true) behind twelve", x -> x.say(set, true), Due.FULL);
            Due.refused(RefusalTest::twelveSayings, "say(" + set + ", false) behind twelve", x -> x.say(set, false), Due.FULL);
        }
        Due.sentence("say: UNKNOWN, with nine LIGHTS");
        Supplier<Counted> nine = () -> Due.of("light plain 1 1 1 1;".repeat(9));
        Due.refused(nine, "say(512, true)", x -> x.say(512, true), Due.UNKNOWN);
        Due.refused(nine, "say(1023, true)", x -> x.say(1023, true), Due.UNKNOWN);
    }

    private static void outs() {
        Due.sentence("out: m 0 .. 9, OUTSIDE");
        for (int m : new int[] {-1, 10, Due.FAR_BELOW, Due.FAR_ABOVE}) {
            refused("out(" + m + ", 0, 0)", x -> x.out(m, 0, 0), Due.OUTSIDE);
        }
        Due.sentence("out: e 0 .. 12, OUTSIDE");
        for (int e : new int[] {-1, 13, Due.FAR_BELOW, Due.FAR_ABOVE}) {
            refused("out(0, " + e + ", 0)", x -> x.out(0, e, 0), Due.OUTSIDE);
        }
        Due.sentence("out: what = 0, 1, 2, OUTSIDE");
        for (int what : new int[] {-1, 3, Due.FAR_BELOW, Due.FAR_ABOVE}) {
            refused("out(1, 1, " + what + ")", x -> x.out(1, 1, what), Due.OUTSIDE);
            refused("out(9, 0, " + what + "), where there is no SET", x -> x.out(9, 0, what), Due.OUTSIDE);
        }
    }

    private static Counted fortyPages() {
        Counted x = Due.of(REEF);
        for (int i = 0; i < 40; i++) {
            x.write(1, i);
        }
        x.go(3);
        return x;
    }

    private static void books() {
        for (int l : new int[] {-1, 3, 9, Due.FAR_BELOW, Due.FAR_ABOVE}) {
            Due.sentence("write: UNKNOWN");
            refused("write(" + l + ", 0)", x -> x.write(l, 0), Due.UNKNOWN);
            Due.sentence("refusals: UNKNOWN ahead of OUTSIDE");
            refused("write(" + l + ", -1)", x -> x.write(l, -1), Due.UNKNOWN);
            refused("write(" + l + ", 100000)", x -> x.write(l, 100000), Due.UNKNOWN);
            Due.sentence("tear: UNKNOWN");
            refused("tear(" + l + ")", x -> x.tear(l), Due.UNKNOWN);
            Due.sentence("judge: UNKNOWN");
            refused("judge(" + l + ")", x -> x.judge(l), Due.UNKNOWN);
        }
        for (int oil : new int[] {-1, 100000, Due.FAR_BELOW, Due.FAR_ABOVE}) {
            Due.sentence("write: OUTSIDE (0 .. 99999)");
            refused("write(0, " + oil + ")", x -> x.write(0, oil), Due.OUTSIDE);
            refused("write(2, " + oil + "), the first DAY of its BOOK", x -> x.write(2, oil), Due.OUTSIDE);
            Due.sentence("refusals: OUTSIDE ahead of FULL");
            Due.refused(RefusalTest::fortyPages, "write(1, " + oil + ") behind forty", x -> x.write(1, oil), Due.OUTSIDE);
        }
        Due.sentence("write: FULL (40)");
        for (int oil : new int[] {0, 40, 99999}) {
            Due.refused(RefusalTest::fortyPages, "write(1, " + oil + ") behind forty", x -> x.write(1, oil), Due.FULL);
        }
        Due.sentence("refusals: UNKNOWN ahead of FULL");
        Due.refused(RefusalTest::fortyPages, "write(3, 0) while BOOK 1 is full", x -> x.write(3, 0), Due.UNKNOWN);
    }

    private static void seeds() {
        Due.sentence("seed: v 0 .. 2147483647, OUTSIDE");
        for (int v : new int[] {-1, -2147483647, Due.FAR_BELOW}) {
            refused("seed(" + v + ")", x -> x.seed(v), Due.OUTSIDE);
        }
    }

    private static Counted nothingKept() {
        Counted x = Due.of(REEF);
        x.go(1);
        return x;
    }

    private static void images() {
        for (int i : new int[] {-1, 2, Due.FAR_BELOW, Due.FAR_ABOVE}) {
            Due.sentence("keep: UNKNOWN");
            refused("keep(" + i + ")", x -> x.keep(i), Due.UNKNOWN);
            Due.refused(RefusalTest::nothingKept, "keep(" + i + ")", x -> x.keep(i), Due.UNKNOWN);
            Due.sentence("goBack: UNKNOWN");
            refused("goBack(" + i + ")", x -> x.goBack(i), Due.UNKNOWN);
            Due.sentence("refusals: UNKNOWN ahead of NOT");
            Due.refused(RefusalTest::nothingKept, "goBack(" + i + ") with nothing kept", x -> x.goBack(i), Due.UNKNOWN);
        }
        Due.sentence("goBack: NOT: it was not kept");
        for (int i = 0; i < 2; i++) {
            int image = i;
            Due.refused(RefusalTest::nothingKept, "goBack(" + i + ") with nothing kept", x -> x.goBack(image), Due.NOT);
            Supplier<Counted> other = () -> {
                Counted x = nothingKept();
                x.keep(1 - image);
                x.go(2);
                return x;
            };
            Due.refused(other, "goBack(" + i + ") with the other one kept", x -> x.goBack(image), Due.NOT);
        }
    }

    /** Without LIGHTS there is none that a call could be about. */
    private static void emptyObject() {
        Due.sentence("UNKNOWN (a LIGHT that there is not), with no LIGHTS at all");
        Due.refused(Counted::new, "light(0, 0)", x -> x.light(0, 0), Due.UNKNOWN);
        Due.refused(Counted::new, "light(0, 9)", x -> x.light(0, 9), Due.UNKNOWN);
        Due.refused(Counted::new, "goal(0)", x -> x.goal(0), Due.UNKNOWN);
        Due.refused(Counted::new, "wick(0, true)", x -> x.wick(0, true), Due.UNKNOWN);
        Due.refused(Counted::new, "lasts(0)", x -> x.lasts(0), Due.UNKNOWN);
        Due.refused(Counted::new, "late(0)", x -> x.late(0), Due.UNKNOWN);
        Due.refused(Counted::new, "store(0, 0)", x -> x.store(0, 0), Due.UNKNOWN);
        Due.refused(Counted::new, "say(1, true)", x -> x.say(1, true), Due.UNKNOWN);
        Due.refused(Counted::new, "write(0, 0)", x -> x.write(0, 0), Due.UNKNOWN);
        Due.refused(Counted::new, "tear(0)", x -> x.tear(0), Due.UNKNOWN);
        Due.refused(Counted::new, "judge(0)", x -> x.judge(0), Due.UNKNOWN);
        Due.refused(Counted::new, "goBack(0)", x -> x.goBack(0), Due.NOT);
        Due.refused(Counted::new, "goBack(1)", x -> x.goBack(1), Due.NOT);
    }
}
