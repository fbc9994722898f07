/** Promises 16 to 21: round, darken, lasts, late, store, comes. */
public final class TriedTest {
    private static final int[] FAR = {Integer.MIN_VALUE, Integer.MAX_VALUE};

    public static void main(String[] args) {
        roundFilled();
        roundOfLikeOnes();
        roundByBreaches();
        roundCountsFromNow();
        roundChangesNothing();
        roundOutside();
        roundOfNine();
        darkened();
        darkenedByKinds();
        darkenedByNights();
        darkenOutside();
        lasting();
        lastingOutside();
        lateByHand();
        lateBehindTheSky();
        lateCuts();
        storing();
        coming();
        Due.end("TriedTest");
    }

    /** A boat with oil for one of two lights that are both on their last drop. */
    private static Counted twoLights() {
        Counted x = Due.of("boat 10 30;barrel 30;night 10;light plain 5 10 10 4;light plain 8 10 10 6;");
        x.go(1);
        return x;
    }

    private static void roundFilled() {
        Counted x = twoLights();
        Due.is("told(13)", x.told(13), 30);
        Due.is("round(1, 0): the light with fewer ships is dark", x.round(1, 0), 4);
        Due.is("round(1, 1)", x.round(1, 1), 0);
        Due.is("round(1, 2)", x.round(1, 2), 1);
        // two nights: 0 then 1 harms 6 + 4, 1 then 0 harms 4 + 6, 1 then 1 harms 4 + 4
        Due.is("round(2, 0)", x.round(2, 0), 8);
        Due.is("round(2, 1)", x.round(2, 1), 1);
        Due.is("round(2, 2)", x.round(2, 2), 1);
        Due.is("round(2, 3)", x.round(2, 3), 1);
        // three fillings of ten parts, then the boat is empty
        Due.is("round(4, 0)", x.round(4, 0), 22);
        x.goal(1);
        x.go(1);
        Due.is("told(6) behind the round's first day", x.told(6), 4);
        // one part of oil, and just the miles of a day: a mile more is too far
        Counted near = Due.of("boat 10 1;barrel 1;night 10;light plain 10 1 1 4;");
        near.go(1);
        Due.is("round(1, 0) of just the miles", near.round(1, 0), 0);
        Due.is("round(1, 2) of just the miles", near.round(1, 2), 0);
        Counted far = Due.of("boat 10 1;barrel 1;night 10;light plain 11 1 1 4;");
        far.go(1);
        Due.is("round(1, 0) of a mile more", far.round(1, 0), 4);
        Due.is("round(1, 2) of a mile more", far.round(1, 2), -1);
        Due.is("round(2, 0) of a mile more", far.round(2, 0), 4);
        Due.is("round(2, 2) of a mile more", far.round(2, 2), 0);
    }

    private static void roundOfLikeOnes() {
        Counted x = Due.of("boat 10 30;barrel 30;night 10;light plain 5 10 99 4;light plain 8 10 99 6;");
        for (int n = 1; n <= 4; n++) {
            Due.is("round(" + n + ", 0)", x.round(n, 0), 0);
            for (int d = 0; d < n; d++) {
                Due.is("round(" + n + ", " + (2 + d) + "): the harbour is the first", x.round(n, 2 + d), -1);
            }
        }
        // of two like lights the one with the lower number
        Counted y = Due.of("boat 10 30;barrel 30;night 10;light plain 5 10 10 4;light plain 5 10 10 4;");
        y.go(1);
        Due.is("round(1, 0)", y.round(1, 0), 4);
        Due.is("round(1, 2)", y.round(1, 2), 0);
        Counted none = new Counted();
        Due.is("round(4, 0) without lights", none.round(4, 0), 0);
        Due.is("round(4, 5) without lights", none.round(4, 5), -1);
    }

    private static void roundByBreaches() {
        // both lights are dark, of no ships; light 1 for the second night on end: to fill it spares the breach
        Counted x = Due.of("boat 10 30;barrel 30;night 10;light plain 5 10 10 0;light plain 5 10 9 0;");
        x.go(1);
        Due.is("round(1, 0)", x.round(1, 0), 0);
        Due.is("light(1, 7)", x.light(1, 7), 1);
        Due.is("round(1, 1): a light that holds too little is dark all the same", x.round(1, 1), 1);
        Counted y = Due.of("boat 10 30;barrel 30;night 10;light plain 5 10 10 0;light plain 5 10 10 0;light plain 30 20 10 0;");
        y.go(2);
        Due.is("round(1, 1)", y.round(1, 1), 2);
        Due.is("round(1, 2)", y.round(1, 2), 0);
        // by turns neither of the first two is dark on the second day for a second night on end
        Due.is("round(2, 1)", y.round(2, 1), 3);
        Due.is("round(2, 2)", y.round(2, 2), 0);
        Due.is("round(2, 3)", y.round(2, 3), 1);
    }

    private static void roundCountsFromNow() {
        Counted x = twoLights();
        x.go(5);
        long harm = x.told(6);
        long breaches = x.told(7);
        Due.is("told(6)", harm, 50);
        Due.is("told(7)", breaches, 8);
        Due.is("round(1, 0)", x.round(1, 0), 4);
        Due.is("round(1, 1)", x.round(1, 1), 1);
        // skies as told from now on, even where the days ahead drifted
        Counted y = Due.of("boat 10 30;barrel 30;night 10;light gas 5 0 0 4;light plain 50 0 0 0;", "fine 2;rough 1;fine 1;");
        y.drift(2);
        Due.is("round(1, 0) by a rough sky", y.round(1, 0), 8);
        Due.is("round(2, 0)", y.round(2, 0), 8);
    }

    private static void roundChangesNothing() {
        Counted x = Due.of("boat 10 30;barrel 30;hens 7 3;night 10;light plain 5 10 10 4;light leaky 8 10 10 6;", "rough 9;");
        x.goal(1);
        x.wick(0, true);
        x.seed(8);
        x.write(0, 0);
        x.go(3);
        String before = (Due.frame(x) + Due.days(x));
        for (int n = 1; n <= 4; n++) {
            x.round(n, 0);
        }
        x.darken(50, 20);
        x.lasts(0);
        x.late(1);
        x.store(1, 500);
        x.comes(1, 2, 40);
        Due.same("what is so behind what was tried", (Due.frame(x) + Due.days(x)), before);
    }

    private static void roundOutside() {
        Counted x = twoLights();
        for (int n : new int[] {0, 5, -1, FAR[0], FAR[1]}) {
            Due.is("round(" + n + ", 0)", x.round(n, 0), Due.OUTSIDE);
        }
        for (int n = 1; n <= 4; n++) {
            int m = n;
            for (int what : new int[] {-1, n + 2, n + 3, FAR[0], FAR[1]}) {
                Due.is("round(" + m + ", " + what + ")", x.round(m, what), Due.OUTSIDE);
            }
        }
    }

    private static void roundOfNine() {
        StringBuilder nine = new StringBuilder("boat 99 99;barrel 99;night 10;");
        for (int i = 0; i < 9; i++) {
            nine.append("light plain ").append(i + 1).append(" 10 10 ").append(i + 1).append(';');
        }
        Counted x = Due.of(nine.toString());
        x.go(1);
        // each day the dearest of the dry lights is filled: the last one, day by day
        Due.is("round(4, 0)", x.round(4, 0), 4 * 36);
        for (int d = 0; d < 4; d++) {
            Due.is("round(4, " + (2 + d) + ")", x.round(4, 2 + d), 8);
        }
        Due.is("round(4, 1)", x.round(4, 1), 3 * 8);
    }

    private static void darkened() {
        // needs 10, 20, 30 a night
        Counted x = Due.of("night 10;light plain 1 10 0 5;light plain 1 20 0 6;light plain 1 30 0 9;");
        int[][] due = {{0, 7}, {9, 7}, {10, 6}, {19, 6}, {20, 5}, {29, 5}, {30, 4}, {39, 4}, {40, 2}, {50, 1}, {59, 1}, {60, 0}, {99999, 0}};
        for (int[] row : due) {
            Due.is("darken(" + row[0] + ", 1)", x.darken(row[0], 1), row[1]);
        }
        Due.is("darken(179, 3)", x.darken(179, 3), 1);
        Due.is("darken(180, 3)", x.darken(180, 3), 0);
        // of like sums the least set: 0, 1, 3 and 2, 3 are 11 ships each
        Counted y = Due.of("night 10;light plain 1 10 0 5;light plain 1 20 0 6;light plain 1 30 0 11;light plain 1 10 0 0;");
        Due.is("darken(40, 1)", y.darken(40, 1), 10);
        Due.is("darken(30, 1): 0, 1 and 3, not 2 and 3", y.darken(30, 1), 11);
        Counted z = Due.of("night 10;light plain 1 10 0 0;light plain 1 10 0 0;light plain 1 10 0 0;");
        Due.is("darken(30, 1): none is given up for nothing", z.darken(30, 1), 0);
        Due.is("darken(10, 1)", z.darken(10, 1), 3);
        Due.is("darken(0, 1) without lights", new Counted().darken(0, 1), 0);
    }

    private static void darkenedByKinds() {
        // the skies are fine, whatever is told: gas and floating ones as by day; lights are empty, whatever they have
        Counted x = Due.of("night 11;light double 1 5 99 1;light leaky 1 21 99 2;light floating 1 10 99 4;light gas 1 99 99 8;", "ice 9;rough 9;");
        int all = 10 + (23 + 2) + 11;
        Due.is("darken of all", x.darken(all, 1), 0);
        Due.is("darken of one part less", x.darken(all - 1, 1), 1);
        Due.is("darken of two nights", x.darken(2 * all, 2), 0);
        Due.is("darken of two nights, one part less", x.darken(2 * all - 1, 2), 1);
        Counted leaky = Due.of("night 10;light leaky 1 90 99 5;light plain 1 1 99 1;");
        Due.is("darken(98, 1): less than 90 and a tenth of it", leaky.darken(98, 1), 1);
        Due.is("darken(99, 1)", leaky.darken(99, 1), 2);
        Due.is("darken(100, 1)", leaky.darken(100, 1), 0);
        x.wick(0, true);
        x.wick(1, true);
        x.wick(2, true);
        all = 5 + (11 + 1) + 5;
        Due.is("darken of all with halved wicks", x.darken(all, 1), 0);
        Due.is("darken of one part less", x.darken(all - 1, 1), 1);
    }

    private static void darkenedByNights() {
        Counted x = Due.of("night 10,20;light plain 1 10 500 1;");
        Due.is("darken(199, 15): ten nights of 10, five of 20", x.darken(199, 15), 1);
        Due.is("darken(200, 15)", x.darken(200, 15), 0);
        x.go(8);
        Due.is("darken(59, 4): from now on", x.darken(59, 4), 1);
        Due.is("darken(60, 4)", x.darken(60, 4), 0);
        Due.is("darken(99): 2 of 10, 10 of 20, and on", x.darken(2 * 10 + 50 * 20 + 47 * 10, 99), 0);
        Due.is("darken(99), one part less", x.darken(2 * 10 + 50 * 20 + 47 * 10 - 1, 99), 1);
    }

    private static void darkenOutside() {
        Counted x = twoLights();
        for (int q : new int[] {-1, 100000, FAR[0], FAR[1]}) {
            Due.is("darken(" + q + ", 1)", x.darken(q, 1), Due.OUTSIDE);
        }
        for (int n : new int[] {0, 100, -1, FAR[0], FAR[1]}) {
            Due.is("darken(1, " + n + ")", x.darken(1, n), Due.OUTSIDE);
        }
    }

    private static void lasting() {
        Counted x = Due.of("boat 99 999;barrel 999;night 10,20;light plain 1 10 145 1;light leaky 1 10 62 1;light gas 1 9 0 1;light floating 1 1 99 1;"
            + "light plain 1 0 0 1;light leaky 1 0 50 1;light double 1 5 30 1;", "fine 3;rough 1;fine 2;ice 1;");
        Due.is("lasts(0): ten nights of 10, two of 20", x.lasts(0), 12);
        // 47, 34, 22, 11, 0
        Due.is("lasts(1)", x.lasts(1), 5);
        Due.is("lasts(2) till it is rough", x.lasts(2), 3);
        Due.is("lasts(3) till there is ice", x.lasts(3), 6);
        Due.is("lasts(4): nothing is needed", x.lasts(4), 400);
        Due.is("lasts(5): it leaks, but needs nothing", x.lasts(5), 400);
        Due.is("lasts(6)", x.lasts(6), 3);
        x.wick(6, true);
        Due.is("lasts(6) halved: by three fine ones, a rough one, one more", x.lasts(6), 5);
        x.goal(0);
        x.pour(900);
        Due.is("lasts(0): no boat", x.lasts(0), 12);
        x.go(4);
        Due.is("lasts(3) from now", x.lasts(3), 2);
        Due.is("lasts(2) from now", x.lasts(2), 400);
        Counted y = Due.of("night 10;light plain 1 1 400 1;light plain 1 1 399 1;light plain 1 1 999 1;");
        Due.is("lasts(0) of 400", y.lasts(0), 400);
        Due.is("lasts(1) of 399", y.lasts(1), 399);
        Due.is("lasts(2) at most", y.lasts(2), 400);
    }

    private static void lastingOutside() {
        Counted x = twoLights();
        for (int l : new int[] {-1, 2, FAR[0], FAR[1]}) {
            Due.is("lasts(" + l + ")", x.lasts(l), Due.UNKNOWN);
            Due.is("late(" + l + ")", x.late(l), Due.UNKNOWN);
            Due.is("store(" + l + ", 1)", x.store(l, 1), Due.UNKNOWN);
            Due.is("store(" + l + ", -1)", x.store(l, -1), Due.UNKNOWN);
        }
        for (int s : new int[] {-1, 1000, FAR[0], FAR[1]}) {
            Due.is("store(0, " + s + ")", x.store(0, s), Due.OUTSIDE);
        }
    }

    private static void lateByHand() {
        // fine days alone bring it there in two; lasts 1, 2, 3 nights
        String reef = "boat 10 1;night 10;odds 50 30 20 50 30 20 50 30 20;light plain 20 10 10 1;light plain 20 10 20 1;light plain 20 10 30 1;"
            + "light plain 20 10 9 1;light plain 0 10 0 1;light plain 10 10 10 1;light plain 11 10 10 1;light plain 5 10 10 1;";
        Counted x = Due.of(reef);
        Due.is("late(0): never there in a day", x.late(0), 1000000);
        // there in two days by fine, fine
        Due.is("late(1)", x.late(1), 750000);
        // three days: 20 miles from 10, 5, 0: fff ffr ffi frf frr fif rff rfr rrf iff
        long there = 125 + 75 + 50 + 75 + 45 + 50 + 75 + 45 + 45 + 50;
        Due.is("late(2)", x.late(2), 1000000 - there * 1000);
        Due.is("late(3): dark at once", x.late(3), 1000000);
        Due.is("late(4): there already, though it is dark", x.late(4), 0);
        Due.is("late(5): there by a fine day", x.late(5), 500000);
        Due.is("late(6): a mile more", x.late(6), 1000000);
        Due.is("late(7): by a fine or a rough day", x.late(7), 200000);
        x.goal(5);
        x.go(1);
        Due.is("late(0) dark by now, from mile 10", x.late(0), 1000000);
        Due.is("late(5): there already", x.late(5), 0);
        Due.is("late(1): ten miles, a night", x.late(1), 500000);
    }

    private static void lateBehindTheSky() {
        String reef = "boat 10 1;night 10;odds 90 10 0 40 50 10 20 30 50;light plain 10 10 99 1;";
        for (int sky = 0; sky < 3; sky++) {
            Counted x = Due.of(reef, sky == 0 ? "fine 9;" : sky == 1 ? "rough 9;" : "ice 9;");
            x.go(8);
            Due.is("lasts(0)", x.lasts(0), 1);
            Due.is("late(0) behind sky " + sky, x.late(0), sky == 0 ? 100000 : sky == 1 ? 600000 : 800000);
        }
        Counted first = Due.of("boat 10 1;night 10;odds 90 10 0 40 50 10 20 30 50;light plain 10 10 19 1;", "ice 9;");
        Due.is("late(0) on day 0 is behind fine", first.late(0), 100000);
        // rough brings five miles, rough again the rest
        Counted twice = Due.of("boat 11 1;night 10;odds 0 100 0 0 50 50 0 0 100;light plain 10 10 29 1;light plain 11 10 29 1;");
        Due.is("late(0): rough, rough", twice.late(0), 500000);
        Due.is("late(1): five and five are not eleven", twice.late(1), 1000000);
        // drawn skies count as they were
        Counted drawn = Due.of("boat 10 1;night 10;odds 0 100 0 0 0 100 100 0 0;light plain 10 10 99 1;");
        drawn.drift(2);
        Due.is("late(0) behind ice that was drawn", drawn.late(0), 0);
        drawn.go(1);
        Due.is("late(0) behind a fine day as told", drawn.late(0), 0);
        drawn.go(4);
        // 29 parts are left for nights of 10 parts: rough, ice, and the fine day comes too late
        Due.is("lasts(0)", drawn.lasts(0), 2);
        Due.is("late(0) behind a fine day as told, two nights", drawn.late(0), 1000000);
    }

    private static void lateCuts() {
        // odds of a billion are cut day by day, ice takes what is left
        Counted x = Due.of("boat 1 1;night 10;odds 33 33 34 33 33 34 33 33 34;light plain 99 0 0 1;light plain 3 10 60 1;");
        Due.is("late(0): all 99 miles, but it lasts", x.late(0), new Parted(x).late(0, 99, 400));
        Due.is("late(1)", x.late(1), new Parted(x).late(0, 3, 6));
        Counted y = Due.of("boat 7 1;night 10;odds 13 29 58 13 29 58 13 29 58;light plain 83 10 250 1;");
        Due.is("late(0)", y.late(0), new Parted(y).late(0, 83, 25));
    }

    private static void storing() {
        Counted x = Due.of("boat 10 1;night 10;odds 50 30 20 50 30 20 50 30 20;light plain 20 10 10 1;light plain 0 10 10 1;light leaky 20 10 30 1;");
        Due.is("store(0, 0)", x.store(0, 0), 0);
        Due.is("store(0, 9): not yet a night", x.store(0, 9), 0);
        Due.is("store(0, 10): above what it holds", x.store(0, 10), 250000);
        Due.is("store(0, 20)", x.store(0, 20), 635000);
        Counted short1 = Due.of("boat 10 1;night 10;odds 50 30 20 50 30 20 50 30 20;light plain 1 10 9 1;light plain 1 10 0 1;light plain 1 10 19 1;");
        Due.is("store(0, 0)", short1.store(0, 0), 0);
        Due.is("store(0, 1): a mile, a night", short1.store(0, 1), 800000);
        Due.is("store(1, 1)", short1.store(1, 1), 0);
        Due.is("late(0)", short1.late(0), 1000000);
        Due.is("late(2)", short1.late(2), 200000);
        Due.is("store(2, 1)", short1.store(2, 1), 160000);
        Due.is("store(1, 999): there already", x.store(1, 999), 0);
        // 30 - 10 = 20, 2 lost; 18 - 10 = 8, 1 lost; 7 are too few
        Due.is("lasts(2)", x.lasts(2), 2);
        Due.is("store(2, 999)", x.store(2, 999), x.late(2) - new Parted(x).late(0, 20, lastsLeaky(1029)));
        Due.is("light(0, 5): nothing is stored", x.light(0, 5), 10);
    }

    private static int lastsLeaky(int oil) {
        int nights = 0;
        while (oil >= 10) {
            oil -= 10;
            oil -= oil == 0 ? 0 : Math.max(1, oil / 10);
            nights++;
        }
        return nights;
    }

    private static void coming() {
        Counted x = Due.of("odds 60 30 10 20 50 30 10 20 70;");
        for (int i = 0; i < 3; i++) {
            for (int j = 0; j < 3; j++) {
                Due.is("comes(" + i + ", " + j + ", 0)", x.comes(i, j, 0), i == j ? 1000000 : 0);
                Due.is("comes(" + i + ", " + j + ", 1)", x.comes(i, j, 1), x.odds(i, j) * 10000L);
                long two = 0;
                for (int k = 0; k < 3; k++) {
                    two += x.odds(i, k) * x.odds(k, j) * 100L;
                }
                Due.is("comes(" + i + ", " + j + ", 2)", x.comes(i, j, 2), two);
            }
        }
        Due.is("comes(0, 2, 60)", x.comes(0, 2, 60), 411764);
        // nothing is left of 33 of a hundred again and again but what is cut off: it is ice's
        Counted y = Due.of("odds 33 0 67 0 100 0 0 0 100;");
        Due.is("comes(0, 0, 60)", y.comes(0, 0, 60), 0);
        Due.is("comes(0, 2, 60)", y.comes(0, 2, 60), 1000000);
        Counted z = Due.of("odds 99 1 0 0 100 0 0 0 100;");
        long fine = 1000000000L;
        long rough = 0;
        for (int i = 0; i < 60; i++) {
            rough += fine / 100;
            fine = fine * 99 / 100;
        }
        Due.is("comes(0, 0, 60) cut day by day", z.comes(0, 0, 60), fine / 1000);
        Due.is("comes(0, 1, 60) cut day by day", z.comes(0, 1, 60), rough / 1000);
        Due.is("comes(0, 2, 60): what is left", z.comes(0, 2, 60), (1000000000L - fine - rough) / 1000);
        for (int s : new int[] {-1, 3, FAR[0], FAR[1]}) {
            Due.is("comes(" + s + ", 0, 1)", x.comes(s, 0, 1), Due.UNKNOWN);
            Due.is("comes(0, " + s + ", 1)", x.comes(0, s, 1), Due.UNKNOWN);
            Due.is("comes(0, " + s + ", 61)", x.comes(0, s, 61), Due.UNKNOWN);
        }
        for (int m : new int[] {-1, 61, FAR[0], FAR[1]}) {
            Due.is("comes(0, 0, " + m + ")", x.comes(0, 0, m), Due.OUTSIDE);
        }
    }
}
