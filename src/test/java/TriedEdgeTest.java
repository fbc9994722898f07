/** Promises 16 to 21 and section 3, what is tried, at their edges: rounds, darkening, lasting, late, stores, skies to come. */
public final class TriedEdgeTest {
    public static void main(String[] args) {
        roundOfOneToFour();
        roundHarmFirst();
        roundBreachesNext();
        roundFirstOfLikeOnes();
        roundOfMiles();
        roundBySkies();
        roundOfWholeDays();
        roundFromNow();
        roundOfAllDark();
        roundAsItGoes();
        darkenJustEnough();
        darkenLeastShips();
        darkenLeastSet();
        darkenNeeds();
        darkenNights();
        darkenFromNothing();
        lastsNights();
        lastsAtMost();
        lastsBySkies();
        lastsFromNow();
        lateThereAlready();
        lateNightsAndDays();
        lateMiles();
        lateBehindTheDayAhead();
        lateParted();
        lateCut();
        storeParts();
        comesDays();
        nothingChanges();
        Due.end("TriedEdgeTest");
    }

    // ---- promise 16

    private static void round(Counted x, int n, int... due) {
        for (int what = 0; what < due.length; what++) {
            Due.is("round(" + n + ", " + what + ")", x.round(n, what), due[what]);
        }
    }

    private static void roundOfOneToFour() {
        Due.sentence("THE ROUND for n DAYS (1 .. 4): 0 HARM, 1 BREACHES, 2 and d the GOAL of DAY d");
        // one light of ten parts: dark unless it is filled on each of the days, but on the first it has what it needs
        Counted x = Due.of("boat 10 40;barrel 40;night 10;light plain 10 10 10 3;");
        x.pour(40);
        round(x, 1, 0, 0, -1);
        round(x, 2, 0, 0, -1, 0);
        round(x, 3, 0, 0, -1, 0, 0);
        round(x, 4, 0, 0, -1, 0, 0, 0);
        for (int n = 1; n <= 4; n++) {
            Due.is("round(" + n + ", " + (n + 1) + "), the last of its d", x.round(n, n + 1), n == 1 ? -1 : 0);
            Due.is("round(" + n + ", " + (n + 2) + "), a d that is not of n", x.round(n, n + 2), Due.OUTSIDE);
        }
        Due.sentence("THE ROUND without LIGHTS, and with LIGHTS that need nothing: the harbour on all DAYS");
        round(new Counted(), 4, 0, 0, -1, -1, -1, -1);
        round(Due.of("light gas 1 1 1 1;".repeat(9)), 4, 0, 0, -1, -1, -1, -1);
    }

    private static void roundHarmFirst() {
        Due.sentence("the row by which HARM grows least, though BREACHES are more");
        // both are dry, and light 1 was dark last night: oil for one of them
        Counted x = Due.of("boat 10 10;barrel 10;night 10;light plain 1 10 20 5;light plain 1 10 10 4;");
        x.go(2);
        Due.is("light(0, 5)", x.light(0, 5), 0);
        Due.is("light(1, 7)", x.light(1, 7), 1);
        round(x, 1, 4, 1, 0);
    }

    private static void roundBreachesNext() {
        Due.sentence("of like ones the fewest BREACHES, though it is not the first");
        Counted x = Due.of("boat 10 10;barrel 20;night 10,5;light plain 1 10 30 4;light plain 1 10 10 4;");
        x.go(2);
        Due.is("light(1, 7): dark for a night", x.light(1, 7), 1);
        x.go(1);
        Due.is("light(1, 7): dark for two nights", x.light(1, 7), 2);
        // both are dry: to fill 0 or 1 leaves 4 of harm, but only the darkness of 1 is a breach
        round(x, 1, 4, 0, 1);
        Due.sentence("of like ones the fewest BREACHES: LIGHTS of no ships, too");
        Counted y = Due.of("boat 10 10;barrel 20;night 10;light plain 1 10 30 0;light plain 1 10 10 0;");
        y.go(3);
        round(y, 1, 0, 0, 1);
    }

    private static void roundFirstOfLikeOnes() {
        Due.sentence("of like ones the first (the harbour, then LIGHTS by numbers)");
        Counted x = Due.of("boat 10 30;barrel 30;night 10;light plain 5 10 10 4;light plain 5 10 10 4;light plain 5 10 10 4;");
        x.go(1);
        round(x, 1, 8, 0, 0);
        Due.sentence("of like ones the first: the harbour ahead of LIGHT 0");
        Counted y = Due.of("boat 10 30;barrel 30;night 10;light plain 5 10 20 4;");
        y.go(1);
        // filled on the first day or on the second one: none is dark
        round(y, 2, 0, 0, -1, 0);
        Due.sentence("of like ones the first: by the first DAY, then by the second");
        Counted z = Due.of("boat 10 30;barrel 30;night 10;light plain 5 10 20 4;light plain 5 10 10 4;");
        z.go(1);
        // 1 must be filled on the first day and on the second; 0 has what it needs for one night more
        round(z, 1, 0, 0, 1);
        round(z, 2, 4, 0, 0, 1);
    }

    private static void roundOfMiles() {
        Due.sentence("THE ROUND by the miles of THE BOAT: just there, and a mile more");
        Counted just = Due.of("boat 10 10;barrel 10;night 10;light plain 10 10 10 3;");
        just.go(1);
        round(just, 1, 0, 0, 0);
        Counted far = Due.of("boat 10 10;barrel 10;night 10;light plain 11 10 10 3;");
        far.go(1);
        round(far, 1, 3, 0, -1);
        round(far, 2, 3, 0, 0, 0);
        Counted twenty = Due.of("boat 10 10;barrel 10;night 10;light plain 20 10 10 3;");
        twenty.go(1);
        round(twenty, 2, 3, 0, 0, 0);
        Counted more = Due.of("boat 10 10;barrel 10;night 10;light plain 21 10 10 3;");
        more.go(1);
        round(more, 2, 6, 1, -1, -1);
        round(more, 3, 6, 1, 0, 0, 0);
        Due.sentence("THE ROUND with one part of oil, and with none");
        Counted part = Due.of("boat 10 1;barrel 1;night 10;light plain 10 1 1 3;");
        part.go(1);
        round(part, 1, 0, 0, 0);
        round(part, 2, 3, 0, -1, 0);
        Counted none = Due.of("boat 10 1;barrel 0;night 10;light plain 10 1 1 3;");
        none.go(1);
        round(none, 1, 3, 0, -1);
        Due.sentence("THE ROUND by way of the harbour, when THE BOAT is empty");
        Counted empty = Due.of("boat 10 10;barrel 90;night 10;light plain 10 10 10 3;");
        empty.goal(0);
        empty.go(2);
        Due.is("told(12)", empty.told(12), 10);
        Due.is("told(13)", empty.told(13), 0);
        round(empty, 1, 3, 1, -1);
        round(empty, 2, 3, 1, -1, 0);
        round(empty, 4, 6, 1, -1, 0, -1, 0);
    }

    private static void roundBySkies() {
        Due.sentence("TRIED from now, SKIES as told");
        Counted ice = Due.of("boat 10 10;barrel 10;night 10;light plain 10 10 10 3;", "fine 1;ice 1;rough 2;");
        ice.go(1);
        // no mile by ice, five by each of the rough ones
        round(ice, 1, 3, 0, -1);
        round(ice, 2, 9, 1, -1, -1);
        round(ice, 3, 9, 1, -1, 0, 0);
        Due.sentence("SKIES as told, not as drawn");
        Counted x = Due.of("odds 0 100 0 0 100 0 0 100 0;boat 10 10;light gas 1 0 0 3;", "fine 5;rough 1;");
        x.drift(4);
        round(x, 1, 0, 0, -1);
        round(x, 2, 6, 0, -1, -1);
        Due.sentence("SKIES as told: fine behind them");
        round(x, 4, 6, 0, -1, -1, -1, -1);
    }

    private static void roundOfWholeDays() {
        Due.sentence("TRIED: the DAYS of a round are DAYS like others: hens lay");
        Counted hens = Due.of("boat 10 10;barrel 0;hens 10 1;night 10;light plain 10 10 10 3;");
        hens.goal(0);
        hens.go(1);
        Due.is("told(13)", hens.told(13), 0);
        hens.goal(-1);
        hens.go(1);
        Due.is("told(13)", hens.told(13), 10);
        round(hens, 1, 0, 0, 0);
        hens.goal(0);
        hens.go(1);
        // dark, filled, dark: never two nights on end
        round(hens, 3, 6, 0, -1, 0, -1);
        Due.sentence("TRIED: nights have their hours by DAYS");
        Counted nights = Due.of("boat 10 10;night 10,20;light plain 99 10 110 3;");
        nights.go(9);
        // 20 left: ten for the last of the short nights, ten for a long one that needs 20
        round(nights, 1, 0, 0, -1);
        round(nights, 2, 3, 0, -1, -1);
        round(nights, 3, 6, 1, -1, -1, -1);
        Due.sentence("TRIED: wicks are as they are");
        Counted wick = Due.of("night 10;light plain 99 10 15 3;");
        wick.wick(0, true);
        round(wick, 3, 0, 0, -1, -1, -1);
        round(wick, 4, 3, 0, -1, -1, -1, -1);
        wick.wick(0, false);
        round(wick, 2, 3, 0, -1, -1);
    }

    private static void roundFromNow() {
        Due.sentence("by how much HARM grows: what was ahead does not count, but nights on end go on");
        Counted x = Due.of("night 10;light plain 99 10 0 7;");
        round(x, 1, 7, 0, -1);
        round(x, 2, 14, 1, -1, -1);
        x.go(50);
        Due.is("told(6)", x.told(6), 350);
        round(x, 1, 7, 1, -1);
        round(x, 4, 28, 4, -1, -1, -1, -1);
        Due.sentence("TRIED: whatever THE BOAT's GOAL is now");
        Counted y = Due.of("boat 10 30;barrel 30;night 10;light plain 5 10 10 4;light plain 8 10 10 6;");
        y.go(1);
        for (int goal = -1; goal < 2; goal++) {
            y.goal(goal);
            round(y, 1, 4, 0, 1);
            Due.is("told(14): it stays", y.told(14), goal);
        }
    }

    private static void roundOfAllDark() {
        Due.sentence("THE ROUND of nine LIGHTS that are all DARK by rough SKIES");
        Counted x = Due.of("boat 99 999;barrel 9999;" + "light plain 1 99 0 99;".repeat(9), "rough 9;");
        round(x, 4, 4 * 9 * 198, 27, -1, -1, -1, -1);
        x.go(1);
        round(x, 4, 4 * 9 * 198, 36, -1, -1, -1, -1);
        round(x, 1, 9 * 198, 9, -1);
    }

    /** Whoever keeps to the round has just the harm and the breaches that it tells. */
    private static void roundAsItGoes() {
        Due.sentence("THE ROUND: what it tells is so when its GOALS are kept");
        String reef = "boat 12 25;barrel 60;hens 7 3;night 10,14;light plain 12 10 12 5;light double 30 4 20 9;light leaky 5 8 25 3;light floating 20 5 10 7;light gas 4 0 7 4;";
        String[] skies = {"", "fine 2;rough 3;ice 4;", "rough 9;", "ice 3;fine 1;rough 1;"};
        for (String told : skies) {
            for (int n = 1; n <= 4; n++) {
                Counted x = Due.of(reef, told);
                x.go(2);
                for (int again = 0; again < 3; again++) {
                    long harm = x.round(n, 0) + x.told(6);
                    long breaches = x.round(n, 1) + x.told(7);
                    int[] goals = new int[n];
                    for (int d = 0; d < n; d++) {
                        goals[d] = x.round(n, 2 + d);
                    }
                    for (int goal : goals) {
                        x.goal(goal);
                        x.go(1);
                    }
                    Due.is("told(6) behind the round of " + n + " by '" + told + "'", x.told(6), harm);
                    Due.is("told(7) behind the round of " + n + " by '" + told + "'", x.told(7), breaches);
                }
            }
        }
    }

    // ---- promise 17

    private static void darken(Counted x, int q, int n, int due) {
        Due.is("darken(" + q + ", " + n + ")", x.darken(q, n), due);
    }

    private static void darkenJustEnough() {
        Due.sentence("DARKENED: so that all others have what they NEED on all these nights");
        Counted x = Due.of("night 10;light plain 1 10 0 5;");
        darken(x, 0, 1, 1);
        darken(x, 9, 1, 1);
        darken(x, 10, 1, 0);
        darken(x, 11, 1, 0);
        darken(x, 99999, 1, 0);
        darken(x, 989, 99, 1);
        darken(x, 990, 99, 0);
        darken(x, 99999, 99, 0);
        Due.sentence("q 0 .. 99999: all that nine LIGHTS can need on 99 nights is more");
        Counted nine = Due.of("night 24;" + "light double 1 99 0 1;".repeat(9));
        // 474 parts a night and light: two of them need 93852 on 99 nights
        darken(nine, 99999, 99, 127);
        darken(nine, 0, 1, 511);
        darken(nine, 99999, 23, 0);
        darken(nine, 474 * 9 * 23, 23, 0);
        darken(nine, 474 * 9 * 23 - 1, 23, 1);
        Due.sentence("DARKENED without LIGHTS: none");
        darken(new Counted(), 0, 99, 0);
    }

    private static void darkenLeastShips() {
        Due.sentence("with the least sum of W");
        Counted x = Due.of("night 10;light plain 1 10 0 5;light plain 1 20 0 6;light plain 1 30 0 12;");
        // needs 10, 20, 30; ships 5, 6, 12
        darken(x, 60, 1, 0);
        darken(x, 59, 1, 1);
        darken(x, 50, 1, 1);
        darken(x, 49, 1, 2);
        darken(x, 40, 1, 2);
        darken(x, 39, 1, 3);
        darken(x, 30, 1, 3);
        darken(x, 29, 1, 5);
        darken(x, 20, 1, 5);
        darken(x, 19, 1, 6);
        darken(x, 10, 1, 6);
        darken(x, 9, 1, 7);
        Due.sentence("with the least sum of W: the fewest LIGHTS do not count, nor the oil that is spared");
        Counted y = Due.of("night 10;light plain 1 10 0 3;light plain 1 10 0 3;light plain 1 20 0 7;");
        darken(y, 20, 1, 3);
        Due.sentence("with the least sum of W: ships up to 99 each");
        Counted z = Due.of("night 10;light plain 1 10 0 99;light plain 1 10 0 98;");
        darken(z, 10, 1, 2);
        Counted nine = Due.of("night 10;" + "light plain 1 10 0 99;".repeat(8) + "light plain 1 80 0 99;");
        darken(nine, 80, 1, 256);
    }

    private static void darkenLeastSet() {
        Due.sentence("of like ones the least SET");
        Counted x = Due.of("night 10;light plain 1 10 0 4;light plain 1 10 0 4;light plain 1 10 0 4;");
        darken(x, 20, 1, 1);
        darken(x, 10, 1, 3);
        darken(x, 0, 1, 7);
        Counted y = Due.of("night 10;light plain 1 10 0 2;light plain 1 10 0 3;light plain 1 20 0 5;");
        // 0 and 1 or 2 alone: five ships each, and 3 is less than 4
        darken(y, 20, 1, 3);
        Due.sentence("of like ones the least SET: LIGHTS of no ships are not given up for nothing");
        Counted z = Due.of("night 10;light plain 1 10 0 0;light plain 1 10 0 0;light gas 1 10 0 0;");
        darken(z, 20, 1, 0);
        darken(z, 19, 1, 1);
        darken(z, 9, 1, 3);
        darken(z, 0, 1, 3);
        Counted w = Due.of("night 10;light plain 1 10 0 0;light plain 1 10 0 9;light plain 1 10 0 0;");
        darken(w, 10, 1, 5);
        darken(w, 20, 1, 1);
    }

    private static void needsOf(String kind, int b, int hours, boolean halved, int due) {
        Counted x = Due.of("night " + hours + ";light " + kind + " 1 " + b + " 999 1;", "ice 9;rough 99;");
        x.wick(0, halved);
        for (int n : new int[] {1, 2, 99}) {
            darken(x, due * n, n, 0);
            if (due > 0) {
                darken(x, due * n - 1, n, 1);
            }
        }
    }

    private static void darkenNeeds() {
        Due.sentence("DARKENED: SKIES fine, wicks as they are, kinds as told");
        needsOf("plain", 3, 13, false, 3);
        needsOf("plain", 3, 13, true, 1);
        needsOf("double", 3, 13, false, 6);
        needsOf("double", 3, 13, true, 3);
        needsOf("floating", 3, 13, false, 3);
        needsOf("floating", 5, 10, true, 2);
        needsOf("gas", 99, 24, false, 0);
        needsOf("plain", 99, 24, false, 237);
        Due.sentence("A leaky one NEEDS a tenth more each night, cut");
        needsOf("leaky", 9, 10, false, 9);
        needsOf("leaky", 10, 10, false, 11);
        needsOf("leaky", 19, 10, false, 20);
        needsOf("leaky", 20, 10, false, 22);
        needsOf("leaky", 99, 24, false, 260);
        needsOf("leaky", 20, 10, true, 11);
        needsOf("leaky", 19, 10, true, 9);
        needsOf("leaky", 0, 10, false, 0);
    }

    private static void darkenNights() {
        Due.sentence("DARKENED: for n nights from now (1 .. 99), each by its hours");
        Counted x = Due.of("night 10,20;light plain 1 10 999 1;");
        darken(x, 100, 10, 0);
        darken(x, 99, 10, 1);
        darken(x, 120, 11, 0);
        darken(x, 119, 11, 1);
        x.go(9);
        darken(x, 10, 1, 0);
        darken(x, 9, 1, 1);
        darken(x, 30, 2, 0);
        darken(x, 29, 2, 1);
        x.go(1);
        darken(x, 20, 1, 0);
        darken(x, 19, 1, 1);
        darken(x, 200, 10, 0);
        darken(x, 199, 10, 1);
        darken(x, 50 * 20 + 49 * 10, 99, 0);
        darken(x, 50 * 20 + 49 * 10 - 1, 99, 1);
        x.drift(1);
        darken(x, 200 - 20 + 10, 10, 0);
        darken(x, 200 - 20 + 9, 10, 1);
    }

    private static void darkenFromNothing() {
        Due.sentence("DARKENED: no boat, LIGHTS empty: what they, THE BOAT and THE BARREL have does not count");
        Counted x = Due.of("boat 99 999;barrel 9999;hens 99 1;night 10;light plain 0 10 999 1;");
        x.pour(999);
        darken(x, 0, 1, 1);
        darken(x, 9, 1, 1);
        darken(x, 10, 1, 0);
    }

    // ---- promise 18

    private static void lasts(String reef, String skies, int... due) {
        Counted x = Due.of(reef, skies);
        for (int l = 0; l < due.length; l++) {
            Due.is("lasts(" + l + ") of '" + reef + "' by '" + skies + "'", x.lasts(l), due[l]);
        }
    }

    private static void lastsNights() {
        Due.sentence("LASTS: how many nights a LIGHT is not DARK from now");
        lasts("night 10;light plain 1 10 0 1;light plain 1 10 9 1;light plain 1 10 10 1;light plain 1 10 19 1;light plain 1 10 20 1;", "", 0, 0, 1, 1, 2);
        lasts("night 10;light double 1 10 19 1;light double 1 10 20 1;light double 1 10 39 1;light double 1 10 40 1;", "", 0, 1, 1, 2);
        Due.sentence("LASTS of a leaky one: it loses each night");
        // 11: 10 burnt, 1 lost; 21: 11, 1 lost, 10; 22: 12, 1 lost, 11, 10 burnt, 1 lost
        lasts("night 10;light leaky 1 10 9 1;light leaky 1 10 10 1;light leaky 1 10 20 1;light leaky 1 10 21 1;light leaky 1 10 22 1;", "", 0, 1, 1, 2, 2);
        // 32: 22, 2 lost, 20: 10, 1 lost, 9; 33: 23, 2 lost, 21: 11, 1 lost, 10
        lasts("night 10;light leaky 1 10 32 1;light leaky 1 10 33 1;light leaky 1 10 34 1;", "", 2, 3, 3);
        Due.sentence("LASTS by hours of the nights");
        lasts("night 10,20;light plain 1 10 100 1;light plain 1 10 119 1;light plain 1 10 120 1;light plain 1 10 309 1;light plain 1 10 310 1;", "", 10, 10, 11, 20, 21);
    }

    private static void lastsAtMost() {
        Due.sentence("LASTS: 400 at most");
        lasts("night 10;light plain 1 1 399 1;light plain 1 1 400 1;light plain 1 1 401 1;light plain 1 1 999 1;", "", 399, 400, 400, 400);
        lasts("night 10;light plain 1 0 0 1;light gas 1 99 0 1;light leaky 1 0 9 1;light floating 1 0 0 1;", "", 400, 400, 400, 400);
        Due.sentence("LASTS: what comes behind 400 nights does not count, the 400th night does");
        lasts("light gas 1 0 0 1;light floating 1 0 0 1;", "fine 99;fine 99;fine 99;fine 99;fine 3;rough 1;", 399, 400);
        lasts("light gas 1 0 0 1;light floating 1 0 0 1;", "fine 99;fine 99;fine 99;fine 99;fine 4;rough 1;", 400, 400);
    }

    private static void lastsBySkies() {
        Due.sentence("LASTS: SKIES as told");
        String reef = "night 10;light gas 1 10 0 1;light floating 1 10 99 1;light plain 1 10 99 1;";
        lasts(reef, "rough 1;", 0, 9, 9);
        lasts(reef, "ice 1;", 400, 0, 9);
        lasts(reef, "fine 1;rough 1;ice 1;", 1, 2, 9);
        lasts(reef, "fine 9;", 400, 9, 9);
        Due.sentence("LASTS: wicks as they are, halved by fine SKIES alone");
        Counted x = Due.of("night 10;light plain 1 10 30 1;", "fine 1;rough 1;ice 1;");
        x.wick(0, true);
        // 5, 10, 10, 5
        Due.is("lasts(0) halved", x.lasts(0), 4);
        x.wick(0, false);
        Due.is("lasts(0) whole", x.lasts(0), 3);
        Due.sentence("LASTS: SKIES as told, not as drawn");
        Counted y = Due.of("odds 0 100 0 0 100 0 0 100 0;light gas 1 0 0 1;", "rough 2;fine 3;rough 1;");
        y.drift(3);
        Due.is("lasts(0)", y.lasts(0), 2);
    }

    private static void lastsFromNow() {
        Due.sentence("LASTS: from now, no boat");
        Counted x = Due.of("boat 10 99;barrel 99;hens 9 1;night 10,20;light plain 5 10 150 1;");
        x.pour(99);
        x.goal(0);
        Due.is("lasts(0): ten nights of 10, two of 20", x.lasts(0), 12);
        x.go(1);
        x.goal(-1);
        x.go(8);
        Due.is("light(0, 5)", x.light(0, 5), 60);
        Due.is("lasts(0): one night of 10, two of 20", x.lasts(0), 3);
        x.goal(0);
        Due.is("lasts(0), whatever the GOAL is", x.lasts(0), 3);
        Due.is("lasts(0) again: nothing changes by it", x.lasts(0), 3);
        x.go(1);
        Due.is("lasts(0) behind filling", x.lasts(0), 7);
    }

    // ---- promise 19

    private static final String ALIKE = "odds 50 30 20 50 30 20 50 30 20;";

    private static void lateThereAlready() {
        Due.sentence("LATE: (There already: 0.)");
        Counted x = Due.of("boat 10 1;night 10;" + ALIKE + "light plain 0 10 0 1;light plain 1 10 0 1;light plain 0 10 99 1;light plain 10 10 0 1;light plain 10 10 99 1;");
        Due.is("late(0): there, though it is dark", x.late(0), 0);
        Due.is("late(1): a mile off, and dark at once", x.late(1), 1000000);
        Due.is("late(2)", x.late(2), 0);
        x.goal(3);
        x.go(1);
        Due.is("late(3): there now", x.late(3), 0);
        Due.is("late(4): there, at another LIGHT of that mile", x.late(4), 0);
        Due.is("late(0): no longer there", x.late(0), 1000000);
    }

    private static void lateNightsAndDays() {
        Due.sentence("LATE: LASTS of it, k: not there on any of DAYS 0 to k less 1");
        Counted x = Due.of("boat 10 1;night 10;" + ALIKE + "light plain 10 10 9 1;light plain 10 10 10 1;light plain 10 10 19 1;light plain 10 10 20 1;light plain 10 10 30 1;");
        Due.is("late(0): k is 0, no DAY is left", x.late(0), 1000000);
        Due.is("late(1): k is 1, there by a fine DAY 0", x.late(1), 500000);
        Due.is("late(2): k is 1", x.late(2), 500000);
        // not there: no fine one of two, nor two rough ones
        Due.is("late(3): k is 2", x.late(3), 250000 - 90000);
        // not there: no fine one of three, at most one rough one
        Due.is("late(4): k is 3", x.late(4), 8000 + 3 * 300 * 40);
        Due.sentence("LATE: LASTS 400 at most: DAYS 0 to 399");
        Counted y = Due.of("boat 1 1;odds 99 0 1 99 0 1 99 0 1;light gas 99 0 0 1;light gas 1 0 0 1;");
        Due.is("late(0): 99 miles in 400 days", y.late(0), 0);
        Counted slow = Due.of("boat 1 1;odds 20 0 80 20 0 80 20 0 80;light gas 99 0 0 1;");
        Due.is("late(0): 99 fine days of 400 by odds of 20", slow.late(0), parted(slow, 99, 400));
        Counted never = Due.of("boat 1 1;odds 0 100 0 0 100 0 0 100 0;light gas 1 0 0 1;light gas 99 0 0 1;");
        Due.is("late(0): half of a mile is none", never.late(0), 1000000);
        Counted ice = Due.of("boat 99 1;odds 0 0 100 0 0 100 0 0 100;light gas 1 0 0 1;");
        Due.is("late(0): ice on all days", ice.late(0), 1000000);
        Counted fine = Due.of("boat 99 1;light gas 99 0 0 1;");
        Due.is("late(0): fine, as it was", fine.late(0), 0);
    }

    private static void lateMiles() {
        Due.sentence("LATE: fine DAYS bring it V miles, rough ones V / 2");
        Counted x = Due.of("boat 11 1;night 10;" + ALIKE + "light plain 5 10 10 1;light plain 6 10 10 1;light plain 11 10 10 1;light plain 12 10 10 1;"
            + "light plain 10 10 20 1;light plain 16 10 20 1;light plain 17 10 20 1;light plain 22 10 20 1;light plain 23 10 20 1;");
        Due.is("late(0): five miles, by a fine or a rough day", x.late(0), 200000);
        Due.is("late(1): six miles, by a fine day", x.late(1), 500000);
        Due.is("late(2): eleven miles, by a fine day", x.late(2), 500000);
        Due.is("late(3): twelve miles", x.late(3), 1000000);
        Due.is("late(4): ten miles in two days: a fine one, or two rough ones", x.late(4), 1000000 - 750000 - 90000);
        Due.is("late(5): sixteen miles: a fine one and a rough one, or two fine ones", x.late(5), 1000000 - 250000 - 300000);
        Due.is("late(6): seventeen miles: two fine ones", x.late(6), 750000);
        Due.is("late(7): twenty-two miles", x.late(7), 750000);
        Due.is("late(8): twenty-three miles", x.late(8), 1000000);
        Due.sentence("LATE: from where THE BOAT is, back as well, whatever its GOAL and its oil are");
        Counted y = Due.of("boat 10 1;barrel 0;night 10;" + ALIKE + "light plain 30 10 90 1;light plain 20 10 40 1;light plain 9 10 40 1;");
        y.goal(0);
        y.go(3);
        y.goal(-1);
        Due.is("told(12)", y.told(12), 30);
        Due.is("lasts(1)", y.lasts(1), 1);
        Due.is("late(1): ten miles back", y.late(1), 500000);
        Due.is("late(2): twenty-one miles back", y.late(2), 1000000);
    }

    private static void lateBehindTheDayAhead() {
        Due.sentence("LATE: by odds (SKY of THE DAY ahead as it was; of DAY 0: fine)");
        String reef = "boat 10 1;night 10;odds 90 10 0 40 50 10 20 30 50;light plain 10 10 20 1;";
        for (int sky = 0; sky < 3; sky++) {
            Counted x = Due.of(reef, sky == 0 ? "fine 9;" : sky == 1 ? "rough 9;" : "ice 9;");
            Due.is("late(0) on DAY 0, whatever is told for it", x.late(0), parted(x, 10, 2));
            x.go(1);
            Due.is("late(0) behind SKY " + sky, x.late(0), sky == 0 ? 100000 : sky == 1 ? 600000 : 800000);
            x.begin();
            Due.is("late(0) on DAY 0 again", x.late(0), parted(x, 10, 2));
        }
        Due.sentence("LATE: SKY of THE DAY ahead as it was: as drawn, when it was drawn");
        Counted y = Due.of("boat 10 1;night 10;odds 0 100 0 0 60 40 0 0 100;light plain 5 10 20 1;", "ice 9;");
        y.drift(1);
        Due.is("late(0) behind rough that was drawn", y.late(0), 400000);
        y.keep(0);
        y.go(1);
        y.goBack(0);
        Due.is("late(0) behind rough that was drawn, from an IMAGE", y.late(0), 400000);
    }

    private static void lateParted() {
        Due.sentence("LATE: ODDS of a BILLION parted each DAY by SKIES and miles: times odds / 100 (cut), ice what is left, told / 1000");
        String[] odds = {"33 33 34 13 29 58 7 7 86", "1 1 98 99 1 0 50 49 1", "17 83 0 0 17 83 83 0 17", "97 2 1 3 94 3 1 1 98"};
        for (String told : odds) {
            for (int v : new int[] {1, 3, 7, 10}) {
                Counted x = Due.of("boat " + v + " 1;night 10;odds " + told + ";light plain 99 1 400 1;light plain 37 10 120 1;light plain 8 10 70 1;light plain 1 10 10 1;");
                Due.is("late(0) with " + v + " miles by " + told, x.late(0), parted(x, 99, 400));
                Due.is("late(1) with " + v + " miles by " + told, x.late(1), parted(x, 37, 12));
                Due.is("late(2) with " + v + " miles by " + told, x.late(2), parted(x, 8, 7));
                Due.is("late(3) with " + v + " miles by " + told, x.late(3), parted(x, 1, 1));
            }
        }
    }

    private static void lateCut() {
        Due.sentence("LATE: told / 1000, cut: 365428999 of a BILLION are 365428 of a MILLION");
        Counted x = Due.of("boat 10 1;night 10;odds 5 54 41 56 12 32 22 76 2;light plain 40 10 80 1;");
        Due.is("late(0)", x.late(0), 365428);
        Due.sentence("COMES: / 1000, cut: 757999999 of a BILLION are 757999 of a MILLION");
        Counted y = Due.of("odds 76 21 3 85 0 15 56 1 43;");
        Due.is("comes(0, 0, 39)", y.comes(0, 0, 39), 757999);
    }

    private static int parted(Counted x, int miles, int days) {
        return new Parted(x).late(0, miles, days);
    }

    // ---- promise 20

    private static void storeParts() {
        Due.sentence("STORE of s parts at LIGHT l: LATE less what it is with s parts more there (above C, too)");
        Counted x = Due.of("boat 10 1;night 10;" + ALIKE + "light plain 10 10 5 1;light plain 0 10 5 1;light gas 10 0 0 1;light plain 11 10 10 1;");
        Due.is("store(0, 0)", x.store(0, 0), 0);
        Due.is("store(0, 4): not yet a night", x.store(0, 4), 0);
        Due.is("store(0, 5): just a night", x.store(0, 5), 500000);
        Due.is("store(0, 14)", x.store(0, 14), 500000);
        Due.is("store(0, 15): two nights", x.store(0, 15), 840000);
        Due.is("store(0, 999): a hundred nights", x.store(0, 999), 1000000);
        Due.is("store(1, 999): there already", x.store(1, 999), 0);
        Due.is("store(2, 999): it needs nothing", x.store(2, 999), 0);
        Due.is("store(3, 9)", x.store(3, 9), 0);
        Due.is("store(3, 10): eleven miles in two days", x.store(3, 10), 250000 + 300000);
        Due.is("light(0, 5): nothing is stored", x.light(0, 5), 5);
        Counted part = Due.of("boat 10 1;night 10;" + ALIKE + "light plain 10 10 9 1;light plain 10 10 10 1;");
        Due.is("store(0, 1): the one part that it lacks", part.store(0, 1), 500000);
        Due.is("store(1, 1): a part that it does not need", part.store(1, 1), 0);
        Due.sentence("STORE: LASTS of it with s parts more is 400 at most, too");
        Counted y = Due.of("boat 1 1;night 10;odds 20 0 80 20 0 80 20 0 80;light plain 99 1 1 1;");
        Due.is("store(0, 398)", y.store(0, 398), 1000000 - parted(y, 99, 399));
        Due.is("store(0, 399)", y.store(0, 399), 1000000 - parted(y, 99, 400));
        Due.is("store(0, 400)", y.store(0, 400), 1000000 - parted(y, 99, 400));
        Due.is("store(0, 999)", y.store(0, 999), 1000000 - parted(y, 99, 400));
        Due.sentence("STORE of a leaky one: what is stored leaks, too");
        Counted z = Due.of("boat 10 1;night 10;" + ALIKE + "light leaky 10 10 10 1;");
        Due.is("store(0, 10): 20 last a night, 9 are left", z.store(0, 10), 0);
        Due.is("store(0, 11): 21 last two nights", z.store(0, 11), 340000);
        Due.sentence("STORE: of a LIGHT that is DARK by the SKY at once no store is worth anything");
        Counted w = Due.of("boat 10 1;night 10;" + ALIKE + "light floating 10 10 10 1;", "ice 1;");
        Due.is("store(0, 999)", w.store(0, 999), 0);
    }

    // ---- promise 21

    private static void comesDays() {
        Due.sentence("COMES: m DAYS (0 .. 60) behind SKY i: 0 DAYS");
        Counted x = Due.of("odds 60 30 10 20 50 30 10 20 70;");
        for (int i = 0; i < 9; i++) {
            Due.is("comes(" + i / 3 + ", " + i % 3 + ", 0)", x.comes(i / 3, i % 3, 0), i / 3 == i % 3 ? 1000000 : 0);
        }
        Due.sentence("COMES: 1 DAY: the odds");
        for (int i = 0; i < 9; i++) {
            Due.is("comes(" + i / 3 + ", " + i % 3 + ", 1)", x.comes(i / 3, i % 3, 1), x.odds(i / 3, i % 3) * 10000);
        }
        Due.sentence("COMES: ODDS of a BILLION parted each DAY, of a MILLION (/ 1000)");
        for (String odds : new String[] {"60 30 10 20 50 30 10 20 70", "33 33 34 13 29 58 7 7 86", "99 1 0 0 99 1 1 0 99"}) {
            Counted y = Due.of("odds " + odds + ";");
            Parted parted = new Parted(y);
            for (int m : new int[] {2, 3, 59, 60}) {
                for (int i = 0; i < 9; i++) {
                    Due.is("comes(" + i / 3 + ", " + i % 3 + ", " + m + ") by " + odds, y.comes(i / 3, i % 3, m), parted.come(i / 3, i % 3, m));
                }
            }
        }
        Due.sentence("COMES: whatever SKIES are told, and whatever THE DAY is");
        Counted z = Due.of("odds 60 30 10 20 50 30 10 20 70;", "ice 99;");
        z.go(5);
        Due.is("comes(0, 1, 2)", z.comes(0, 1, 2), 350000);
        Due.sentence("COMES: odds untold: as the SKY was");
        Counted w = new Counted();
        for (int i = 0; i < 9; i++) {
            Due.is("comes(" + i / 3 + ", " + i % 3 + ", 60)", w.comes(i / 3, i % 3, 60), i / 3 == i % 3 ? 1000000 : 0);
        }
    }

    private static Counted lived() {
        Counted x = Due.of("boat 15 40;barrel 90;hens 7 3;night 10,14;odds 60 30 10 20 50 30 10 20 70;light plain 12 10 30 5;light leaky 5 8 25 3;light gas 44 0 7 4;",
            "fine 2;rough 3;ice 4;");
        x.seed(7);
        x.goal(0);
        x.wick(1, true);
        x.go(2);
        x.keep(0);
        x.drift(3);
        x.write(0, 20);
        x.say(3, true);
        return x;
    }

    private static void nothingChanges() {
        Due.sentence("TRIED from now, nothing changes by it");
        Counted x = lived();
        for (int n = 1; n <= 4; n++) {
            for (int what = 0; what <= n + 1; what++) {
                x.round(n, what);
            }
        }
        x.darken(0, 99);
        x.darken(99999, 1);
        for (int l = 0; l < 3; l++) {
            x.lasts(l);
            x.late(l);
            x.store(l, 999);
        }
        x.comes(2, 1, 60);
        Due.same("all behind what was tried", Due.all(x), Due.all(lived()));
    }
}
