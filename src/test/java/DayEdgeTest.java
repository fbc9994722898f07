/** Promises 10 to 15 and section 2, a day, at their edges: hens, boat, night, darkness, draws, pouring, beginning. */
public final class DayEdgeTest {
    public static void main(String[] args) {
        eggsForAPart();
        hensAheadOfTheBoat();
        atFirst();
        milesBySkies();
        thereOrNot();
        atTheHarbour();
        atALight();
        boatAheadOfTheNight();
        onlyTheGoal();
        lightAtTheHarbour();
        needsJustMet();
        needsCut();
        wicksHalved();
        gasLights();
        floatingLights();
        leakyLights();
        darkOnEnd();
        harmBySkies();
        tenDaysEach();
        daysOneMore();
        goals();
        wicks();
        goOfOneAndMany();
        drawsBelowTheOdds();
        drawsBehindTheDayAhead();
        seedAndDraws();
        driftOfOneAndMany();
        pours();
        poursAtTheHarbour();
        begins();
        beginLeaves();
        Due.end("DayEdgeTest");
    }

    private static void oil(String when, Counted x, int... due) {
        for (int l = 0; l < due.length; l++) {
            Due.is("light(" + l + ", 5) " + when, x.light(l, 5), due[l]);
        }
    }

    // ---- 1 the hens

    private static void eggs(Counted x, int kept, int parts, int barrel) {
        x.go(1);
        String when = " behind day " + (x.told(5) - 1);
        Due.is("told(4)" + when, x.told(4), kept);
        Due.is("told(15)" + when, x.told(15), parts);
        Due.is("told(3)" + when, x.told(3), barrel);
    }

    private static void eggsForAPart() {
        Due.sentence("eggs are E for a part of oil, which goes into THE BARREL; the rest of them is kept");
        String far = "barrel 10;light plain 99 0 0 0;";
        Counted fewer = awayFrom("hens 8 9;" + far);
        eggs(fewer, 8, 0, 10);
        eggs(fewer, 7, 1, 11);
        Counted just = awayFrom("hens 9 9;" + far);
        eggs(just, 0, 1, 11);
        eggs(just, 0, 2, 12);
        Counted more = awayFrom("hens 10 9;" + far);
        eggs(more, 1, 1, 11);
        for (int day = 1; day < 8; day++) {
            eggs(more, day + 1, day + 1, 11 + day);
        }
        eggs(more, 0, 10, 20);
        Counted twice = awayFrom("hens 18 9;" + far);
        eggs(twice, 0, 2, 12);
        Counted none = awayFrom("hens 0 1;" + far);
        eggs(none, 0, 0, 10);
        Counted most = awayFrom("hens 99 1;barrel 9999;light plain 99 0 0 0;");
        eggs(most, 0, 99, 10098);
        most.go(200);
        Due.is("told(3): THE BARREL has no bound by days", most.told(3), 9999 + 201 * 99);
        Counted slowest = awayFrom("hens 1 99;" + far);
        slowest.go(98);
        Due.is("told(4): 98 eggs", slowest.told(4), 98);
        eggs(slowest, 0, 1, 11);
    }

    /** The boat is on its way from the first day on, so that the barrel is left alone. */
    private static Counted awayFrom(String reef) {
        Counted x = Due.of(reef);
        x.goal(0);
        return x;
    }

    private static void hensAheadOfTheBoat() {
        Due.sentence("1 the hens lay. 2 THE BOAT: it takes what they brought on the same DAY");
        Counted x = Due.of("boat 1 40;barrel 0;hens 5 1;");
        x.go(1);
        Due.is("told(13)", x.told(13), 5);
        Due.is("told(3)", x.told(3), 0);
        x.go(7);
        Due.is("told(13): full", x.told(13), 40);
        Due.is("told(3)", x.told(3), 0);
        x.go(1);
        Due.is("told(3): what it does not hold", x.told(3), 5);
    }

    // ---- 2 the boat

    private static void atFirst() {
        Due.sentence("At first it lies at the harbour, empty; its GOAL is the harbour; LIGHTS are full, wicks whole");
        Counted x = Due.of("boat 9 9;light plain 5 1 77 1;light gas 5 1 0 1;");
        Due.is("told(12)", x.told(12), 0);
        Due.is("told(13)", x.told(13), 0);
        Due.is("told(14)", x.told(14), -1);
        Due.lights("at first", x, 0, 5, 77, 0, 0, 0);
        Due.lights("at first", x, 1, 5, 0, 0, 0, 0);
    }

    private static void places(String reef, String skies, int... due) {
        Counted x = Due.of(reef, skies);
        x.goal(0);
        for (int day = 0; day < due.length; day++) {
            x.go(1);
            Due.is("told(12) behind day " + day + " of '" + skies + "' with '" + reef + "'", x.told(12), due[day]);
        }
    }

    private static void milesBySkies() {
        Due.sentence("V miles by a fine SKY, V / 2 by a rough one, none by ice");
        places("boat 10 9;light plain 99 0 0 0;", "fine 1;rough 1;ice 1;rough 1;", 10, 15, 15, 20, 30);
        Due.sentence("V / 2 cuts towards 0");
        places("boat 11 9;light plain 99 0 0 0;", "rough 3;", 5, 10, 15, 26);
        places("boat 1 9;light plain 99 0 0 0;", "rough 3;", 0, 0, 0, 1);
        places("boat 2 9;light plain 99 0 0 0;", "rough 3;", 1, 2, 3, 5);
        places("boat 99 9;light plain 99 0 0 0;", "rough 3;", 49, 98, 99);
        places("boat 99 9;light plain 99 0 0 0;", "ice 2;", 0, 0, 99, 99);
    }

    private static void thereOrNot() {
        Due.sentence("THE BOAT goes towards its GOAL, and not beyond it");
        places("boat 10 9;light plain 9 0 0 0;", "", 9, 9);
        places("boat 10 9;light plain 10 0 0 0;", "", 10, 10);
        places("boat 10 9;light plain 11 0 0 0;", "", 10, 11, 11);
        places("boat 10 9;light plain 5 0 0 0;", "rough 9;", 5, 5);
        places("boat 10 9;light plain 6 0 0 0;", "rough 9;", 5, 6, 6);
        Due.sentence("THE BOAT goes towards its GOAL: back as well, and from the midst of its way");
        Counted x = Due.of("boat 10 9;light plain 99 0 0 0;light plain 7 0 0 0;light plain 17 0 0 0;");
        x.goal(0);
        x.go(2);
        x.goal(1);
        x.go(1);
        Due.is("told(12): ten miles back", x.told(12), 10);
        x.go(1);
        Due.is("told(12): three miles back, and no more", x.told(12), 7);
        x.goal(2);
        x.go(1);
        Due.is("told(12): just ten miles", x.told(12), 17);
        x.goal(-1);
        x.go(1);
        Due.is("told(12)", x.told(12), 7);
        x.go(1);
        Due.is("told(12): home", x.told(12), 0);
    }

    private static void harbour(String reef, String skies, int cargo, int barrel) {
        Counted x = Due.of(reef, skies);
        x.go(1);
        Due.is("told(13) of '" + reef + "'", x.told(13), cargo);
        Due.is("told(3) of '" + reef + "'", x.told(3), barrel);
    }

    private static void atTheHarbour() {
        Due.sentence("at the harbour it takes oil from THE BARREL till it is full");
        harbour("boat 9 40;barrel 0;", "", 0, 0);
        harbour("boat 9 40;barrel 39;", "", 39, 0);
        harbour("boat 9 40;barrel 40;", "", 40, 0);
        harbour("boat 9 40;barrel 41;", "", 40, 1);
        harbour("boat 1 1;barrel 9999;", "", 1, 9998);
        harbour("boat 1 999;barrel 9999;", "", 999, 9000);
        Due.sentence("at the harbour it takes oil by every SKY: it is there already");
        harbour("boat 9 40;barrel 90;", "rough 1;", 40, 50);
        harbour("boat 9 40;barrel 90;", "ice 1;", 40, 50);
        Due.sentence("at the harbour it takes oil on the DAY that it comes home, not ahead of it");
        Counted x = Due.of("boat 10 40;barrel 90;light plain 11 0 0 0;");
        x.goal(0);
        x.go(2);
        x.goal(-1);
        x.go(1);
        Due.is("told(12): a mile off", x.told(12), 1);
        Due.is("told(13): a mile off", x.told(13), 0);
        x.go(1);
        Due.is("told(13): home", x.told(13), 40);
        Due.sentence("it takes nothing while its GOAL is a LIGHT, though it lies at the harbour yet");
        Counted y = Due.of("boat 10 40;barrel 90;light plain 11 0 0 0;", "ice 9;");
        y.goal(0);
        y.go(3);
        Due.is("told(12)", y.told(12), 0);
        Due.is("told(13)", y.told(13), 0);
        Due.is("told(3)", y.told(3), 90);
    }

    /** A light of 50 parts that burns ten a night has 20 on day 3, and is filled on that day ahead of the night. */
    private static void filled(int cargo, int lightHas, int boatHas) {
        Counted x = Due.of("boat 10 99;barrel 99;night 10;light plain 10 10 50 1;", "ice 3;");
        x.goal(0);
        x.go(3);
        x.pour(cargo);
        Due.is("told(13)", x.told(13), cargo);
        x.go(1);
        Due.is("light(0, 5) filled out of " + cargo, x.light(0, 5), lightHas);
        Due.is("told(13) behind filling out of " + cargo, x.told(13), boatHas);
    }

    private static void atALight() {
        Due.sentence("at a LIGHT it fills that, as far as it has");
        filled(0, 10, 0);
        filled(1, 11, 0);
        filled(29, 39, 0);
        filled(30, 40, 0);
        filled(31, 40, 1);
        filled(99, 40, 69);
        Due.sentence("at a LIGHT it fills that, on each DAY that it is there, by ice too");
        Counted x = Due.of("boat 10 99;barrel 99;night 10;light plain 10 10 50 1;", "fine 1;ice 9;");
        x.pour(99);
        x.goal(0);
        x.go(4);
        Due.is("light(0, 5)", x.light(0, 5), 40);
        Due.is("told(13): thrice ten parts", x.told(13), 69);
        Due.sentence("at a LIGHT it fills that: gas and floating ones, ones that hold nothing, like others");
        Counted y = Due.of("boat 99 99;barrel 99;night 10;light floating 1 10 30 1;light gas 2 9 0 1;");
        y.pour(99);
        y.go(2);
        y.goal(0);
        y.go(1);
        Due.is("light(0, 5)", y.light(0, 5), 20);
        Due.is("told(13)", y.told(13), 79);
        y.goal(1);
        y.go(1);
        Due.is("told(13): nothing is taken by one that holds nothing", y.told(13), 79);
    }

    private static void boatAheadOfTheNight() {
        Due.sentence("2 THE BOAT, 3 THE NIGHT: what is filled on a DAY burns in its night");
        Counted x = Due.of("boat 10 99;barrel 99;night 10;light plain 10 10 10 1;light plain 11 10 10 1;");
        x.go(1);
        x.goal(0);
        Due.is("go(1): filled just in time, the other one is dark", x.go(1), 2);
        x.goal(1);
        Due.is("go(1)", x.go(1), 1);
    }

    private static void onlyTheGoal() {
        Due.sentence("at a LIGHT it fills that: not one that it passes, nor another one at the same mile");
        Counted x = Due.of("boat 20 99;barrel 99;night 10;light plain 5 10 50 1;light plain 10 10 50 1;light plain 10 10 50 1;");
        x.go(2);
        x.goal(1);
        x.go(1);
        oil("behind a way past light 0 to light 1", x, 20, 40, 20);
        x.goal(-1);
        x.go(1);
        oil("behind a way home past light 0", x, 10, 30, 10);
    }

    private static void lightAtTheHarbour() {
        Due.sentence("its GOAL (the harbour, a LIGHT): a LIGHT at mile 0 is filled, THE BARREL is left alone");
        Counted x = Due.of("boat 20 40;barrel 90;night 10;light plain 0 10 50 1;");
        x.pour(15);
        x.goal(0);
        x.go(1);
        Due.is("told(13): the LIGHT is full, nothing is given", x.told(13), 15);
        x.go(1);
        Due.is("told(13): ten parts are given", x.told(13), 5);
        Due.is("told(3)", x.told(3), 75);
        Due.is("told(12)", x.told(12), 0);
        x.goal(-1);
        x.go(1);
        Due.is("told(13): the harbour is the GOAL again", x.told(13), 40);
        Due.is("light(0, 5)", x.light(0, 5), 30);
    }

    // ---- 3 the night

    private static void needsJustMet() {
        Due.sentence("One that has less than it NEEDS burns what it has, and is DARK");
        Counted x = Due.of("night 10;light plain 1 10 11 1;light plain 1 10 10 1;light plain 1 10 9 1;light plain 1 10 0 1;light plain 1 0 0 1;");
        Due.is("go(1): 9 and 0 are less than 10", x.go(1), 12);
        oil("behind the night", x, 1, 0, 0, 0, 0);
        Due.is("told(11)", x.told(11), 10 + 10 + 9);
        Due.is("go(1): one that NEEDS nothing is not dark", x.go(1), 15);
        oil("behind the second night", x, 0, 0, 0, 0, 0);
        Due.is("told(11): what it has is burnt", x.told(11), 30);
        Due.is("go(1)", x.go(1), 15);
        Due.is("told(11): there is nothing to burn", x.told(11), 30);
    }

    /** What a light needs in a fine night of so many hours, seen by what it burns. */
    private static void burns(String kind, int b, int hours, boolean halved, int due) {
        Counted x = Due.of("night " + hours + ";light " + kind + " 1 " + b + " 999 1;");
        x.wick(0, halved);
        x.go(1);
        Due.is("parts that a " + kind + " one of " + b + " burns in " + hours + " hours" + (halved ? ", halved" : ""), 999 - x.light(0, 5), due);
        Due.is("told(11)", x.told(11), due);
    }

    private static void needsCut() {
        Due.sentence("a LIGHT NEEDS B times hours / 10, cut");
        burns("plain", 1, 9, false, 0);
        burns("plain", 1, 10, false, 1);
        burns("plain", 1, 19, false, 1);
        burns("plain", 1, 20, false, 2);
        burns("plain", 3, 13, false, 3);
        burns("plain", 99, 24, false, 237);
        burns("plain", 99, 1, false, 9);
        burns("plain", 0, 24, false, 0);
        burns("floating", 3, 13, false, 3);
        Due.sentence("twice that, if double: what is cut already");
        burns("double", 1, 9, false, 0);
        burns("double", 1, 15, false, 2);
        burns("double", 1, 19, false, 2);
        burns("double", 3, 13, false, 6);
        burns("double", 99, 24, false, 474);
        Due.sentence("one that NEEDS nothing and has nothing is not DARK");
        Counted x = Due.of("night 9;light plain 1 1 0 1;light double 1 1 0 1;light leaky 1 1 0 1;");
        Due.is("go(1)", x.go(1), 0);
    }

    private static void wicksHalved() {
        Due.sentence("half of that (cut), if its wick is halved and the SKY is fine");
        burns("plain", 1, 10, true, 0);
        burns("plain", 2, 10, true, 1);
        burns("plain", 3, 10, true, 1);
        burns("plain", 99, 24, true, 118);
        burns("double", 1, 19, true, 1);
        burns("double", 3, 13, true, 3);
        burns("double", 99, 24, true, 237);
        burns("floating", 3, 10, true, 1);
        Due.sentence("half of that only if the SKY is fine");
        Counted x = Due.of("night 10;light plain 1 10 99 1;light double 1 10 99 1;light floating 1 10 99 1;", "rough 1;ice 1;fine 1;");
        for (int l = 0; l < 3; l++) {
            x.wick(l, true);
        }
        x.go(1);
        oil("by a rough sky", x, 89, 79, 89);
        x.go(1);
        oil("by ice", x, 79, 59, 89);
        x.go(1);
        oil("by a fine sky", x, 74, 49, 84);
        x.wick(0, false);
        x.go(1);
        oil("with the first wick whole again", x, 64, 39, 79);
        Due.sentence("half of that decides whether it is DARK");
        Counted y = Due.of("night 10;light plain 1 10 5 1;light plain 1 10 4 1;");
        y.wick(0, true);
        y.wick(1, true);
        Due.is("go(1): 5 are enough, 4 are not", y.go(1), 2);
        Due.is("go(1)", y.go(1), 3);
    }

    private static void gasLights() {
        Due.sentence("a gas one NEEDS nothing, but is DARK by a rough SKY");
        Counted x = Due.of("night 24;light gas 1 99 50 1;light gas 1 99 0 1;", "fine 1;rough 1;ice 1;rough 2;");
        int[] due = {0, 3, 0, 3, 3, 0};
        for (int day = 0; day < due.length; day++) {
            Due.is("go(1) on day " + day, x.go(1), due[day]);
            oil("on day " + day, x, 50, 0);
        }
        Due.is("told(11)", x.told(11), 0);
        Due.lights("behind six days", x, 0, 7, 0, 3);
        Due.is("told(7): one of two nights on end", x.told(7), 2);
    }

    private static void floatingLights() {
        Due.sentence("a floating one is DARK by ice and NEEDS nothing then");
        Counted x = Due.of("night 10;light floating 1 10 30 1;light floating 1 10 0 1;", "fine 1;ice 1;rough 1;ice 1;fine 1;");
        int[] due = {2, 3, 2, 3, 2, 3};
        int[] has = {20, 20, 10, 10, 0, 0};
        for (int day = 0; day < due.length; day++) {
            Due.is("go(1) on day " + day, x.go(1), due[day]);
            oil("on day " + day, x, has[day], 0);
        }
        Due.is("told(11)", x.told(11), 30);
        Due.lights("behind six days", x, 0, 7, 1, 3);
        Due.lights("behind six days", x, 1, 7, 6, 6);
    }

    private static void leaks(int holds, int burns, int due) {
        Counted x = Due.of("night 10;light leaky 1 " + burns + " " + holds + " 1;light plain 1 " + burns + " " + holds + " 1;");
        x.go(1);
        oil("of " + holds + " behind burning " + burns + " and leaking", x, due, Math.max(0, holds - burns));
        Due.is("told(11)", x.told(11), holds - due + Math.min(holds, burns));
    }

    private static void leakyLights() {
        Due.sentence("Then a leaky one loses a tenth of what it has left (1 at least, if it has any)");
        leaks(0, 0, 0);
        leaks(1, 0, 0);
        leaks(2, 0, 1);
        leaks(9, 0, 8);
        leaks(10, 0, 9);
        leaks(19, 0, 18);
        leaks(20, 0, 18);
        leaks(29, 0, 27);
        leaks(999, 0, 900);
        Due.sentence("what it has left: behind what is burnt");
        leaks(30, 10, 18);
        leaks(29, 10, 18);
        leaks(11, 10, 0);
        leaks(10, 10, 0);
        leaks(9, 10, 0);
        Due.sentence("a leaky one loses by every SKY");
        Counted x = Due.of("night 10;light leaky 1 10 100 1;", "rough 1;ice 1;");
        x.go(1);
        oil("by a rough sky", x, 81);
        x.go(1);
        oil("by ice", x, 64);
        x.wick(0, true);
        x.go(1);
        oil("by a fine sky, halved", x, 54);
        Due.sentence("a leaky one that has enough for the night is not DARK, though all else leaks");
        Counted y = Due.of("night 10;light leaky 1 10 11 1;");
        Due.is("go(1)", y.go(1), 0);
        Due.is("go(1)", y.go(1), 1);
    }

    private static void night(Counted x, int dark, int onEnd, int inAll, int harm, int breaches) {
        String when = " on day " + x.told(5);
        Due.is("go(1)" + when, x.go(1), dark);
        Due.lights(when, x, 0, 7, onEnd, inAll);
        Due.is("told(6)" + when, x.told(6), harm);
        Due.is("told(7)" + when, x.told(7), breaches);
    }

    private static void darkOnEnd() {
        Due.sentence("DARK: nights on end are counted; from the second on each is a BREACH");
        Counted x = Due.of("light gas 1 0 0 5;", "fine 1;rough 1;fine 1;rough 3;fine 1;rough 2;");
        night(x, 0, 0, 0, 0, 0);
        night(x, 1, 1, 1, 10, 0);
        night(x, 0, 0, 1, 10, 0);
        night(x, 1, 1, 2, 20, 0);
        night(x, 1, 2, 3, 30, 1);
        night(x, 1, 3, 4, 40, 2);
        night(x, 0, 0, 4, 40, 2);
        night(x, 1, 1, 5, 50, 2);
        night(x, 1, 2, 6, 60, 3);
        Due.sentence("each LIGHT has nights on end of its own");
        Counted y = Due.of("light gas 1 0 0 5;light floating 1 0 0 7;", "rough 1;ice 1;rough 1;ice 2;");
        for (int day = 0; day < 4; day++) {
            Due.is("go(1) on day " + day, y.go(1), day % 2 == 0 ? 1 : 2);
        }
        Due.is("told(7): none of them two nights on end", y.told(7), 0);
        Due.is("go(1) on day 4", y.go(1), 2);
        Due.is("told(7)", y.told(7), 1);
        Due.sentence("a BREACH by whatever made it DARK, and by LIGHTS of no ships");
        Counted z = Due.of("night 10;light floating 1 10 0 0;", "fine 1;ice 1;rough 1;");
        z.go(3);
        Due.is("told(7)", z.told(7), 2);
        Due.is("told(6)", z.told(6), 0);
    }

    private static void harmBySkies() {
        Due.sentence("HARM is W more, twice W by a rough SKY");
        Counted x = Due.of("night 10;light plain 1 10 0 99;light plain 1 10 0 0;light plain 1 10 0 1;light plain 1 0 0 50;", "fine 1;rough 1;ice 1;");
        Due.is("go(1)", x.go(1), 7);
        Due.is("told(6) by a fine sky", x.told(6), 100);
        x.go(1);
        Due.is("told(6) by a rough sky", x.told(6), 300);
        x.go(1);
        Due.is("told(6) by ice", x.told(6), 400);
        Due.sentence("HARM on each DARK night, a BREACH or not");
        x.go(10);
        Due.is("told(6)", x.told(6), 1400);
        Due.is("told(7)", x.told(7), 3 * 12);
    }

    private static void tenDaysEach() {
        Due.sentence("hours of nights, ten DAYS each, over and over");
        Counted x = Due.of("night 1,2,3,4,5,6,7,8,9,10,11,12;light plain 1 10 999 1;");
        long burnt = 0;
        for (int day = 0; day < 260; day++) {
            burnt += day / 10 % 12 + 1;
            if (day % 10 == 9 || day % 10 == 0) {
                x.go((int) (day + 1 - x.told(5)));
                Due.is("told(11) behind day " + day, x.told(11), Math.min(burnt, 999));
            }
        }
        Due.sentence("one night alone is that of all DAYS");
        Counted y = Due.of("night 7;light plain 1 10 999 1;");
        y.go(140);
        Due.is("light(0, 5)", y.light(0, 5), 999 - 980);
    }

    private static void daysOneMore() {
        Due.sentence("THE DAY is one more (0 at first)");
        Counted x = new Counted();
        Due.is("told(5)", x.told(5), 0);
        x.go(1);
        Due.is("told(5)", x.told(5), 1);
        x.drift(1);
        Due.is("told(5)", x.told(5), 2);
        x.go(200);
        Due.is("told(5)", x.told(5), 202);
        x.drift(200);
        Due.is("told(5)", x.told(5), 402);
    }

    // ---- promises 10 to 13

    private static void goals() {
        Due.sentence("Promise 10: THE BOAT's GOAL becomes LIGHT l (NONE: the harbour): what it was");
        Counted x = Due.of("light gas 1 1 1 1;".repeat(9));
        Due.is("goal(0), the first", x.goal(0), -1);
        Due.is("goal(8), the last", x.goal(8), 0);
        Due.is("goal(8) again", x.goal(8), 8);
        Due.is("goal(NONE)", x.goal(-1), 8);
        Due.is("goal(NONE) again", x.goal(-1), -1);
        Due.is("goal(9)", x.goal(9), Due.UNKNOWN);
        Due.is("goal(-2)", x.goal(-2), Due.UNKNOWN);
        Due.is("told(14)", x.told(14), -1);
        Due.is("told(5): no DAY goes by", x.told(5), 0);
    }

    private static void wicks() {
        Due.sentence("Promise 11: a wick is halved, or not: what it was (1, 0)");
        Counted x = Due.of("light gas 1 1 1 1;".repeat(9));
        for (int l : new int[] {0, 8}) {
            Due.is("wick(" + l + ", false) of a whole one", x.wick(l, false), 0);
            Due.is("wick(" + l + ", true)", x.wick(l, true), 0);
            Due.is("wick(" + l + ", true) again", x.wick(l, true), 1);
            Due.is("light(" + l + ", 6)", x.light(l, 6), 1);
            Due.is("wick(" + l + ", false)", x.wick(l, false), 1);
            Due.is("light(" + l + ", 6)", x.light(l, 6), 0);
        }
        x.wick(0, true);
        Due.is("light(1, 6): wicks are apart", x.light(1, 6), 0);
        Due.is("wick(9, true)", x.wick(9, true), Due.UNKNOWN);
        x.go(3);
        Due.is("light(0, 6): it stays halved by days", x.light(0, 6), 1);
    }

    private static void goOfOneAndMany() {
        Due.sentence("Promise 12: n DAYS (1 .. 200): LIGHTS that were DARK in the last night (a SET)");
        Counted x = Due.of("light gas 1 0 0 1;light floating 1 0 0 1;light gas 1 0 0 1;", "rough 1;fine 1;ice 1;rough 99;rough 98;fine 1;rough 1;");
        Due.is("go(1)", x.go(1), 5);
        Due.is("go(1)", x.go(1), 0);
        Due.is("go(1)", x.go(1), 2);
        Due.is("told(5)", x.told(5), 3);
        x.begin();
        Due.is("go(200): the last night alone", x.go(200), 5);
        Due.is("go(1)", x.go(1), 0);
        Due.is("go(1)", x.go(1), 5);
        Due.is("told(5)", x.told(5), 202);
        x.begin();
        Due.is("go(2): dark ahead of the last night does not count", x.go(2), 0);
        Due.sentence("Promise 12: the SET of nine");
        Counted y = Due.of("light plain 1 10 0 1;".repeat(9));
        Due.is("go(1)", y.go(1), 511);
        Due.sentence("Promise 12: SKIES as told, and nothing is drawn");
        Counted z = Due.of("odds 0 0 100 0 0 100 0 0 100;light floating 1 0 0 1;");
        z.seed(31);
        Due.is("go(9)", z.go(9), 0);
        Due.is("seed(0)", z.seed(0), 31);
    }

    /** A seed from which the next draw of 100 is this one. */
    private static int seedFor(int drawn) {
        for (long v = 0; v < 100000; v++) {
            if ((v * 1103515245L + 12345L) % 2147483648L / 65536 % 100 == drawn) {
                return (int) v;
            }
        }
        throw new IllegalStateException("no seed draws " + drawn);
    }

    private static void drawn(String odds, int draw, int sky) {
        Counted x = Due.of("odds " + odds + " " + odds + " " + odds + ";light gas 1 0 0 1;light floating 1 0 0 1;");
        x.seed(seedFor(draw));
        int dark = x.drift(1);
        Due.is("SKY by the draw " + draw + " and the odds " + odds, dark == 1 ? 1 : dark == 2 ? 2 : 0, sky);
    }

    private static void drawsBelowTheOdds() {
        Due.sentence("by a DRAW of 100 below the odds, fine, rough, ice one behind the other");
        drawn("60 30 10", 0, 0);
        drawn("60 30 10", 59, 0);
        drawn("60 30 10", 60, 1);
        drawn("60 30 10", 89, 1);
        drawn("60 30 10", 90, 2);
        drawn("60 30 10", 99, 2);
        drawn("100 0 0", 0, 0);
        drawn("100 0 0", 99, 0);
        drawn("0 100 0", 0, 1);
        drawn("0 100 0", 99, 1);
        drawn("0 0 100", 0, 2);
        drawn("0 0 100", 99, 2);
        drawn("99 1 0", 98, 0);
        drawn("99 1 0", 99, 1);
        drawn("99 0 1", 99, 2);
        drawn("1 98 1", 0, 0);
        drawn("1 98 1", 1, 1);
        drawn("1 98 1", 98, 1);
        drawn("1 98 1", 99, 2);
        drawn("0 1 99", 0, 1);
        drawn("0 1 99", 1, 2);
    }

    private static void drawsBehindTheDayAhead() {
        // behind fine comes rough, behind rough ice, behind ice fine
        String turning = "odds 0 100 0 0 0 100 100 0 0;light gas 1 0 0 1;light floating 1 0 0 1;";
        Due.sentence("behind the SKY of the DAY ahead (of DAY 0: fine)");
        Counted x = Due.of(turning, "ice 1;");
        Due.is("drift(1) on DAY 0, whatever is told for it", x.drift(1), 1);
        Due.sentence("what was drawn stays the SKY of that DAY for the next DRAW");
        Due.is("drift(1) on DAY 1", x.drift(1), 2);
        Due.is("drift(1) on DAY 2", x.drift(1), 0);
        Due.is("drift(1) on DAY 3", x.drift(1), 1);
        Due.is("drift(2)", x.drift(2), 0);
        Due.sentence("the SKY of the DAY ahead, when it was one as told");
        for (int told = 0; told < 3; told++) {
            Counted y = Due.of(turning, told == 0 ? "fine 1;" : told == 1 ? "rough 1;" : "ice 1;");
            y.go(1);
            Due.is("drift(1) behind SKY " + told, y.drift(1), told == 0 ? 1 : told == 1 ? 2 : 0);
        }
        Due.sentence("the SKY of the DAY ahead, when DAYS as told come behind drawn ones");
        Counted z = Due.of(turning, "ice 1;ice 1;rough 1;");
        z.drift(1);
        z.go(1);
        Due.is("drift(1) on DAY 2 behind ice as told", z.drift(1), 0);
        Due.sentence("SKY of a DAY: as told, for go, whatever was drawn ahead");
        Due.is("go(1) on DAY 3: fine behind all that is told", z.go(1), 0);
        Due.is("drift(1) on DAY 4", z.drift(1), 1);
    }

    private static void seedAndDraws() {
        Due.sentence("THE SEED (0 at first: each DRAW it becomes it times 1103515245 and 12345, left over by 2 to the 31)");
        Counted x = new Counted();
        x.drift(1);
        Due.is("seed(0) behind the first draw", x.seed(0), 12345);
        for (long v : new long[] {0, 1, 2, 65535, 65536, 1073741824L, 2147483646L, 2147483647L}) {
            x.seed((int) v);
            x.drift(1);
            Due.is("seed(0) behind a draw from " + v, x.seed(0), java.math.BigInteger.valueOf(v).multiply(java.math.BigInteger.valueOf(1103515245L))
                .add(java.math.BigInteger.valueOf(12345)).mod(java.math.BigInteger.ONE.shiftLeft(31)).longValue());
        }
        Due.sentence("one DRAW each DAY of DRIFT, and none by other calls");
        long seed = 5;
        for (int i = 0; i < 200; i++) {
            seed = (seed * 1103515245L + 12345L) % 2147483648L;
        }
        Counted y = Due.of("odds 60 30 10 20 50 30 10 20 70;light plain 9 1 9 1;");
        y.seed(5);
        y.go(3);
        y.lasts(0);
        y.late(0);
        y.store(0, 9);
        y.comes(0, 0, 60);
        y.round(4, 0);
        y.darken(5, 5);
        y.drift(200);
        Due.is("seed(0) behind 200 draws", y.seed(0), seed);
    }

    private static void driftOfOneAndMany() {
        Due.sentence("Promise 13: n DAYS (1 .. 200), SKIES by DRAWS: likewise [the last night's SET]");
        String reef = "odds 60 30 10 20 50 30 10 20 70;light gas 1 0 0 1;light floating 1 0 0 3;light plain 7 9 50 5;";
        Counted one = Due.of(reef);
        Counted many = Due.of(reef);
        int dark = 0;
        for (int i = 0; i < 200; i++) {
            dark = one.drift(1);
        }
        Due.is("drift(200)", many.drift(200), dark);
        Due.same("two hundred days", Due.all(many), Due.all(one));
        Due.sentence("Promise 13: a DAY of DRIFT is a DAY like others");
        Counted x = Due.of("boat 10 40;barrel 90;hens 7 3;night 10;light plain 10 10 30 5;");
        Counted y = Due.of("boat 10 40;barrel 90;hens 7 3;night 10;light plain 10 10 30 5;");
        for (int i = 0; i < 9; i++) {
            x.goal(i % 2 - 1);
            y.goal(i % 2 - 1);
            Due.is("drift(2)", x.drift(2), y.go(2));
        }
        x.seed(0);
        Due.same("eighteen days", Due.days(x), Due.days(y));
    }

    // ---- promises 14 and 15

    private static void poured(String reef, int already, int n, int due) {
        Counted x = Due.of(reef);
        x.pour(already);
        long barrel = x.told(3);
        Due.is("pour(" + n + ") of '" + reef + "' with " + already, x.pour(n), due);
        Due.is("told(13) behind it", x.told(13), already + due);
        Due.is("told(3) behind it", x.told(3), barrel - due);
        Due.is("told(5): no DAY goes by", x.told(5), 0);
        Due.is("told(11): nothing is lost", x.told(11), 0);
    }

    private static void pours() {
        Due.sentence("Promise 14: how much (n 0 .. 999 is wanted; as much as there is, as it holds)");
        poured("boat 1 999;barrel 9999;", 0, 0, 0);
        poured("boat 1 999;barrel 9999;", 0, 1, 1);
        poured("boat 1 999;barrel 9999;", 0, 998, 998);
        poured("boat 1 999;barrel 9999;", 0, 999, 999);
        poured("boat 1 40;barrel 90;", 0, 39, 39);
        poured("boat 1 40;barrel 90;", 0, 40, 40);
        poured("boat 1 40;barrel 90;", 0, 41, 40);
        poured("boat 1 40;barrel 90;", 0, 999, 40);
        poured("boat 1 40;barrel 90;", 39, 999, 1);
        poured("boat 1 40;barrel 90;", 40, 999, 0);
        poured("boat 1 40;barrel 30;", 0, 29, 29);
        poured("boat 1 40;barrel 30;", 0, 30, 30);
        poured("boat 1 40;barrel 30;", 0, 31, 30);
        poured("boat 1 40;barrel 30;", 30, 1, 0);
        poured("boat 1 40;barrel 0;", 0, 999, 0);
        poured("boat 1 40;barrel 50;", 20, 30, 20);
        poured("boat 1 40;barrel 50;", 30, 30, 10);
    }

    private static void poursAtTheHarbour() {
        Due.sentence("Promise 14: if it is at the harbour; NOT: it is not there");
        Counted x = Due.of("boat 2 40;barrel 90;light plain 3 0 0 1;light plain 0 0 0 1;", "fine 4;ice 9;");
        x.goal(0);
        Due.is("pour(1) with a GOAL, but at the harbour yet", x.pour(1), 1);
        x.go(1);
        Due.is("pour(1) on its way", x.pour(1), Due.NOT);
        Due.is("pour(0) on its way", x.pour(0), Due.NOT);
        x.go(1);
        Due.is("pour(1) at a LIGHT", x.pour(1), Due.NOT);
        x.goal(1);
        x.go(1);
        Due.is("pour(1) a mile off", x.pour(1), Due.NOT);
        Due.is("told(12)", x.told(12), 1);
        x.goal(-1);
        Due.is("pour(1) a mile off, on its way home", x.pour(1), Due.NOT);
        x.goal(1);
        x.go(1);
        Due.is("pour(1) at a LIGHT that stands at the harbour", x.pour(1), 1);
        x.goal(0);
        x.go(1);
        Due.is("pour(1) held by ice at the harbour", x.pour(1), 1);
    }

    private static final String REEF = "boat 15 40;barrel 90;hens 7 3;night 10,14;odds 60 30 10 20 50 30 10 20 70;"
        + "light plain 12 10 30 5;light leaky 5 8 25 3;light gas 44 0 7 4;";

    private static void begins() {
        Due.sentence("Promise 15: all is as at first: THE DAY it was");
        Counted x = Due.of(REEF, "rough 3;ice 2;");
        Due.is("begin() on DAY 0", x.begin(), 0);
        x.pour(40);
        x.goal(1);
        x.wick(0, true);
        x.wick(2, true);
        x.go(5);
        long[] first = {3, 15, 40, 90, 0, 0, 0, 0, 0, 0, 5, 0, 0, 0, -1, 0};
        for (int what : new int[] {3, 4, 5, 6, 7, 11, 12, 13, 14, 15}) {
            Due.is("told(" + what + ") is other than at first", x.told(what) == first[what] ? 1 : 0, 0);
        }
        Due.is("begin()", x.begin(), 5);
        Due.tolds("behind begin()", x, first);
        Due.lights("behind begin()", x, 0, 0, 0, 12, 10, 30, 5, 30, 0, 0, 0);
        Due.lights("behind begin()", x, 1, 0, 2, 5, 8, 25, 3, 25, 0, 0, 0);
        Due.lights("behind begin()", x, 2, 0, 4, 44, 0, 7, 4, 7, 0, 0, 0);
        Due.is("begin() again", x.begin(), 0);
        x.go(200);
        x.go(1);
        Due.is("begin() behind 201 days", x.begin(), 201);
        Due.sentence("Promise 15: as at first: the SKY ahead of DAY 0 is fine again");
        Counted y = Due.of("odds 0 100 0 0 0 100 100 0 0;light gas 1 0 0 1;light floating 1 0 0 1;");
        y.drift(1);
        y.begin();
        Due.is("drift(1) behind begin(): rough behind fine", y.drift(1), 1);
        Due.sentence("Promise 15: as at first, and the days go as they went");
        Counted once = Due.of(REEF, "rough 3;ice 2;");
        Counted twice = Due.of(REEF, "rough 3;ice 2;");
        twice.goal(1);
        twice.wick(1, true);
        twice.go(7);
        twice.begin();
        for (Counted z : new Counted[] {once, twice}) {
            z.pour(30);
            z.goal(0);
            z.go(8);
        }
        Due.same("days lived anew", Due.all(twice), Due.all(once));
    }

    private static void beginLeaves() {
        Due.sentence("Promise 15: SKIES, SAYINGS, BOOKS, IMAGES, THE SEED stay");
        Counted x = Due.of(REEF, "rough 3;ice 2;");
        x.go(2);
        x.keep(0);
        x.say(3, true);
        x.write(0, 20);
        x.write(2, 7);
        x.seed(99);
        x.begin();
        Due.is("told(10)", x.told(10), 5);
        Due.is("sky(4)", x.sky(4), 2);
        Due.is("told(9)", x.told(9), 1);
        Due.is("out(1, 0, 2)", x.out(1, 0, 2), 4);
        Due.is("seed(99)", x.seed(99), 99);
        Due.is("judge(0): no day is over", x.judge(0), -1);
        Due.is("goBack(0)", x.goBack(0), 1);
        Due.is("told(5)", x.told(5), 2);
        Due.is("goBack(1)", x.goBack(1), Due.NOT);
        Due.is("tear(0)", x.tear(0), 1);
        Due.is("tear(2)", x.tear(2), 1);
        Due.sentence("Promise 15: the reef stays, THE TEXT and its FAULT stay");
        Due.reef(x, "boat");
        Due.feed(x, "light gas 1 2 3 4;");
        x.begin();
        Due.is("told(0)", x.told(0), 3);
        Due.is("fault()", x.fault(), 4);
        Due.is("told(8)", x.told(8), 18);
        Due.is("reef()", x.reef(), 1);
    }
}
