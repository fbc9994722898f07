/** Promises 1 to 9 at their edges: a new object, feed, reef, skies, fault, told, light, sky, odds. */
public final class TextEdgeTest {
    private static final String REEF = "boat 15 40;barrel 90;hens 7 3;night 10,14;odds 60 30 10 20 50 30 10 20 70;"
        + "light plain 12 10 30 5;light leaky 5 8 25 3;light gas 44 0 7 4;";

    public static void main(String[] args) {
        newObject();
        newObjectsApart();
        lastCall();
        feedOfOneToEight();
        feedHighestFirst();
        feedTillFull();
        untold();
        reefOfNothing();
        reefStartsOver();
        reefKeepsSkiesAndSeed();
        reefOfFewerLights();
        reefOfNothingAhead();
        reefWithFault();
        skiesFromDayZero();
        skiesOfNothing();
        skiesAtTwoHundredBytes();
        skiesLeaveTheRest();
        skiesWithFault();
        nothingOfTheTextAhead();
        faultOfTheLatest();
        tellingAll();
        lightsFirstAndLast();
        skyFirstAndLast();
        oddsOfAll();
        Due.end("TextEdgeTest");
    }

    // ---- promise 1

    private static void newObject() {
        Due.sentence("Promise 1: No LIGHTS; boat, barrel, hens, night, odds as untold, SKIES fine");
        Counted x = new Counted();
        Due.tolds("of a new object", x, 0, 20, 50, 500, 0, 0, 0, 0, 0, 0, 0, 0, 0, 0, -1, 0);
        Due.is("fault()", x.fault(), -1);
        for (int i = 0; i < 9; i++) {
            Due.is("odds(" + i / 3 + ", " + i % 3 + ")", x.odds(i / 3, i % 3), i / 3 == i % 3 ? 100 : 0);
        }
        Due.is("sky(0)", x.sky(0), 0);
        Due.is("sky(9999)", x.sky(9999), 0);
        Due.is("begin()", x.begin(), 0);
        Due.is("forget()", x.forget(), 0);
        Due.is("out(0, 0, 0): the empty SET", x.out(0, 0, 0), 1);
        Due.is("out(1, 12, 0)", x.out(1, 12, 0), 0);
        Due.is("darken(0, 99)", x.darken(0, 99), 0);
        Due.is("round(4, 0)", x.round(4, 0), 0);
        Due.is("round(4, 1)", x.round(4, 1), 0);
        Due.is("round(4, 5)", x.round(4, 5), -1);
        Due.is("comes(2, 2, 60)", x.comes(2, 2, 60), 1000000);
        Due.is("say(0, true)", x.say(0, true), 1);
        Due.is("goal(NONE)", x.goal(-1), -1);
        Due.is("seed(0)", x.seed(0), 0);
        Due.is("skies() of nothing", x.skies(), 0);
        Due.is("reef() of nothing", x.reef(), 0);
        Due.is("go(200)", x.go(200), 0);
        Due.tolds("behind 200 days", x, 0, 20, 50, 450, 0, 200, 0, 0, 0, 0, 0, 0, 0, 50, -1, 0);
        Due.is("drift(200)", x.drift(200), 0);
        Due.is("told(5)", x.told(5), 400);
        Due.is("begin()", x.begin(), 400);
    }

    private static void newObjectsApart() {
        Due.sentence("Promise 1: a new object is as at first, whatever others are");
        Counted x = Due.of(REEF, "ice 9;");
        x.seed(99);
        x.goal(1);
        x.go(3);
        x.keep(0);
        x.say(1, true);
        Due.feed(x, "abc");
        Counted y = new Counted();
        Due.tolds("of the second object", y, 0, 20, 50, 500, 0, 0, 0, 0, 0, 0, 0, 0, 0, 0, -1, 0);
        Due.is("seed(0)", y.seed(0), 0);
        Due.is("goBack(0)", y.goBack(0), Due.NOT);
        Due.is("sky(0)", y.sky(0), 0);
        Due.reef(y, "light gas 9 9 9 9;");
        y.go(5);
        Due.is("told(0) of the first object", x.told(0), 3);
        Due.is("told(5) of the first object", x.told(5), 3);
        Due.is("told(8) of the first object", x.told(8), 3);
        Due.is("light(0, 1) of the first object", x.light(0, 1), 12);
    }

    private static void lastCall() {
        Due.sentence("What it is: an object is used for at most 512 calls");
        Counted x = Due.of("hens 99 1;odds 0 100 0 0 100 0 0 100 0;" + "light plain 1 99 0 99;".repeat(9));
        int before = x.calls();
        int goes = Counted.MOST_CALLS - before - 7;
        for (int i = 0; i < goes; i++) {
            x.drift(200);
        }
        long days = 200L * goes;
        Due.is("told(5)", x.told(5), days);
        Due.is("told(6): twice 99 ships of nine LIGHTS by rough skies", x.told(6), days * 9 * 198);
        Due.is("told(7): all nights but the first", x.told(7), (days - 1) * 9);
        Due.is("told(15)", x.told(15), days * 99);
        Due.is("told(3): all but what THE BOAT holds", x.told(3), 500 + days * 99 - 50);
        Due.is("light(8, 8)", x.light(8, 8), days);
        Due.is("light(8, 7), the 512th call", x.light(8, 7), days);
        Due.is("calls", x.calls(), Counted.MOST_CALLS);
    }

    // ---- promise 2

    private static void feedOfOneToEight() {
        Due.sentence("Promise 2: up to eight bytes (n 1 .. 8) come behind THE TEXT: how many it has");
        Counted x = new Counted();
        int all = 0;
        for (int n = 1; n <= 8; n++) {
            all += n;
            Due.is("feed(" + n + ", blanks)", x.feed(n, 0x2020202020202020L), all);
            Due.is("told(8)", x.told(8), all);
        }
        Due.is("reef() of 36 blanks", x.reef(), 0);
        Due.is("feed(1) behind reef()", x.feed(1, 32), 1);
        Due.is("skies() of a blank", x.skies(), 0);
        Due.is("feed(1) behind skies()", x.feed(1, 32), 1);
    }

    private static void feedHighestFirst() {
        Due.sentence("Promise 2: bytes of a long, the highest of these first");
        String text = "barrel 9;boat 8 7;light gas 6 5 4 3;    ";
        for (int n = 1; n <= 8; n++) {
            Counted x = new Counted();
            for (int from = 0; from < text.length(); from += n) {
                // what stands above the n lowest bytes is not fed: it would be a FAULT
                long bytes = 0x7a7a7a7a7a7a7a7aL;
                int taken = Math.min(n, text.length() - from);
                for (int i = 0; i < taken; i++) {
                    bytes = bytes << 8 | text.charAt(from + i);
                }
                x.feed(taken, bytes);
            }
            Due.is("reef() of a text fed by " + n, x.reef(), 1);
            Due.tolds("of a text fed by " + n, x, 1, 8, 7, 9);
            Due.lights("of a text fed by " + n, x, 0, 0, 4, 6, 5, 4, 3);
        }
        Due.sentence("Promise 2: bytes from 128 on, and the byte 0, are bytes like others");
        for (long b : new long[] {0, 127, 128, 200, 255}) {
            Counted x = new Counted();
            Due.is("feed(8) of blanks and the byte " + b, x.feed(8, 0x2020202020202000L | b), 8);
            Due.is("reef()", x.reef(), -11);
            Due.is("fault(): the last of the eight", x.fault(), 7);
            x.feed(8, b << 56 | 0x20202020202020L);
            Due.is("reef()", x.reef(), -11);
            Due.is("fault(): the first of the eight", x.fault(), 0);
        }
        Counted x = new Counted();
        Due.is("feed(8, -1)", x.feed(8, -1L), 8);
        Due.is("feed(8, least)", x.feed(8, Long.MIN_VALUE), 16);
        Due.is("reef()", x.reef(), -11);
    }

    private static void feedTillFull() {
        Due.sentence("Promise 2: FULL (500)");
        Counted x = fedBlanks(62);
        Due.is("feed(5) at 496", x.feed(5, 0x2020202020L), Due.FULL);
        Due.is("feed(4) at 496", x.feed(4, 0x20202020L), 500);
        Due.is("feed(1) at 500", x.feed(1, 32), Due.FULL);
        Due.is("told(8)", x.told(8), 500);
        Due.is("reef() of 500 bytes", x.reef(), 0);
        Due.is("feed(8) when THE TEXT is empty again", x.feed(8, 0x2020202020202020L), 8);
        Counted y = fedBlanks(61);
        Due.is("feed(4) at 488", y.feed(4, 0x20202020L), 492);
        Due.is("feed(8) at 492: just full", y.feed(8, 0x2020202020202020L), 500);
        Counted z = fedBlanks(61);
        Due.is("feed(5) at 488", z.feed(5, 0x2020202020L), 493);
        Due.is("feed(8) at 493", z.feed(8, 0x2020202020202020L), Due.FULL);
        Due.is("feed(6) at 493", z.feed(6, 0x202020202020L), 499);
        Due.is("feed(2) at 499", z.feed(2, 0x2020L), Due.FULL);
        Due.is("feed(1) at 499", z.feed(1, 32), 500);
        Due.sentence("Promise 2: a text of 500 bytes is read to its last one");
        Counted w = fedBlanks(61);
        Due.feed(w, "   boat 3 4;");
        Due.is("told(8)", w.told(8), 500);
        Due.is("reef()", w.reef(), 0);
        Due.tolds("of a text of 500 bytes", w, 0, 3, 4);
    }

    private static Counted fedBlanks(int eights) {
        Counted x = new Counted();
        for (int i = 0; i < eights; i++) {
            x.feed(8, 0x2020202020202020L);
        }
        return x;
    }

    // ---- section 1: what is untold

    private static void untold() {
        Due.sentence("boat: 20 50 untold; barrel: 500 untold; hens: 0 10 untold");
        Counted x = Due.of("light plain 41 0 0 1;");
        Due.tolds("untold", x, 1, 20, 50, 500);
        x.go(1);
        Due.is("told(13): fifty parts", x.told(13), 50);
        x.goal(0);
        x.go(2);
        Due.is("told(12): twenty miles a day", x.told(12), 40);
        x.go(197);
        Due.is("told(4): no eggs", x.told(4), 0);
        Due.is("told(15): no oil for eggs", x.told(15), 0);
        Due.sentence("night: 12 untold");
        Counted y = Due.of("light plain 1 10 999 1;");
        y.go(1);
        Due.is("light(0, 5): twelve hours", y.light(0, 5), 987);
        y.go(29);
        Due.is("light(0, 5): twelve hours each night", y.light(0, 5), 999 - 360);
        Due.sentence("odds: untold: as the SKY was");
        Counted z = Due.of("light gas 1 0 0 1;", "rough 1;fine 9;");
        Due.is("go(1) by a rough sky", z.go(1), 1);
        Due.is("drift(1): rough as it was", z.drift(1), 1);
        Due.is("drift(20): rough as it was", z.drift(20), 1);
        Due.is("light(0, 8)", z.light(0, 8), 22);
        Due.sentence("what a new reef leaves out is untold again, and stays so with the next ones");
        Counted again = Due.of(REEF);
        for (int time = 1; time <= 3; time++) {
            Due.is("reef() " + time, Due.reef(again, "light plain 1 10 99 1;"), 1);
            Due.tolds("untold again", again, 1, 20, 50, 500);
            Due.is("odds(0, 0)", again.odds(0, 0), 100);
            Due.is("odds(1, 2)", again.odds(1, 2), 0);
            again.go(2);
            Due.is("told(4)", again.told(4), 0);
            Due.is("told(15)", again.told(15), 0);
            Due.is("light(0, 5)", again.light(0, 5), 75);
        }
    }

    // ---- promise 3

    private static void reefOfNothing() {
        Due.sentence("Promise 3: how many LIGHTS: of an empty text none, and nothing is left of the reef ahead");
        Counted x = Due.of(REEF);
        Due.is("reef()", x.reef(), 0);
        Due.is("told(0)", x.told(0), 0);
        Due.is("light(0, 0)", x.light(0, 0), Due.UNKNOWN);
        Due.tolds("of the empty reef", x, 0, 20, 50, 500);
        Due.sentence("Promise 3: how many LIGHTS");
        for (int lights = 1; lights <= 9; lights++) {
            Due.is("reef() of " + lights, Due.reef(x, "light gas 1 1 1 1;".repeat(lights)), lights);
            Due.is("told(0)", x.told(0), lights);
        }
    }

    private static void reefStartsOver() {
        Due.sentence("Promise 3: DAY 0, all as at first; SAYINGS, BOOKS, IMAGES are gone");
        Counted x = Due.of(REEF, "rough 9;");
        x.pour(13);
        x.goal(2);
        x.wick(0, true);
        x.wick(2, true);
        x.go(5);
        x.keep(0);
        x.keep(1);
        x.say(1, true);
        x.write(0, 1);
        x.write(2, 1);
        Due.is("told(4) ahead of it", x.told(4) > 0 ? 1 : 0, 1);
        Due.is("told(6) ahead of it", x.told(6) > 0 ? 1 : 0, 1);
        Due.is("told(7) ahead of it", x.told(7) > 0 ? 1 : 0, 1);
        Due.is("told(12) ahead of it", x.told(12) > 0 ? 1 : 0, 1);
        Due.is("told(13) ahead of it", x.told(13) > 0 ? 1 : 0, 1);
        Due.is("reef() of the same text", Due.reef(x, REEF), 3);
        Due.tolds("behind the new reef", x, 3, 15, 40, 90, 0, 0, 0, 0, 0, 0, 9, 0, 0, 0, -1, 0);
        Due.lights("behind the new reef", x, 0, 5, 30, 0, 0, 0);
        Due.lights("behind the new reef", x, 2, 5, 7, 0, 0, 0);
        for (int l = 0; l < 3; l++) {
            Due.is("tear(" + l + ")", x.tear(l), 0);
        }
        Due.is("out(1, 0, 0): nothing is said", x.out(1, 0, 0), 3);
        Due.is("goBack(0)", x.goBack(0), Due.NOT);
        Due.is("goBack(1)", x.goBack(1), Due.NOT);
        Due.is("begin()", x.begin(), 0);
    }

    private static void reefKeepsSkiesAndSeed() {
        Due.sentence("Promise 3: SKIES, THE SEED stay");
        Counted x = Due.of(REEF, "rough 3;ice 2;");
        x.seed(2147483647);
        Due.reef(x, "light gas 1 1 1 1;");
        Due.is("told(10)", x.told(10), 5);
        Due.is("sky(2)", x.sky(2), 1);
        Due.is("sky(4)", x.sky(4), 2);
        Due.is("seed(5)", x.seed(5), 2147483647);
        Due.is("go(1): by the skies that stayed", x.go(1), 1);
        Due.sentence("Promise 3: DAY 0 again: the SKY ahead of it is fine");
        Counted y = Due.of("odds 100 0 0 0 100 0 0 0 100;light gas 1 0 0 1;", "rough 3;");
        y.go(2);
        Due.reef(y, "odds 100 0 0 0 100 0 0 0 100;light gas 1 0 0 1;");
        Due.is("drift(1): behind fine", y.drift(1), 0);
    }

    private static void reefOfFewerLights() {
        Due.sentence("Promise 3: a LIGHT of the reef ahead that there is no more is UNKNOWN; one that comes back has nothing of it");
        Counted x = Due.of(REEF);
        x.wick(2, true);
        x.write(2, 5);
        Due.reef(x, "light plain 1 1 1 1;");
        Due.is("light(1, 0)", x.light(1, 0), Due.UNKNOWN);
        Due.is("goal(1)", x.goal(1), Due.UNKNOWN);
        Due.is("say(2, true)", x.say(2, true), Due.UNKNOWN);
        Due.is("write(2, 0)", x.write(2, 0), Due.UNKNOWN);
        Due.is("out(1, 0, 2)", x.out(1, 0, 2), 1);
        Due.reef(x, REEF);
        Due.is("light(2, 6)", x.light(2, 6), 0);
        Due.is("tear(2)", x.tear(2), 0);
    }

    private static void reefOfNothingAhead() {
        Due.sentence("Promise 3: LIGHTS of a reef ahead are not burnt, dark, given up, reached or out, however many there were");
        Counted x = Due.of("light plain 3 99 0 99;".repeat(9));
        x.go(1);
        for (int lights = 3; lights >= 0; lights--) {
            for (int time = 1; time <= 2; time++) {
                Due.is("reef() of " + lights, Due.reef(x, "boat 3 9;night 10;" + "light plain 6 10 15 1;".repeat(lights)), lights);
                int all = (1 << lights) - 1;
                Due.is("go(1)", x.go(1), 0);
                Due.is("told(11)", x.told(11), 10 * lights);
                Due.is("round(1, 0): all but none are dark", x.round(1, 0), lights);
                Due.is("darken of enough", x.darken(10 * lights, 1), 0);
                Due.is("darken(0, 1)", x.darken(0, 1), all);
                Due.is("go(1)", x.go(1), all);
                Due.is("told(6)", x.told(6), lights);
                Due.is("told(11)", x.told(11), 15 * lights);
                Due.is("out(1, 0, 2)", x.out(1, 0, 2), lights == 0 ? -1 : all);
                Due.is("told(7)", x.told(7), 0);
            }
        }
    }

    private static Counted lived() {
        Counted x = Due.of(REEF, "rough 3;ice 2;");
        x.seed(77);
        x.goal(1);
        x.wick(0, true);
        x.drift(4);
        x.keep(1);
        x.go(1);
        x.say(3, true);
        x.write(0, 20);
        return x;
    }

    private static void reefWithFault() {
        Due.sentence("Promise 3: -10 less the number of its FAULT (all is as it was); THE TEXT is empty then");
        String[] texts = {"boat 1 1;barrel 2;hens 5 5;night 3;odds 0 0 100 0 0 100 0 0 100;light gas 9 9 9 9;x", "light gas 9 9 9 9;boat 0 1;",
            "light gas 9 9 9 9;boat 1 1;boat 1 1;", "light gas 9 9 9 9;odds 0 0 0"};
        for (int number = 1; number <= 4; number++) {
            Counted x = lived();
            Due.is("reef() with the FAULT " + number, Due.reef(x, texts[number - 1]), -10 - number);
            Due.is("told(8)", x.told(8), 0);
            Due.same("all behind the FAULT " + number, butTheFault(Due.all(x)), butTheFault(Due.all(lived())));
        }
    }

    private static String butTheFault(String seen) {
        return seen.replaceAll("fault -?\\d+", "");
    }

    // ---- promise 4

    private static void skiesFromDayZero() {
        Due.sentence("SKIES: DAYS, one behind the other, from DAY 0 on; fine behind them");
        Counted x = new Counted();
        Due.is("skies()", Due.skies(x, "rough 1;ice 2;fine 1;rough 99;ice 1;"), 104);
        int[][] due = {{0, 1}, {1, 2}, {2, 2}, {3, 0}, {4, 1}, {102, 1}, {103, 2}, {104, 0}, {105, 0}, {9999, 0}};
        for (int[] day : due) {
            Due.is("sky(" + day[0] + ")", x.sky(day[0]), day[1]);
        }
        Due.is("told(10)", x.told(10), 104);
        Due.sentence("SKIES: 30 clauses of 99 DAYS");
        Due.is("skies()", Due.skies(x, "fine99;ice99;".repeat(15)), 2970);
        Due.is("sky(98)", x.sky(98), 0);
        Due.is("sky(99)", x.sky(99), 2);
        Due.is("sky(2969)", x.sky(2969), 2);
        Due.is("sky(2970)", x.sky(2970), 0);
        Due.sentence("Promise 4: THE TEXT becomes SKIES: of the ones ahead nothing is left");
        for (int time = 1; time <= 3; time++) {
            Due.is("skies() " + time, Due.skies(x, "rough 1;"), 1);
            Due.is("sky(0)", x.sky(0), 1);
            Due.is("sky(1)", x.sky(1), 0);
            Due.is("sky(99)", x.sky(99), 0);
        }
    }

    private static void skiesOfNothing() {
        Due.sentence("Promise 4: how many DAYS they tell: of an empty text none");
        Counted x = new Counted();
        Due.skies(x, "ice 5;");
        Due.is("skies() of nothing", x.skies(), 0);
        Due.is("told(10)", x.told(10), 0);
        Due.is("sky(0)", x.sky(0), 0);
        Due.is("fault()", x.fault(), -1);
    }

    private static void skiesAtTwoHundredBytes() {
        Due.sentence("Promise 4: NOT: more than 200 bytes (THE TEXT stays)");
        Counted x = new Counted();
        Due.is("skies() of 200 bytes", Due.skies(x, "ice 9;" + " ".repeat(194)), 9);
        Due.is("told(8)", x.told(8), 0);
        Due.feed(x, "light gas 1 2 3 4;" + " ".repeat(183));
        Due.is("skies() of 201 bytes", x.skies(), Due.NOT);
        Due.is("told(8)", x.told(8), 201);
        Due.is("told(10)", x.told(10), 9);
        Due.is("skies() again", x.skies(), Due.NOT);
        Due.is("feed(1) behind it", x.feed(1, 32), 202);
        Due.is("reef() of THE TEXT that stayed", x.reef(), 1);
        Due.lights("of THE TEXT that stayed", x, 0, 1, 1, 2, 3, 4);
    }

    private static void skiesLeaveTheRest() {
        Due.sentence("Promise 4: THE TEXT becomes SKIES, and nothing else is changed");
        Counted x = lived();
        String before = Due.days(x);
        Due.is("skies()", Due.skies(x, "fine 9;"), 9);
        Due.same("days behind skies()", Due.days(x), before);
        Due.is("told(9)", x.told(9), 1);
        Due.is("goBack(1)", x.goBack(1), 1);
        Due.is("tear(0)", x.tear(0), 1);
        Due.is("told(0)", x.told(0), 3);
        Due.sentence("Promise 4: the new SKIES are for the DAYS that come");
        Counted y = Due.of("light gas 1 0 0 1;", "fine 9;");
        y.go(2);
        Due.skies(y, "rough 3;");
        Due.is("go(1) on DAY 2", y.go(1), 1);
        Due.is("go(1) on DAY 3", y.go(1), 0);
        Due.is("told(6): twice once", y.told(6), 2);
    }

    private static void skiesWithFault() {
        Due.sentence("Promise 4: -10 less the number of its FAULT (they are as they were); THE TEXT is empty then");
        String[] texts = {"ice 9;ice x", "ice 9;ice 0;", "ice 1;".repeat(30) + "ice 1;"};
        for (int number = 1; number <= 3; number++) {
            Counted x = lived();
            Due.is("skies() with the FAULT " + number, Due.skies(x, texts[number - 1]), -10 - number);
            Due.is("told(8)", x.told(8), 0);
            Due.same("all behind the FAULT " + number, butTheFault(Due.all(x)), butTheFault(Due.all(lived())));
        }
    }

    private static void nothingOfTheTextAhead() {
        Due.sentence("Promises 3, 4: THE TEXT (it is empty then): a shorter one has nothing of the longer one ahead of it");
        Counted x = new Counted();
        Due.is("reef()", Due.reef(x, "boat 1 1;barrel 7;"), 0);
        Due.is("reef() of half of it", Due.reef(x, "boat 1 1"), -11);
        Due.is("fault()", x.fault(), 8);
        Due.is("reef() of less of it", Due.reef(x, "boat 1"), -11);
        Due.is("fault()", x.fault(), 6);
        Due.is("reef() of a half word", Due.reef(x, "boa"), -11);
        Due.is("fault()", x.fault(), 0);
        Due.is("reef() of its first clause", Due.reef(x, "boat 1 1;"), 0);
        Due.is("told(3)", x.told(3), 500);
        Due.is("skies()", Due.skies(x, "ice 12;rough 7;"), 19);
        Due.is("skies() of less of it", Due.skies(x, "ice 12"), -11);
        Due.is("fault()", x.fault(), 6);
        Due.is("skies() of still less of it", Due.skies(x, "ice 1"), -11);
        Due.is("fault()", x.fault(), 5);
        Due.is("skies() of its first clause", Due.skies(x, "ice 12;"), 12);
    }

    // ---- promise 5

    private static void faultOfTheLatest() {
        Due.sentence("Promise 5: the byte of the FAULT of the latest reef() or skies() that was not NOT; NONE");
        Counted x = new Counted();
        Due.is("fault() of a new object", x.fault(), -1);
        Due.reef(x, "boat");
        Due.is("fault() of a reef", x.fault(), 4);
        Due.skies(x, "ice 1;");
        Due.is("fault() of good skies behind it", x.fault(), -1);
        Due.skies(x, "ice 0;");
        Due.is("fault() of skies", x.fault(), 4);
        Due.reef(x, "boat 1 1;");
        Due.is("fault() of a good reef behind it", x.fault(), -1);
        Due.reef(x, "x");
        Due.is("fault() at the first byte", x.fault(), 0);
        Due.skies(x, "ice 1;ice");
        Due.is("fault() of two on end is that of the latest", x.fault(), 9);
        Due.feed(x, " ".repeat(201));
        Due.is("skies()", x.skies(), Due.NOT);
        Due.is("fault() behind NOT", x.fault(), 9);
        x.feed(9, 1);
        x.begin();
        x.go(1);
        x.keep(0);
        x.goBack(0);
        Due.is("fault() behind other calls", x.fault(), 9);
        Due.is("reef() of blanks", x.reef(), 0);
        Due.is("fault()", x.fault(), -1);
        Due.feed(x, " ".repeat(201));
        x.skies();
        Due.is("fault() behind NOT, when it was NONE", x.fault(), -1);
    }

    // ---- promises 6 to 9

    private static void tellingAll() {
        Due.sentence("Promise 6: told(0) to told(15)");
        Counted x = Due.of(REEF, "fine 1;rough 1;fine 5;");
        x.pour(25);
        x.goal(1);
        x.wick(0, true);
        x.say(1, true);
        x.say(2, true);
        Due.feed(x, "abc");
        x.go(2);
        // eggs 7 and 7: 2 parts and 1 egg, then 2 parts and 2 eggs; oil: 5, then a leaky one: 8, 1; 25 of THE BOAT, filled by 9
        Due.tolds("of a reef that is lived in", x, 3, 15, 40, 69, 2, 2, 8, 0, 3, 2, 7, 5 + 8 + 1 + 10 + 8 + 1, 5, 16, 1, 4);
        Due.lights("behind two days", x, 0, 5, 15, 1, 0, 0);
        Due.lights("behind two days", x, 1, 5, 16, 0, 0, 0);
        Due.lights("behind two days", x, 2, 5, 7, 0, 1, 1);
    }

    private static void lightsFirstAndLast() {
        Due.sentence("Promise 7: of a LIGHT: the first and the last of nine");
        StringBuilder nine = new StringBuilder();
        String[] kinds = {"plain", "double", "leaky", "floating", "gas"};
        for (int l = 0; l < 9; l++) {
            nine.append("light ").append(kinds[l % 5]).append(' ').append(10 + l).append(' ').append(20 + l).append(' ').append(300 + l).append(' ').append(40 + l).append(';');
        }
        Counted x = Due.of(nine.toString());
        for (int l = 0; l < 9; l++) {
            Due.lights("of nine", x, l, 0, l % 5, 10 + l, 20 + l, 300 + l, 40 + l, 300 + l, 0, 0, 0);
        }
        Due.is("light(9, 0)", x.light(9, 0), Due.UNKNOWN);
        Due.is("wick(8, true)", x.wick(8, true), 0);
        Due.is("light(8, 6)", x.light(8, 6), 1);
        Due.is("goal(8)", x.goal(8), -1);
        Due.is("told(14)", x.told(14), 8);
    }

    private static void skyFirstAndLast() {
        Due.sentence("Promise 8: SKY of a DAY as told (0 .. 9999)");
        Counted x = Due.of("odds 0 0 100 0 0 100 0 0 100;", "rough 1;");
        Due.is("sky(0)", x.sky(0), 1);
        Due.is("sky(1)", x.sky(1), 0);
        Due.is("sky(9998)", x.sky(9998), 0);
        Due.is("sky(9999)", x.sky(9999), 0);
        x.drift(3);
        Due.is("sky(0): as told, not as drawn", x.sky(0), 1);
        Due.is("sky(1): as told, not as drawn", x.sky(1), 0);
    }

    private static void oddsOfAll() {
        Due.sentence("Promise 9: odds of a hundred of SKY j behind SKY i");
        Counted x = Due.of("odds 1 2 97 3 4 93 5 6 89;");
        int[] due = {1, 2, 97, 3, 4, 93, 5, 6, 89};
        for (int i = 0; i < 9; i++) {
            Due.is("odds(" + i / 3 + ", " + i % 3 + ")", x.odds(i / 3, i % 3), due[i]);
        }
    }
}
