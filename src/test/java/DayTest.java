/** Promises 10 to 15: goal, wick, go, drift, pour, begin; and section 2 of the document, a day. */
public final class DayTest {
    private static final String TWO = "boat 15 40;barrel 90;hens 7 3;light plain 31 10 30 5;light plain 12 10 50 3;";

    public static void main(String[] args) {
        goals();
        wicks();
        hens();
        sailing();
        harbourAndLights();
        needs();
        leaks();
        darkness();
        nightsByLength();
        none();
        going();
        drifting();
        driftBehindWhatWas();
        pouring();
        beginning();
        Due.end("DayTest");
    }

    private static void goals() {
        Counted x = Due.of(TWO);
        Due.is("goal(1)", x.goal(1), -1);
        Due.is("goal(0)", x.goal(0), 1);
        Due.is("told(14)", x.told(14), 0);
        for (int l : new int[] {-2, 2, Integer.MIN_VALUE, Integer.MAX_VALUE}) {
            Due.is("goal(" + l + ")", x.goal(l), Due.UNKNOWN);
        }
        Due.is("goal(NONE)", x.goal(-1), 0);
        Due.is("told(14)", x.told(14), -1);
        Counted empty = new Counted();
        Due.is("goal(0) without lights", empty.goal(0), Due.UNKNOWN);
        Due.is("goal(NONE) without lights", empty.goal(-1), -1);
    }

    private static void wicks() {
        Counted x = Due.of("night 11;light plain 1 10 500 1;light double 1 5 500 1;light leaky 1 10 500 1;", "fine 1;rough 1;ice 1;");
        for (int l = 0; l < 3; l++) {
            Due.is("wick(" + l + ", true)", x.wick(l, true), 0);
            Due.is("wick(" + l + ", true) again", x.wick(l, true), 1);
            Due.is("light(" + l + ", 6)", x.light(l, 6), 1);
        }
        for (int l : new int[] {-1, 3, Integer.MIN_VALUE, Integer.MAX_VALUE}) {
            Due.is("wick(" + l + ", false)", x.wick(l, false), Due.UNKNOWN);
        }
        // by a fine sky: 11 / 2 cut; twice 55 / 10 cut, halved; 5, then a tenth of 495
        x.go(1);
        Due.is("light(0, 5) fine", x.light(0, 5), 495);
        Due.is("light(1, 5) fine", x.light(1, 5), 495);
        Due.is("light(2, 5) fine", x.light(2, 5), 446);
        // by the others a halved wick burns as a whole one
        x.go(1);
        Due.is("light(0, 5) rough", x.light(0, 5), 484);
        Due.is("light(1, 5) rough", x.light(1, 5), 485);
        x.go(1);
        Due.is("light(0, 5) ice", x.light(0, 5), 473);
        Due.is("light(1, 5) ice", x.light(1, 5), 475);
        Due.is("wick(0, false)", x.wick(0, false), 1);
        Due.is("light(0, 6)", x.light(0, 6), 0);
        Due.is("light(1, 6)", x.light(1, 6), 1);
        x.go(1);
        Due.is("light(0, 5) whole again", x.light(0, 5), 462);
    }

    private static void hens() {
        Counted x = Due.of("boat 1 1;barrel 10;hens 7 3;light plain 50 0 0 0;");
        x.goal(0);
        int[][] due = {{12, 1, 2}, {14, 2, 4}, {17, 0, 7}, {19, 1, 9}};
        for (int[] day : due) {
            x.go(1);
            Due.is("told(3)", x.told(3), day[0]);
            Due.is("told(4)", x.told(4), day[1]);
            Due.is("told(15)", x.told(15), day[2]);
        }
        Counted few = Due.of("hens 4 9;");
        few.go(2);
        Due.is("told(4) below E", few.told(4), 8);
        Due.is("told(15) below E", few.told(15), 0);
        few.go(1);
        Due.is("told(4) beyond E", few.told(4), 3);
        Due.is("told(15) beyond E", few.told(15), 1);
    }

    private static void sailing() {
        Counted x = Due.of(TWO, "fine 1;rough 1;ice 1;rough 1;fine 3;rough 1;");
        x.goal(0);
        int[] out = {15, 22, 22, 29, 31, 31};
        for (int day = 0; day < out.length; day++) {
            x.go(1);
            Due.is("told(12) behind day " + day, x.told(12), out[day]);
        }
        x.goal(1);
        x.go(1);
        Due.is("told(12) on the way back", x.told(12), 16);
        x.go(1);
        Due.is("told(12) not beyond its goal", x.told(12), 12);
        x.goal(-1);
        x.go(1);
        Due.is("told(12) home", x.told(12), 0);
        Counted slow = Due.of("boat 1 1;light plain 9 0 0 0;", "rough 3;");
        slow.goal(0);
        slow.go(3);
        Due.is("told(12): half of one mile is none", slow.told(12), 0);
    }

    private static void harbourAndLights() {
        Counted x = Due.of("boat 15 40;barrel 50;light plain 12 10 30 5;light plain 0 10 100 3;", "ice 1;");
        x.go(1);
        Due.is("told(13): it takes oil at the harbour by ice too", x.told(13), 40);
        Due.is("told(3)", x.told(3), 10);
        x.go(1);
        Due.is("told(13): it is full", x.told(13), 40);
        Due.is("light(0, 5)", x.light(0, 5), 6);
        x.goal(0);
        x.go(1);
        // filled from 6 to 30 ahead of the night
        Due.is("told(13) behind filling", x.told(13), 16);
        Due.is("light(0, 5) behind filling and the night", x.light(0, 5), 18);
        x.go(1);
        Due.is("told(13) filled day by day", x.told(13), 4);
        x.go(1);
        Due.is("told(13) as far as it has", x.told(13), 0);
        Due.is("light(0, 5) as far as it has", x.light(0, 5), 10);
        // a light at the harbour is filled while it is the goal, and the barrel is left alone
        x.goal(1);
        Due.is("light(1, 5)", x.light(1, 5), 40);
        x.go(1);
        Due.is("told(12)", x.told(12), 0);
        Due.is("told(3) with a light at the harbour as goal", x.told(3), 10);
        x.pour(7);
        x.go(1);
        Due.is("light(1, 5) filled with 7", x.light(1, 5), 23);
        Due.is("told(13)", x.told(13), 0);
        x.goal(-1);
        x.go(1);
        Due.is("told(13): what is left in the barrel", x.told(13), 3);
        Due.is("told(3)", x.told(3), 0);
    }

    private static void needs() {
        // 7 times 13 / 10 is 9, twice that 18; gas and floating ones as they are told
        Counted x = Due.of("night 13;light plain 9 7 100 1;light double 9 7 100 2;light floating 9 7 100 4;light gas 9 99 50 8;",
            "fine 1;rough 1;ice 1;");
        Due.is("go(1) fine", x.go(1), 0);
        oils(x, 91, 82, 91, 50);
        Due.is("go(1) rough: the gas one is dark", x.go(1), 8);
        oils(x, 82, 64, 82, 50);
        Due.is("told(6): twice 8", x.told(6), 16);
        Due.is("go(1) ice: the floating one is dark and needs nothing", x.go(1), 4);
        oils(x, 73, 46, 82, 50);
        Due.is("told(6)", x.told(6), 20);
        Due.is("told(11)", x.told(11), 9 * 3 + 18 * 3 + 9 * 2);
        Due.is("told(7)", x.told(7), 0);
    }

    private static void oils(Counted x, int... due) {
        for (int l = 0; l < due.length; l++) {
            Due.is("light(" + l + ", 5) on day " + x.told(5), x.light(l, 5), due[l]);
        }
    }

    private static void leaks() {
        Counted x = Due.of("night 10;light leaky 9 10 62 1;light leaky 9 0 3 1;light leaky 9 20 15 1;");
        // 62 - 10 = 52, 5 lost; 3, 1 lost; less than it needs: all burnt, nothing left to lose
        x.go(1);
        oils(x, 47, 2, 0);
        Due.is("light(2, 7)", x.light(2, 7), 1);
        Due.is("told(11)", x.told(11), 15 + 1 + 15);
        // 37, 3 lost; 2, 1 lost
        x.go(1);
        oils(x, 34, 1, 0);
        // 24, 2 lost; 1, 1 lost; 22 - 10 = 12, 1 lost; 11 - 10 = 1, 1 lost
        x.go(1);
        oils(x, 22, 0, 0);
        x.go(1);
        oils(x, 11, 0, 0);
        Due.is("go(1): what is left leaks, none is dark but the third", x.go(1), 4);
        oils(x, 0, 0, 0);
        Due.is("light(1, 8): it needs nothing", x.light(1, 8), 0);
        Due.is("go(1)", x.go(1), 5);
        Due.is("told(11): all that there was", x.told(11), 62 + 3 + 15);
    }

    private static void darkness() {
        Counted x = Due.of("boat 10 99;night 10;light plain 10 10 25 7;light gas 10 0 0 9;", "fine 3;rough 1;ice 1;rough 2;fine 2;");
        Due.is("go(2)", x.go(2), 0);
        x.goal(-1);
        // 5 left of what is needed: burnt, and dark
        Due.is("go(1)", x.go(1), 1);
        dark(x, 7, 0, 1, 1);
        Due.is("light(0, 5)", x.light(0, 5), 0);
        // the second night on end is a breach, a rough one harms twice
        Due.is("go(1) rough", x.go(1), 3);
        dark(x, 7 + 14 + 18, 1, 2, 2);
        Due.is("light(1, 7)", x.light(1, 7), 1);
        Due.is("go(1) ice", x.go(1), 1);
        dark(x, 39 + 7, 2, 3, 3);
        Due.is("light(1, 7) not on end", x.light(1, 7), 0);
        Due.is("light(1, 8) in all", x.light(1, 8), 1);
        Due.is("go(2) rough: the last night's set", x.go(2), 3);
        dark(x, 46 + 2 * (14 + 18), 5, 5, 5);
        Due.is("light(1, 7)", x.light(1, 7), 2);
        Due.is("light(1, 8)", x.light(1, 8), 3);
        x.goal(0);
        Due.is("go(1): filled again", x.go(1), 0);
        dark(x, 110, 5, 0, 5);
        Due.is("told(5)", x.told(5), 8);
    }

    private static void dark(Counted x, int harm, int breaches, int onEnd, int inAll) {
        String day = " on day " + x.told(5);
        Due.is("told(6)" + day, x.told(6), harm);
        Due.is("told(7)" + day, x.told(7), breaches);
        Due.is("light(0, 7)" + day, x.light(0, 7), onEnd);
        Due.is("light(0, 8)" + day, x.light(0, 8), inAll);
    }

    private static void nightsByLength() {
        Counted x = Due.of("night 10,14,24;light plain 9 10 999 1;");
        int[] due = {10, 14, 24, 10, 14};
        for (int ten = 0; ten < due.length; ten++) {
            for (int day = 0; day < 10; day++) {
                int before = x.light(0, 5);
                x.go(1);
                Due.is("burnt on day " + (ten * 10 + day), before - x.light(0, 5), due[ten]);
            }
        }
    }

    /** No oil is lost: what there was and what was bought is in barrel, boat, lights, or burnt. */
    private static void none() {
        Counted x = Due.of("boat 15 40;barrel 90;hens 7 3;night 10,14;odds 60 30 10 20 50 30 10 20 70;light plain 12 10 30 5;"
            + "light double 30 6 40 9;light leaky 5 8 25 3;light floating 20 5 20 7;light gas 44 0 0 4;", "fine 2;rough 3;ice 4;");
        for (int i = 0; i < 40; i++) {
            x.goal(i % 6 - 1);
            if (i % 2 == 0) {
                x.go(1 + i % 5);
            } else {
                x.drift(1 + i % 3);
            }
            x.pour(i);
            long all = x.told(3) + x.told(13) + x.told(11);
            for (int l = 0; l < 5; l++) {
                all += x.light(l, 5);
            }
            Due.is("oil in all less what was bought", all - x.told(15), 90 + 30 + 40 + 25 + 20);
        }
    }

    private static void going() {
        Counted x = Due.of(TWO);
        for (int n : new int[] {0, 201, -1, Integer.MIN_VALUE, Integer.MAX_VALUE}) {
            Due.is("go(" + n + ")", x.go(n), Due.OUTSIDE);
            Due.is("drift(" + n + ")", x.drift(n), Due.OUTSIDE);
        }
        Due.is("go(200)", x.go(200), 3);
        Due.is("told(5)", x.told(5), 200);
        Counted drifting = Due.of(TWO);
        Due.is("drift(200)", drifting.drift(200), 3);
        Due.is("told(5)", drifting.told(5), 200);
        Due.is("go(1)", x.go(1), 3);
        Due.is("told(5)", x.told(5), 201);
        // many days at once are like one by one
        Counted a = Due.of(TWO, "fine 2;rough 3;ice 2;");
        Counted b = Due.of(TWO, "fine 2;rough 3;ice 2;");
        a.goal(0);
        b.goal(0);
        a.go(20);
        for (int i = 0; i < 20; i++) {
            b.go(1);
        }
        Due.same("twenty days at once", Due.days(a), Due.days(b));
    }

    /** The sky of a day by its marks: a rough one darkens the gas one, ice the floating one. */
    private static int driftedSky(Counted x) {
        int dark = x.drift(1);
        return dark == 1 ? 1 : dark == 2 ? 2 : 0;
    }

    private static final String MARKS = "light gas 1 0 0 1;light floating 1 0 0 1;";

    private static void drifting() {
        int[] odds = {60, 30, 10, 20, 50, 30, 10, 20, 70};
        Counted x = Due.of("odds 60 30 10 20 50 30 10 20 70;" + MARKS, "ice 50;");
        x.seed(2026);
        long seed = 2026;
        int sky = 0;
        for (int day = 0; day < 440; day++) {
            seed = (seed * 1103515245L + 12345L) % 2147483648L;
            long drawn = seed / 65536 % 100;
            sky = drawn < odds[3 * sky] ? 0 : drawn < odds[3 * sky] + odds[3 * sky + 1] ? 1 : 2;
            Due.is("sky drawn for day " + day, driftedSky(x), sky);
        }
        Due.is("seed(0) behind 440 draws", x.seed(0), seed);
        Due.is("told(5)", x.told(5), 440);
        // the first draw from seed 0: 12345, below 65536, so 0
        Counted first = Due.of("odds 1 99 0 0 0 100 0 0 100;" + MARKS);
        Due.is("drift(1): 0 is below 1", driftedSky(first), 0);
        Due.is("seed(0)", first.seed(0), 12345);
        Counted next = Due.of("odds 0 1 99 0 0 100 0 0 100;" + MARKS);
        Due.is("drift(1): 0 is not below 0, but below 1", driftedSky(next), 1);
        // days at once are like one by one, and go(n) draws nothing
        Counted a = Due.of("odds 60 30 10 20 50 30 10 20 70;" + TWO);
        Counted b = Due.of("odds 60 30 10 20 50 30 10 20 70;" + TWO);
        a.drift(30);
        for (int i = 0; i < 30; i++) {
            b.drift(1);
        }
        Due.same("thirty days at once", Due.days(a), Due.days(b));
        int before = a.seed(5);
        a.seed(before);
        a.go(3);
        Due.is("seed(0) behind go(3)", a.seed(0), before);
        // odds untold: as the sky was, from fine on
        Counted still = Due.of(MARKS, "ice 50;");
        for (int i = 0; i < 20; i++) {
            Due.is("drift(1) by odds untold", still.drift(1), 0);
        }
    }

    private static void driftBehindWhatWas() {
        // behind rough comes ice, behind ice fine, behind fine rough
        String turning = "odds 0 100 0 0 0 100 100 0 0;" + MARKS;
        Counted x = Due.of(turning, "rough 9;");
        Due.is("day 0 behind fine", driftedSky(x), 1);
        Due.is("day 1 behind rough that was drawn", driftedSky(x), 2);
        Due.is("day 2 behind ice that was drawn, whatever is told", driftedSky(x), 0);
        x.go(1);
        Due.is("day 4 behind rough as told", driftedSky(x), 2);
        x.begin();
        Due.is("day 0 again", driftedSky(x), 1);
        x.keep(0);
        x.drift(1);
        x.goBack(0);
        Due.is("day 1 from the image", driftedSky(x), 2);
    }

    private static void pouring() {
        Counted x = Due.of("boat 15 40;barrel 55;light plain 12 10 30 5;light plain 0 1 1 1;");
        for (int n : new int[] {-1, 1000, Integer.MIN_VALUE, Integer.MAX_VALUE}) {
            Due.is("pour(" + n + ")", x.pour(n), Due.OUTSIDE);
        }
        Due.is("pour(0)", x.pour(0), 0);
        Due.is("pour(20)", x.pour(20), 20);
        Due.is("told(13)", x.told(13), 20);
        Due.is("told(3)", x.told(3), 35);
        Due.is("pour(999): as it holds", x.pour(999), 20);
        Due.is("pour(1): it is full", x.pour(1), 0);
        x.goal(0);
        Due.is("pour(5) with a goal, still at the harbour", x.pour(5), 0);
        x.go(1);
        Due.is("pour(5) at sea", x.pour(5), Due.NOT);
        Due.is("pour(1000) at sea", x.pour(1000), Due.OUTSIDE);
        x.go(2);
        x.goal(1);
        x.go(1);
        // 40 less 12 and 12 for the one light, 1 for the other
        Due.is("told(13)", x.told(13), 15);
        Due.is("pour(999): as much as there is", x.pour(999), 15);
        Due.is("told(3)", x.told(3), 0);
        Due.is("told(5): no day goes by", x.told(5), 4);
    }

    private static void beginning() {
        Counted x = Due.of("odds 60 30 10 20 50 30 10 20 70;" + TWO, "rough 3;ice 2;");
        String first = Due.days(x);
        Due.is("begin() on day 0", x.begin(), 0);
        Due.same("begin() on day 0", Due.days(x), first);
        x.goal(0);
        x.wick(0, true);
        x.keep(0);
        x.pour(20);
        x.go(4);
        Due.is("told(4) ahead of begin()", x.told(4), 1);
        Due.is("told(13) ahead of begin()", x.told(13) > 0 ? 1 : 0, 1);
        x.say(1, true);
        x.write(1, 38);
        x.seed(99);
        Due.feed(x, "ab");
        Due.is("begin()", x.begin(), 4);
        long[] due = {2, 15, 40, 90, 0, 0, 0, 0, 2, 1, 5, 0, 0, 0, -1, 0};
        for (int what = 0; what < due.length; what++) {
            Due.is("told(" + what + ") behind begin()", x.told(what), due[what]);
        }
        for (int l = 0; l < 2; l++) {
            Due.is("light(" + l + ", 5)", x.light(l, 5), l == 0 ? 30 : 50);
            for (int what = 6; what <= 8; what++) {
                Due.is("light(" + l + ", " + what + ")", x.light(l, what), 0);
            }
        }
        Due.is("judge(1): no day is over", x.judge(1), -1);
        Due.is("tear(1): the book stays", x.tear(1), 1);
        Due.is("goBack(0): the image stays", x.goBack(0), 1);
        Due.is("told(14)", x.told(14), 0);
        x.begin();
        Due.is("begin() at once", x.begin(), 0);
        x.seed(99);
        x.begin();
        Due.is("seed(0): the seed stays", x.seed(0), 99);
        x.forget();
        x.skies();
        Due.is("fault()", x.fault(), 0);
        Due.is("sky(2): the skies stay", x.sky(2), 1);
    }
}
