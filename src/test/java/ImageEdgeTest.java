/** Promises 28 to 30, the seed and the images, at their edges. */
public final class ImageEdgeTest {
    private static final String REEF = "boat 15 40;barrel 90;hens 7 3;night 10,14;odds 60 30 10 20 50 30 10 20 70;"
        + "light plain 12 10 30 5;light leaky 5 8 25 3;light gas 44 0 7 4;";

    public static void main(String[] args) {
        seeds();
        seedStays();
        keepAndGoBack();
        everythingKept();
        skyDrawnLast();
        whatWasEachDay();
        twoImages();
        keptAnew();
        imagesAreApart();
        notKept();
        notInImages();
        imagesStay();
        Due.end("ImageEdgeTest");
    }

    private static void seeds() {
        Due.sentence("Promise 28: THE SEED becomes v (0 .. 2147483647): what it was");
        Counted x = new Counted();
        Due.is("seed(2147483647)", x.seed(2147483647), 0);
        Due.is("seed(0)", x.seed(0), 2147483647);
        Due.is("seed(1)", x.seed(1), 0);
        Due.is("seed(2147483646)", x.seed(2147483646), 1);
        Due.is("seed(-1)", x.seed(-1), Due.OUTSIDE);
        Due.is("seed(least)", x.seed(Due.FAR_BELOW), Due.OUTSIDE);
        Due.is("seed(5)", x.seed(5), 2147483646);
        x.drift(1);
        Due.is("seed(5): what the DRAW made of it", x.seed(5), (5L * 1103515245L + 12345L) % 2147483648L);
        Due.sentence("Promise 28: the same SEED, the same winter");
        Counted a = Due.of(REEF);
        Counted b = Due.of(REEF);
        b.drift(9);
        b.begin();
        a.seed(424242);
        b.seed(424242);
        Due.is("drift(90)", a.drift(90), b.drift(90));
        Due.same("ninety days", Due.days(a), Due.days(b));
    }

    private static void seedStays() {
        Due.sentence("Promises 3, 4, 15: THE SEED stays behind reef(), skies(), begin()");
        Counted x = Due.of(REEF);
        x.seed(17);
        Due.reef(x, REEF);
        Due.is("seed(17) behind reef()", x.seed(17), 17);
        Due.skies(x, "ice 1;");
        Due.is("seed(17) behind skies()", x.seed(17), 17);
        x.go(3);
        x.begin();
        Due.is("seed(17) behind go(3) and begin()", x.seed(17), 17);
        Due.reef(x, "x");
        Due.is("seed(17) behind a FAULT", x.seed(17), 17);
    }

    private static void keepAndGoBack() {
        Due.sentence("Promises 29, 30: IMAGE i becomes what is so: 1; what is so becomes IMAGE i: 1");
        for (int i = 0; i < 2; i++) {
            Counted x = Due.of(REEF);
            x.go(3);
            String before = Due.days(x);
            Due.is("keep(" + i + ")", x.keep(i), 1);
            Due.same("keep(" + i + ") changes nothing", Due.days(x), before);
            x.go(4);
            Due.is("goBack(" + i + ")", x.goBack(i), 1);
            Due.same("what is so behind goBack(" + i + ")", Due.days(x), before);
            Due.is("goBack(" + i + ") at once again", x.goBack(i), 1);
            Due.same("what is so behind goBack(" + i + ") again", Due.days(x), before);
        }
        Due.sentence("IMAGES of a new object");
        Counted x = new Counted();
        Due.is("keep(0)", x.keep(0), 1);
        x.go(5);
        x.pour(3);
        Due.is("goBack(0)", x.goBack(0), 1);
        Due.tolds("behind goBack(0)", x, 0, 20, 50, 500, 0, 0, 0, 0, 0, 0, 0, 0, 0, 0, -1, 0);
    }

    private static void everythingKept() {
        Due.sentence("IMAGES keep oil, eggs, boat, wicks, GOAL, DARK nights, BREACHES, HARM, THE DAY, THE SEED");
        Counted x = Due.of(REEF, "rough 4;ice 4;fine 1;rough 9;");
        x.seed(31);
        x.pour(40);
        x.goal(1);
        x.wick(1, true);
        x.go(2);
        long[] told = new long[16];
        for (int what = 0; what < 16; what++) {
            told[what] = x.told(what);
        }
        int[][] lights = new int[3][9];
        for (int l = 0; l < 3; l++) {
            for (int what = 0; what < 9; what++) {
                lights[l][what] = x.light(l, what);
            }
        }
        x.keep(0);
        x.go(3);
        x.goal(2);
        x.wick(1, false);
        x.wick(0, true);
        x.go(6);
        x.drift(5);
        x.seed(32);
        for (int what : new int[] {3, 4, 5, 6, 7, 11, 12, 13, 14, 15}) {
            Due.is("told(" + what + ") has become another", x.told(what) != told[what] ? 1 : 0, 1);
        }
        for (int what : new int[] {5, 6, 8}) {
            Due.is("light(0, " + what + ") has become another", x.light(0, what) != lights[0][what] ? 1 : 0, 1);
        }
        Due.is("light(2, 7) has become another", x.light(2, 7) != lights[2][7] ? 1 : 0, 1);
        Due.is("goBack(0)", x.goBack(0), 1);
        Due.tolds("behind goBack(0)", x, told);
        for (int l = 0; l < 3; l++) {
            Due.lights("behind goBack(0)", x, l, 0, lights[l]);
        }
        Due.is("seed(0)", x.seed(0), 31);
    }

    private static void skyDrawnLast() {
        Due.sentence("IMAGES keep SKY drawn last");
        // behind fine comes rough, behind rough ice, behind ice fine
        Counted x = Due.of("odds 0 100 0 0 0 100 100 0 0;light gas 1 0 0 1;light floating 1 0 0 1;");
        x.keep(0);
        x.drift(1);
        x.keep(1);
        x.drift(1);
        x.goBack(1);
        Due.is("drift(1) from IMAGE 1: ice behind rough", x.drift(1), 2);
        x.goBack(0);
        Due.is("drift(1) from IMAGE 0: rough behind the fine one ahead of DAY 0", x.drift(1), 1);
        x.goBack(1);
        x.go(1);
        Due.is("drift(1): rough behind a fine DAY as told", x.drift(1), 1);
    }

    private static void whatWasEachDay() {
        Due.sentence("IMAGES keep what was each DAY");
        Counted x = Due.of("boat 10 40;barrel 40;night 10;light plain 5 10 50 1;");
        x.write(0, 40);
        x.write(0, 30);
        x.go(2);
        x.keep(0);
        x.begin();
        x.pour(40);
        x.goal(0);
        x.go(2);
        Due.is("judge(0): filled on DAY 1", x.judge(0), 1);
        x.goBack(0);
        Due.is("judge(0): as it was in the IMAGE", x.judge(0), -1);
    }

    private static void twoImages() {
        Due.sentence("IMAGES 0, 1: each for itself");
        Counted x = Due.of(REEF);
        x.go(2);
        x.keep(0);
        String two = Due.days(x);
        x.go(3);
        x.keep(1);
        String five = Due.days(x);
        x.go(1);
        x.goBack(0);
        Due.same("IMAGE 0", Due.days(x), two);
        x.goBack(1);
        Due.same("IMAGE 1", Due.days(x), five);
        x.goBack(0);
        Due.same("IMAGE 0 again", Due.days(x), two);
    }

    private static void keptAnew() {
        Due.sentence("IMAGE i becomes what is so: what it was is gone");
        Counted x = Due.of(REEF);
        x.go(2);
        x.keep(0);
        x.keep(1);
        String two = Due.days(x);
        x.go(3);
        x.keep(0);
        String five = Due.days(x);
        x.go(1);
        x.goBack(0);
        Due.same("IMAGE 0, kept anew", Due.days(x), five);
        x.goBack(1);
        Due.same("IMAGE 1, as it was", Due.days(x), two);
        Due.sentence("an IMAGE can be carried into the other one");
        x.goBack(0);
        x.keep(1);
        x.go(4);
        x.goBack(1);
        Due.same("IMAGE 1, kept from IMAGE 0", Due.days(x), five);
    }

    private static void imagesAreApart() {
        Due.sentence("an IMAGE is not changed by what comes behind keep and goBack");
        Counted x = Due.of(REEF, "fine 2;rough 3;");
        x.pour(30);
        x.go(2);
        x.keep(0);
        String kept = Due.days(x);
        x.goal(1);
        x.wick(1, true);
        x.go(1);
        x.goBack(0);
        x.goal(0);
        x.wick(0, true);
        x.pour(5);
        x.drift(5);
        x.seed(9);
        x.goBack(0);
        Due.same("IMAGE 0 behind two times of going on", Due.days(x), kept);
        Due.sentence("images to go on from: what follows is as it would have been");
        x.goal(1);
        int dark = x.drift(9);
        String later = Due.days(x);
        x.goBack(0);
        x.goal(1);
        Due.is("drift(9) again", x.drift(9), dark);
        Due.same("nine days again", Due.days(x), later);
    }

    private static void notKept() {
        Due.sentence("Promise 30: NOT: it was not kept");
        Counted x = Due.of(REEF);
        x.go(1);
        Due.is("goBack(0)", x.goBack(0), Due.NOT);
        Due.is("goBack(1)", x.goBack(1), Due.NOT);
        x.keep(1);
        Due.is("goBack(0) with IMAGE 1 kept", x.goBack(0), Due.NOT);
        Due.is("goBack(1)", x.goBack(1), 1);
        x.keep(0);
        Due.is("goBack(0)", x.goBack(0), 1);
        Due.sentence("Promise 3: IMAGES are gone with the reef");
        Due.reef(x, REEF);
        Due.is("goBack(0) behind reef()", x.goBack(0), Due.NOT);
        Due.is("goBack(1) behind reef()", x.goBack(1), Due.NOT);
        x.keep(0);
        Due.is("goBack(0) kept anew", x.goBack(0), 1);
        Due.is("goBack(1)", x.goBack(1), Due.NOT);
    }

    private static void notInImages() {
        Due.sentence("IMAGES keep nothing else: SKIES, SAYINGS, BOOKS, THE TEXT, its FAULT stay as they are");
        Counted x = Due.of(REEF, "rough 2;");
        x.say(1, true);
        x.write(0, 1);
        x.keep(0);
        Due.skies(x, "ice 5;");
        x.say(2, true);
        x.write(0, 2);
        x.write(1, 2);
        Due.reef(x, "boat");
        Due.feed(x, "light gas 1 2 3 4;");
        x.goBack(0);
        Due.is("told(10)", x.told(10), 5);
        Due.is("sky(0)", x.sky(0), 2);
        Due.is("told(9)", x.told(9), 2);
        Due.is("fault()", x.fault(), 4);
        Due.is("told(8)", x.told(8), 18);
        Due.is("tear(0)", x.tear(0), 2);
        Due.is("tear(1)", x.tear(1), 1);
        Due.is("reef()", x.reef(), 1);
        Due.sentence("DAYS from an IMAGE go by the SKIES of now");
        Counted y = Due.of("light gas 1 0 0 1;", "fine 5;");
        y.keep(0);
        Due.is("go(1)", y.go(1), 0);
        Due.skies(y, "rough 5;");
        y.goBack(0);
        Due.is("go(1)", y.go(1), 1);
    }

    private static void imagesStay() {
        Due.sentence("IMAGES stay behind begin(), skies(), a FAULT");
        Counted x = Due.of(REEF);
        x.go(2);
        x.keep(0);
        String kept = Due.days(x);
        x.begin();
        x.goBack(0);
        Due.same("IMAGE 0 behind begin()", Due.days(x), kept);
        Due.skies(x, "ice 3;");
        x.go(1);
        x.goBack(0);
        Due.same("IMAGE 0 behind skies()", Due.days(x), kept);
        Due.reef(x, "light gas 1 1 1 1;x");
        x.go(1);
        x.goBack(0);
        Due.same("IMAGE 0 behind a FAULT", Due.days(x), kept);
    }
}
