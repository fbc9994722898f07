/** Promises 28 to 30: seed, keep, goBack. */
public final class ImageTest {
    private static final String REEF = "boat 15 40;barrel 90;hens 7 3;night 10,14;odds 60 30 10 20 50 30 10 20 70;light plain 12 10 30 5;"
        + "light double 30 6 40 9;light leaky 5 8 25 3;light floating 20 5 20 7;light gas 44 0 0 4;";

    public static void main(String[] args) {
        seeding();
        keeping();
        bothImages();
        whatImagesLeave();
        Due.end("ImageTest");
    }

    private static void seeding() {
        Counted x = Due.of(REEF);
        Due.is("seed(5)", x.seed(5), 0);
        Due.is("seed(most)", x.seed(Integer.MAX_VALUE), 5);
        for (int v : new int[] {-1, Integer.MIN_VALUE}) {
            Due.is("seed(" + v + ")", x.seed(v), Due.OUTSIDE);
        }
        x.drift(1);
        Due.is("seed(0) behind a draw from the most", x.seed(0), (2147483647L * 1103515245L + 12345L) % 2147483648L);
        x.seed(1);
        x.drift(3);
        long due = 1;
        for (int i = 0; i < 3; i++) {
            due = (due * 1103515245L + 12345L) % 2147483648L;
        }
        Due.is("seed(0) behind three draws", x.seed(0), due);
        // the same seed, the same winter
        Counted a = Due.of(REEF);
        Counted b = Due.of(REEF);
        a.seed(424242);
        b.seed(424242);
        Due.is("drift(90)", a.drift(90), b.drift(90));
        Due.same("winters of one seed", Due.days(a), Due.days(b));
    }

    private static void keeping() {
        Counted x = Due.of(REEF, "fine 2;rough 3;ice 4;");
        for (int i : new int[] {-1, 2, Integer.MIN_VALUE, Integer.MAX_VALUE}) {
            Due.is("keep(" + i + ")", x.keep(i), Due.UNKNOWN);
            Due.is("goBack(" + i + ")", x.goBack(i), Due.UNKNOWN);
        }
        Due.is("goBack(0) not kept", x.goBack(0), Due.NOT);
        Due.is("goBack(1) not kept", x.goBack(1), Due.NOT);
        x.goal(2);
        x.wick(1, true);
        x.pour(33);
        x.seed(31);
        x.go(6);
        x.drift(3);
        String first = Due.days(x);
        Due.is("keep(0)", x.keep(0), 1);
        Due.same("keep(0) changes nothing", Due.days(x), first);
        Due.is("goBack(1) while only 0 is kept", x.goBack(1), Due.NOT);
        x.goal(-1);
        x.wick(1, false);
        x.wick(0, true);
        x.seed(7);
        x.drift(40);
        Due.is("goBack(0)", x.goBack(0), 1);
        Due.same("what is so behind goBack(0)", Due.days(x), first);
        // what follows is as it would have been, and the image is still there
        int dark = x.drift(20);
        String later = Due.days(x);
        Due.is("goBack(0) again", x.goBack(0), 1);
        Due.is("drift(20) again", x.drift(20), dark);
        Due.same("twenty days again", Due.days(x), later);
        x.begin();
        x.goBack(0);
        Due.same("what is so behind begin() and goBack(0)", Due.days(x), first);
    }

    private static void bothImages() {
        Counted x = Due.of(REEF);
        x.go(3);
        x.keep(0);
        String third = Due.days(x);
        x.go(4);
        x.keep(1);
        String seventh = Due.days(x);
        x.goBack(0);
        Due.same("image 0", Due.days(x), third);
        x.goBack(1);
        Due.same("image 1", Due.days(x), seventh);
        x.go(1);
        x.keep(0);
        String eighth = Due.days(x);
        x.goBack(1);
        x.goBack(0);
        Due.same("image 0 kept anew", Due.days(x), eighth);
    }

    private static void whatImagesLeave() {
        Counted x = Due.of(REEF, "rough 2;");
        x.keep(0);
        x.say(3, true);
        x.write(0, 1);
        Due.skies(x, "ice 5;");
        Due.feed(x, "boat");
        Due.is("goBack(0)", x.goBack(0), 1);
        Due.is("told(9): sayings stay", x.told(9), 1);
        Due.is("told(10): skies stay", x.told(10), 5);
        Due.is("sky(0)", x.sky(0), 2);
        Due.is("told(8): the text stays", x.told(8), 4);
        Due.is("tear(0): books stay", x.tear(0), 1);
        Due.is("reef() with a fault", x.reef(), -11);
        Due.is("goBack(0): a fault leaves images", x.goBack(0), 1);
        Due.is("fault(): images leave it", x.fault(), 4);
        Due.is("reef()", Due.reef(x, "light plain 1 1 1 1;"), 1);
        Due.is("goBack(0): gone with the old reef", x.goBack(0), Due.NOT);
    }
}
