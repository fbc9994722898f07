/** Promises 1 to 9: a new object, feed, reef, skies, fault, told, light, sky, odds. */
public final class TextTest {
    private static final String FIVE = "boat 15 40;barrel 90;hens 7 3;night 10,14;odds 60 30 10 20 50 30 10 20 70;"
        + "light plain 12 10 30 5;light double 30 6 40 9;light leaky 5 8 25 3;light floating 20 5 20 7;light gas 44 0 0 4;";

    public static void main(String[] args) {
        newObject();
        feeding();
        reefTold();
        reefBounds();
        faultsOfOne();
        faultsOfTwo();
        faultsOfThree();
        faultsOfFour();
        blanks();
        faultLeavesAll();
        newReefStartsOver();
        skiesTold();
        skiesFaults();
        skiesTooLong();
        tellingAndLights();
        skyAndOdds();
        Due.end("TextTest");
    }

    private static void newObject() {
        Counted x = new Counted();
        long[] due = {0, 20, 50, 500, 0, 0, 0, 0, 0, 0, 0, 0, 0, 0, -1, 0};
        for (int what = 0; what < due.length; what++) {
            Due.is("new told(" + what + ")", x.told(what), due[what]);
        }
        Due.is("new fault()", x.fault(), -1);
        for (int i = 0; i < 9; i++) {
            Due.is("new odds(" + i / 3 + ", " + i % 3 + ")", x.odds(i / 3, i % 3), i / 3 == i % 3 ? 100 : 0);
        }
        Due.is("new sky(0)", x.sky(0), 0);
        Due.is("new sky(9999)", x.sky(9999), 0);
        Due.is("new light(0, 0)", x.light(0, 0), Due.UNKNOWN);
        Due.is("new seed(5)", x.seed(5), 0);
        Due.is("new goBack(0)", x.goBack(0), Due.NOT);
        Due.is("new forget()", x.forget(), 0);
        Due.is("new go(3)", x.go(3), 0);
        Due.is("new told(15), no hens", x.told(15), 0);
        Due.is("new told(13)", x.told(13), 50);
        Due.is("new told(3)", x.told(3), 450);
        // hours of a night that is not told: 12, seen by what a light burns
        Counted y = Due.of("light plain 1 10 100 1;");
        y.go(1);
        Due.is("light(0, 5) behind twelve hours", y.light(0, 5), 88);
    }

    private static void feeding() {
        Counted x = new Counted();
        Due.is("feed(0, 1)", x.feed(0, 1), Due.OUTSIDE);
        Due.is("feed(9, 1)", x.feed(9, 1), Due.OUTSIDE);
        Due.is("feed(-1, 1)", x.feed(-1, 1), Due.OUTSIDE);
        Due.is("feed(least, 1)", x.feed(Integer.MIN_VALUE, 1), Due.OUTSIDE);
        Due.is("feed(most, 1)", x.feed(Integer.MAX_VALUE, 1), Due.OUTSIDE);
        // what stands above the n lowest bytes does not count: "b", "arr", "el   9; "
        Due.is("feed(1)", x.feed(1, 0x7a7a7a7a7a7a7a62L), 1);
        Due.is("feed(3)", x.feed(3, 0x6162_0000_0061_7272L), 4);
        Due.is("feed(8)", x.feed(8, 0x656c_2020_2039_3b20L), 12);
        Due.is("reef()", x.reef(), 0);
        Due.is("told(3)", x.told(3), 9);
        for (int i = 1; i <= 62; i++) {
            Due.is("feed(8) " + i, x.feed(8, 0x2020202020202020L), 8 * i);
        }
        Due.is("feed(5) at 496", x.feed(5, 0x2020202020L), Due.FULL);
        Due.is("feed(9) at 496", x.feed(9, 0), Due.OUTSIDE);
        Due.is("feed(4) at 496", x.feed(4, 0x20202020L), 500);
        Due.is("feed(1) at 500", x.feed(1, 32), Due.FULL);
        Due.is("reef() of 500 blanks", x.reef(), 0);
        Due.is("told(8)", x.told(8), 0);
        // bytes from 128 on are no letters, no figures, no blanks
        for (long b : new long[] {0, 9, 10, 13, 128, 160, 255}) {
            x.feed(1, b);
            Due.is("reef() of byte " + b, x.reef(), -11);
            Due.is("fault() of byte " + b, x.fault(), 0);
        }
    }

    private static void reefTold() {
        Counted x = new Counted();
        Due.is("reef()", Due.reef(x, FIVE), 5);
        Due.is("fault()", x.fault(), -1);
        Due.is("told(1)", x.told(1), 15);
        Due.is("told(2)", x.told(2), 40);
        Due.is("told(3)", x.told(3), 90);
        int[][] due = {{0, 12, 10, 30, 5, 30, 0, 0, 0}, {1, 30, 6, 40, 9, 40, 0, 0, 0}, {2, 5, 8, 25, 3, 25, 0, 0, 0},
            {3, 20, 5, 20, 7, 20, 0, 0, 0}, {4, 44, 0, 0, 4, 0, 0, 0, 0}};
        for (int l = 0; l < 5; l++) {
            for (int what = 0; what <= 8; what++) {
                Due.is("light(" + l + ", " + what + ")", x.light(l, what), due[l][what]);
            }
        }
        int[] odds = {60, 30, 10, 20, 50, 30, 10, 20, 70};
        for (int i = 0; i < 9; i++) {
            Due.is("odds(" + i / 3 + ", " + i % 3 + ")", x.odds(i / 3, i % 3), odds[i]);
        }
        Due.is("reef() of nothing", x.reef(), 0);
        Due.is("told(1) untold again", x.told(1), 20);
        Due.is("odds(0, 0) untold again", x.odds(0, 0), 100);
        Due.is("odds(0, 1) untold again", x.odds(0, 1), 0);
        Due.is("reef() of nothing again", x.reef(), 0);
        x.go(20);
        Due.is("told(15): hens untold again", x.told(15), 0);
        Due.is("told(4): hens untold again", x.told(4), 0);
        nine(x);
    }

    private static void nine(Counted x) {
        StringBuilder nine = new StringBuilder();
        for (int i = 0; i < 9; i++) {
            nine.append("light plain ").append(i).append(" 1 1 1;");
        }
        Due.is("reef() of nine", Due.reef(x, nine.toString()), 9);
        Due.is("light(8, 1)", x.light(8, 1), 8);
        Due.is("light(9, 1)", x.light(9, 1), Due.UNKNOWN);
        fault("light plain 1 1 1 1;".repeat(9) + "boat 1 1;light", -13, 189);
        fault("light plain 1 1 1 1;".repeat(10), -13, 180);
    }

    private static void reefBounds() {
        String[] good = {"light plain 0 0 0 0;", "light gas 99 99 999 99;", "boat 1 1;", "boat 99 999;", "barrel 0;", "barrel 9999;",
            "hens 0 1;", "hens 99 99;", "night 1;", "night 24;", "odds 0 0 100 0 100 0 100 0 0;", "night 1,2,3,4,5,6,7,8,9,10,11,12;",
            "barrel 0009;", ""};
        for (String text : good) {
            Counted x = new Counted();
            int answer = Due.reef(x, text);
            Due.is("reef() of '" + text + "'", answer, text.startsWith("light") ? 1 : 0);
            Due.is("fault() of '" + text + "'", x.fault(), -1);
        }
        // each number one below or above its bounds, where '#' stands
        String[] bad = {"light plain #100 1 1 1;", "light plain 1 #100 1 1;", "light plain 1 1 #1000 1;", "light plain 1 1 1 #100;",
            "boat #0 1;", "boat #100 1;", "boat 1 #0;", "boat 1 #1000;", "barrel #10000;", "hens #100 1;", "hens 1 #0;", "hens 1 #100;",
            "night #0;", "night #25;", "night 1,#0;", "night 1,#25;", "odds #101 0 0 0 0 100 0 0 100;", "odds 0 #101 0 0 0 100 0 0 100;",
            "odds 0 0 #101 0 0 100 0 0 100;", "barrel #00001;", "barrel #123456789012345678901;", "light plain #00001 1 1 1;"};
        for (String text : bad) {
            fault(text.replace("#", ""), -12, text.indexOf('#'));
        }
    }

    private static void fault(String text, int answer, int where) {
        Counted x = new Counted();
        Due.is("reef() of '" + text + "'", Due.reef(x, text), answer);
        Due.is("fault() of '" + text + "'", x.fault(), where);
    }

    private static void faultsOfOne() {
        String[] texts = {"#x;", "#lights plain 1 1 1 1;", "#Light plain 1 1 1 1;", "#;", "#5;", "#12345;", "#,", "boat#", "boat #", "boat   #",
            "boat#;", "boat 1#;", "boat 1 1#", "boat 1 1  #", "boat 1 1#,", "boat 1 1 #1;", "boat 1 1 #12345;", "boat 1 1 #a;", "boat #a 1;",
            "#bo at 1 1;", "#boatx 1 1;", "#boatz 1 1;", "#boata 1 1;", "#z;", "#boaT 1 1;", "light#", "light #1", "light #;", "light #plai 1 1 1 1;", "light #plainx 1 1 1 1;",
            "#lightplain 1 1 1 1;", "light plain#;", "light plain 1#;", "light plain 1 1#;", "light plain 1 1 1#;", "light plain 1 1 1 1#",
            "light plain 1 1 1 1 #1;", "light plain #gas 1 1 1 1;", "light plain #-1 1 1 1;", "light plain 1#,1 1 1;", "barrel 1;#;",
            "barrel#\t1;", "hens 1#", "hens 1 1#", "night#;", "night #,", "night 1#", "night 1,#", "night 1,#;", "night 1,#,", "night 1 #1;",
            "odds 50 50 0 50 50 0 50 50#;", "odds 50 50 0 50 50 0 50 50 0 #0;", "odds 50#,50", "odds#", "barrel 1#.5;", "#fine 2;",
            "night 1,1,1,1,1,1,1,1,1,1,1,1,#", "night 1,1,1,1,1,1,1,1,1,1,1,1,#;", "light #boat 1 1;"};
        for (String text : texts) {
            fault(text.replace("#", ""), -11, text.indexOf('#'));
        }
    }

    private static void faultsOfTwo() {
        // the least of those at one byte: a thirteenth night or a third of the odds that is out of its bounds as well
        fault("night 1,1,1,1,1,1,1,1,1,1,1,1,25;", -12, 30);
        fault("night 1,1,1,1,1,1,1,1,1,1,1,1,11111;", -12, 30);
        fault("odds 1 1 999 0 0 0 0 0 0;", -12, 9);
        // the first of several
        fault("boat 0 0;", -12, 5);
        fault("barrel 10000;barrel x", -12, 7);
    }

    private static void faultsOfThree() {
        for (String clause : new String[] {"boat 1 1;", "barrel 1;", "hens 1 1;", "night 1;", "odds 100 0 0 0 100 0 0 0 100;"}) {
            fault(clause + clause, -13, clause.length());
            fault(clause + "  " + clause, -13, clause.length() + 2);
            String word = clause.substring(0, clause.indexOf(' '));
            fault(clause + "light gas 1 1 1 1;" + word, -13, clause.length() + 18);
        }
        fault("night 1,1,1,1,1,1,1,1,1,1,1,1,1;", -13, 30);
        fault("night 1,1,1,1,1,1,1,1,1,1,1,1, 1", -13, 31);
    }

    private static void faultsOfFour() {
        fault("odds 50 50 1 0 0 0 0 0 0;", -14, 11);
        fault("odds 50 49 0 0 0 0 0 0 0;", -14, 11);
        fault("odds 100 0 0 50 49 0 0 0 100;", -14, 19);
        fault("odds 100 0 0 0 100 0 0 100 1;", -14, 27);
        fault("odds 100 100 100 0 0 0 0 0 0;", -14, 13);
        fault("odds 0 0 0", -14, 9);
    }

    private static void blanks() {
        String[] texts = {"  boat  7  8 ; barrel 3 ;  ", "boat7 8;barrel3;", "boat 7 8;barrel 3;night 1 , 2,3 ;", "boat 0007 08;barrel 0003;"};
        for (String text : texts) {
            Counted x = new Counted();
            Due.is("reef() of '" + text + "'", Due.reef(x, text), 0);
            Due.is("told(1)", x.told(1), 7);
            Due.is("told(2)", x.told(2), 8);
            Due.is("told(3)", x.told(3), 3);
        }
        Due.is("reef() of a word beside a number", Due.reef(new Counted(), "light plain12 10 30 5;light gas1 1 1 1;"), 2);
    }

    private static void faultLeavesAll() {
        Counted x = Due.of(FIVE, "rough 3;");
        x.goal(1);
        x.wick(0, true);
        x.seed(77);
        x.go(3);
        x.say(3, true);
        x.write(0, 20);
        x.keep(1);
        String before = (Due.frame(x) + Due.days(x)).replace("fault -1", "fault");
        Due.is("reef() with a fault behind much that is good", Due.reef(x, "boat 1 1;light plain 1 1 1 1;hens 5 5;night 3;odds 0 0 100 0 0 100 0 0 100;x"), -11);
        Due.is("fault()", x.fault(), 75);
        Due.same("all behind a fault", (Due.frame(x) + Due.days(x)).replace("fault 75", "fault"), before);
        Due.is("told(8)", x.told(8), 0);
        Due.is("tear(0): the book is there", x.tear(0), 1);
        Due.is("goBack(1): the image is there", x.goBack(1), 1);
        Due.is("fault() stays", x.fault(), 75);
    }

    private static void newReefStartsOver() {
        Counted x = Due.of(FIVE, "rough 3;");
        x.goal(1);
        x.wick(0, true);
        x.seed(77);
        x.pour(20);
        x.go(4);
        Due.is("told(4) ahead of the new reef", x.told(4), 1);
        Due.reef(x, "boat");
        x.say(3, true);
        x.write(0, 20);
        x.write(4, 20);
        x.keep(0);
        x.keep(1);
        Due.is("reef() anew", Due.reef(x, FIVE), 5);
        Due.is("fault() of the new reef", x.fault(), -1);
        long[] due = {5, 15, 40, 90, 0, 0, 0, 0, 0, 0, 3, 0, 0, 0, -1, 0};
        for (int what = 0; what < due.length; what++) {
            Due.is("told(" + what + ") of the new reef", x.told(what), due[what]);
        }
        Due.is("light(0, 5)", x.light(0, 5), 30);
        Due.is("light(0, 6)", x.light(0, 6), 0);
        Due.is("light(4, 7)", x.light(4, 7), 0);
        Due.is("light(4, 8)", x.light(4, 8), 0);
        Due.is("tear(0)", x.tear(0), 0);
        Due.is("tear(4)", x.tear(4), 0);
        Due.is("goBack(0)", x.goBack(0), Due.NOT);
        Due.is("goBack(1)", x.goBack(1), Due.NOT);
        Due.is("sky(2): the skies stay", x.sky(2), 1);
        Due.is("seed(0): the seed stays", x.seed(0), 77);
    }

    private static void skiesTold() {
        Counted x = new Counted();
        Due.is("skies()", Due.skies(x, "fine 2;rough 3; ice4 ;fine 1;"), 10);
        int[] due = {0, 0, 1, 1, 1, 2, 2, 2, 2, 0, 0, 0};
        for (int day = 0; day < due.length; day++) {
            Due.is("sky(" + day + ")", x.sky(day), due[day]);
        }
        Due.is("fault()", x.fault(), -1);
        Due.is("told(10)", x.told(10), 10);
        Due.is("told(8)", x.told(8), 0);
        Due.is("skies() anew", Due.skies(x, "ice 1;ice 99;"), 100);
        Due.is("sky(99)", x.sky(99), 2);
        Due.is("sky(100)", x.sky(100), 0);
        Due.is("skies() of nothing", x.skies(), 0);
        Due.is("sky(0)", x.sky(0), 0);
        Due.is("skies() of thirty", Due.skies(x, "ice99;".repeat(30)), 2970);
        Due.is("sky(2969)", x.sky(2969), 2);
        Due.is("sky(2970)", x.sky(2970), 0);
        Due.is("told(5): days stay", x.told(5), 0);
    }

    private static void skiesFaults() {
        Counted x = new Counted();
        Due.skies(x, "rough 5;");
        String[] texts = {"1#snow 5;", "1#icy 5;", "1ice#;", "1ice 5#", "1ice 5  #", "1ice 5#,", "1ice 5 #5;", "1#;", "1#5;", "1ice 5;#light 5;", "1ice#",
            "2ice #0;", "2ice #100;", "2ice #00001;", "2fine 1;rough #0;", "1#Fine 5;", "1#fineice 5;", "1#fi ne 5;"};
        for (String text : texts) {
            String told = text.substring(1).replace("#", "");
            Due.is("skies() of '" + told + "'", Due.skies(x, told), -10 - (text.charAt(0) - '0'));
            Due.is("fault() of '" + told + "'", x.fault(), text.indexOf('#') - 1);
            Due.is("told(10) stays", x.told(10), 5);
            Due.is("sky(4) stays", x.sky(4), 1);
            Due.is("told(8)", x.told(8), 0);
        }
        Due.is("skies() of 31", Due.skies(x, "ice9;".repeat(31)), -13);
        Due.is("fault() of 31", x.fault(), 150);
        Due.is("skies() of a 31st word", Due.skies(x, "ice9;".repeat(30) + " rough"), -13);
        Due.is("fault()", x.fault(), 151);
        Due.is("skies() of a 31st that cannot stand", Due.skies(x, "ice9;".repeat(30) + "snow"), -11);
        Due.is("fault()", x.fault(), 150);
        Due.is("skies() good again", Due.skies(x, "ice 1;"), 1);
        Due.is("fault() good again", x.fault(), -1);
    }

    private static void skiesTooLong() {
        Counted x = new Counted();
        Due.reef(x, "boat");
        Due.is("fault()", x.fault(), 4);
        Due.feed(x, "ice 9;" + " ".repeat(195));
        Due.is("skies() of 201 bytes", x.skies(), Due.NOT);
        Due.is("told(8)", x.told(8), 201);
        Due.is("fault() stays", x.fault(), 4);
        Due.is("reef() of what stayed", x.reef(), -11);
        Due.is("fault()", x.fault(), 0);
        Due.is("skies() of 200 bytes", Due.skies(x, "ice 9;" + " ".repeat(194)), 9);
    }

    private static void tellingAndLights() {
        Counted x = Due.of(FIVE);
        for (int what : new int[] {-1, 16, Integer.MIN_VALUE, Integer.MAX_VALUE}) {
            Due.is("told(" + what + ")", x.told(what), Due.OUTSIDE);
        }
        for (int what : new int[] {-1, 9, Integer.MIN_VALUE, Integer.MAX_VALUE}) {
            Due.is("light(0, " + what + ")", x.light(0, what), Due.OUTSIDE);
            Due.is("light(5, " + what + ")", x.light(5, what), Due.UNKNOWN);
        }
        for (int l : new int[] {-1, 5, Integer.MIN_VALUE, Integer.MAX_VALUE}) {
            Due.is("light(" + l + ", 0)", x.light(l, 0), Due.UNKNOWN);
        }
        x.say(1, true);
        x.goal(3);
        Due.feed(x, "abc");
        Due.is("told(8)", x.told(8), 3);
        Due.is("told(9)", x.told(9), 1);
        Due.is("told(14)", x.told(14), 3);
    }

    private static void skyAndOdds() {
        Counted x = Due.of(FIVE, "rough 5;");
        for (int day : new int[] {-1, 10000, Integer.MIN_VALUE, Integer.MAX_VALUE}) {
            Due.is("sky(" + day + ")", x.sky(day), Due.OUTSIDE);
        }
        Due.is("sky(0)", x.sky(0), 1);
        Due.is("sky(9999)", x.sky(9999), 0);
        for (int i : new int[] {-1, 3, Integer.MIN_VALUE, Integer.MAX_VALUE}) {
            Due.is("odds(" + i + ", 0)", x.odds(i, 0), Due.UNKNOWN);
            Due.is("odds(0, " + i + ")", x.odds(0, i), Due.UNKNOWN);
        }
    }
}
