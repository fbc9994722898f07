/** Section 1: NUMBERS, words, blanks and the four FAULTS, for texts of the reef and of the skies. */
public final class FaultTest {
    private static final String NIGHTS_12 = "night 1,2,3,4,5,6,7,8,9,10,11,12";

    public static void main(String[] args) {
        bytesThatCannotStand();
        clauseWords();
        kindWords();
        endOfText();
        signsBetween();
        figuresOfNumbers();
        boundsOfNumbers();
        clausesToldAlready();
        tenthLight();
        thirteenthNight();
        threeOddsTogether();
        leastOfOneByte();
        firstOfSeveral();
        blanks();
        skyWords();
        skyNumbers();
        skyClauses();
        longestTexts();
        Due.end("FaultTest");
    }

    /** A fault of this number is due at the byte where '#' stands in the marked text. */
    private static void reefFault(int number, String marked) {
        String text = marked.replace("#", "");
        Counted x = new Counted();
        Due.is("reef() of '" + text + "'", Due.reef(x, text), -10 - number);
        Due.is("fault() of '" + text + "'", x.fault(), marked.indexOf('#'));
        Due.is("told(8) behind the fault of '" + text + "'", x.told(8), 0);
    }

    private static void skyFault(int number, String marked) {
        String text = marked.replace("#", "");
        Counted x = new Counted();
        Due.is("skies() of '" + text + "'", Due.skies(x, text), -10 - number);
        Due.is("fault() of '" + text + "'", x.fault(), marked.indexOf('#'));
        Due.is("told(8) behind the fault of '" + text + "'", x.told(8), 0);
    }

    private static Counted good(String text, int lights) {
        Counted x = new Counted();
        Due.is("reef() of '" + text + "'", Due.reef(x, text), lights);
        Due.is("fault() of '" + text + "'", x.fault(), -1);
        return x;
    }

    private static void goodSkies(String text, int days) {
        Counted x = new Counted();
        Due.is("skies() of '" + text + "'", Due.skies(x, text), days);
        Due.is("fault() of '" + text + "'", x.fault(), -1);
    }

    private static void bytesThatCannotStand() {
        Due.sentence("1 it cannot stand there: each of the 256 bytes where a clause may begin");
        for (int b = 0; b < 256; b++) {
            Counted x = new Counted();
            x.feed(1, b);
            Due.is("reef() of the byte " + b, x.reef(), b == ' ' ? 0 : -11);
            Due.is("fault() of the byte " + b, x.fault(), b == ' ' ? -1 : 0);
            x.feed(1, b);
            Due.is("skies() of the byte " + b, x.skies(), b == ' ' ? 0 : -11);
            Due.is("fault() of the byte " + b, x.fault(), b == ' ' ? -1 : 0);
        }
        Due.sentence("1 it cannot stand there: each of the 256 bytes behind a NUMBER");
        for (int b = 0; b < 256; b++) {
            Counted x = new Counted();
            Due.feed(x, "boat 1 1");
            x.feed(1, b);
            boolean goesOn = b == ' ' || b >= '0' && b <= '9';
            Due.is("reef() of 'boat 1 1' and the byte " + b, x.reef(), b == ';' ? 0 : -11);
            Due.is("fault() of 'boat 1 1' and the byte " + b, x.fault(), b == ';' ? -1 : goesOn ? 9 : 8);
            Due.feed(x, "ice 1");
            x.feed(1, b);
            Due.is("skies() of 'ice 1' and the byte " + b, x.skies(), b == ';' ? 1 : -11);
            Due.is("fault() of 'ice 1' and the byte " + b, x.fault(), b == ';' ? -1 : goesOn ? 6 : 5);
        }
        Due.sentence("1 it cannot stand there: each of the 256 bytes behind a word");
        for (int b = 0; b < 256; b++) {
            Counted x = new Counted();
            Due.feed(x, "barrel");
            x.feed(1, b);
            Due.feed(x, "1;");
            boolean fine = b == ' ' || b >= '0' && b <= '9';
            boolean letter = b >= 'a' && b <= 'z';
            Due.is("reef() of 'barrel', the byte " + b + ", '1;'", x.reef(), fine ? 0 : -11);
            Due.is("fault() of 'barrel', the byte " + b + ", '1;'", x.fault(), fine ? -1 : letter ? 0 : 6);
        }
    }

    private static void clauseWords() {
        Due.sentence("1 a word that cannot: at its first letter, where a clause begins");
        for (String word : new String[] {"a", "z", "ligh", "lights", "lightt", "boa", "boats", "barre", "barrels", "hen", "henss", "nigh", "nights",
            "odd", "oddss", "plain", "gas", "fine", "rough", "ice", "xlight", "bboat"}) {
            reefFault(1, "#" + word + " 1 1;");
            reefFault(1, "barrel 7; #" + word);
            reefFault(1, "  #" + word + ";");
        }
        reefFault(1, "#Light plain 1 1 1 1;");
        reefFault(1, "#LIGHT plain 1 1 1 1;");
        reefFault(1, "#boaT 1 1;");
        reefFault(1, "#bo at 1 1;");
        reefFault(1, "#b oat 1 1;");
        reefFault(1, "#;");
        reefFault(1, "barrel 1;#;");
        reefFault(1, "#1;");
        reefFault(1, "barrel 1;#1;");
        reefFault(1, "#,");
        Due.sentence("two words side by side need one [blank]");
        reefFault(1, "#lightplain 1 1 1 1;");
        good("light plain 1 1 1 1;", 1);
    }

    private static void kindWords() {
        Due.sentence("1 a word that cannot: at its first letter, where a kind stands");
        for (String word : new String[] {"p", "plai", "plains", "doubl", "doubles", "leak", "leakyy", "floatin", "floatings", "ga", "gass", "light", "boat",
            "ice", "pla in", "Plain"}) {
            reefFault(1, "light #" + word + " 1 1 1 1;");
            reefFault(1, "light gas 1 1 1 1;light  #" + word);
        }
        reefFault(1, "light #1 1 1 1;");
        reefFault(1, "light #12345 1 1 1;");
        reefFault(1, "light #;");
        reefFault(1, "light plain #gas 1 1 1 1;");
        reefFault(1, "light plain #plain 1 1 1 1;");
        String[] kinds = {"plain", "double", "leaky", "floating", "gas"};
        for (int k = 0; k < kinds.length; k++) {
            Due.is("light(0, 0) of " + kinds[k], good("light " + kinds[k] + " 1 1 1 1;", 1).light(0, 0), k);
        }
    }

    private static void endOfText() {
        Due.sentence("the end at the text's length");
        for (String text : new String[] {"light", "light gas", "light gas 1", "light gas 1 1", "light gas 1 1 1", "light gas 1 1 1 1", "boat", "boat 1", "boat 1 1",
            "barrel", "barrel 1", "hens", "hens 1", "hens 1 1", "night", "night 1", "night 1,", "night 1,1", "odds", "odds 50", "odds 50 50", "odds 50 50 0",
            "odds 50 50 0 0 0", "odds 50 50 0 0 0 100 9 9 82"}) {
            reefFault(1, text + "#");
            reefFault(1, text + " #");
            reefFault(1, text + "     #");
            reefFault(1, "hens 0 1;".repeat(text.startsWith("hens") ? 0 : 1) + text + "#");
        }
        for (String text : new String[] {"ice", "ice 1", "fine 99", "ice 1;rough", "ice 1;rough 2"}) {
            skyFault(1, text + "#");
            skyFault(1, text + "   #");
        }
        Due.sentence("a text that ends behind a clause, or has none, has no FAULT");
        good("", 0);
        good(" ", 0);
        good("boat 1 1;", 0);
        good("boat 1 1;   ", 0);
        goodSkies("", 0);
        goodSkies("   ", 0);
        goodSkies("ice 1;  ", 1);
    }

    private static void signsBetween() {
        Due.sentence("1 it cannot stand there: a sign, a word or a NUMBER where the clause wants another");
        for (String marked : new String[] {"light#;", "light plain#;", "light plain 1#;", "light plain 1 1#;", "light plain 1 1 1#;", "light plain 1 1 1 1 #1;",
            "light plain 1#,1 1 1;", "light plain #-1 1 1 1;", "light plain 1 #+1 1 1;", "light plain 1 1 1 1#,", "light plain 1 1 1 1 #light",
            "light plain 1 1 1 1#light", "light plain #x 1 1 1;", "light plain 1 #x 1 1;", "light plain 1 1 #x 1;", "light plain 1 1 1 #x;",
            "boat#;", "boat 1#;", "boat #x;", "boat 1#,1;", "boat 1 #x;", "boat 1 1 #1;", "boat 1 1 #a;", "boat 1 1#.", "boat #,1;",
            "barrel#;", "barrel#,", "barrel 1#.5;", "barrel #x;", "barrel 1 #1;", "barrel 1#:", "hens#;", "hens 1#;", "hens 1#,1;", "hens 1 1 #1;", "hens 1 #x;",
            "night#;", "night#,1;", "night 1 #1;", "night 1,#;", "night 1,#,1;", "night 1,#x;", "night 1#.", "night 1, 2 #3;",
            "odds#;", "odds 50#,50 0;", "odds 50 50#;", "odds 50 50 0#;", "odds 50 50 0 50 50 0 50 50#;", "odds 50 50 0 50 50 0 50 50 0 #0;",
            "odds 50 50 0 50 50 0 50 50 0#,", "odds 50 50 0#,50 50 0,50 50 0;"}) {
            reefFault(1, marked);
        }
    }

    private static void figuresOfNumbers() {
        Due.sentence("NUMBERS have one to four figures");
        Due.is("told(3) of one figure", good("barrel 7;", 0).told(3), 7);
        Due.is("told(3) of four figures", good("barrel 0007;", 0).told(3), 7);
        Due.is("told(3) of four nines", good("barrel 9999;", 0).told(3), 9999);
        Due.is("told(3) of 0000", good("barrel 0000;", 0).told(3), 0);
        Due.is("light(0, 1) of 0099", good("light plain 0099 0099 0999 0099;", 1).light(0, 1), 99);
        Due.is("odds(0, 0) of 0100", good("odds 0100 0000 0000 0000 0100 0000 0000 0000 0100;", 0).odds(0, 0), 100);
        Due.is("told(1) of 0001", good("boat 0001 0001;", 0).told(1), 1);
        goodSkies("ice 0099;", 99);
        Due.sentence("2 a NUMBER of five figures or more (at its first)");
        for (String five : new String[] {"00000", "00001", "00050", "10000", "99999", "000000", "123456789012345678901234567890", "4294967297", "2147483648"}) {
            reefFault(2, "barrel #" + five + ";");
            reefFault(2, "boat #" + five + " 1;");
            reefFault(2, "boat 1 #" + five + ";");
            reefFault(2, "light gas #" + five + " 1 1 1;");
            reefFault(2, "light gas 1 1 1 #" + five + ";");
            reefFault(2, "hens 1 #" + five + ";");
            reefFault(2, "night #" + five + ";");
            reefFault(2, "night 1,  #" + five + ";");
            reefFault(2, "odds #" + five + " 0 0;");
            reefFault(2, "odds 0 0 #" + five + ";");
            reefFault(2, "barrel #" + five);
            reefFault(2, "barrel #" + five + "x");
            skyFault(2, "ice #" + five + ";");
            skyFault(2, "ice 1;rough#" + five + ";");
        }
    }

    private static void boundsOfNumbers() {
        Due.sentence("miles P 0 .. 99; B 0 .. 99; C 0 .. 999; W 0 .. 99");
        Due.lights("of the least numbers", good("light plain 0 0 0 0;", 1), 0, 0, 0, 0, 0, 0, 0, 0, 0, 0, 0);
        Due.lights("of the greatest numbers", good("light gas 99 98 999 97;", 1), 0, 0, 4, 99, 98, 999, 97, 999, 0, 0, 0);
        Due.lights("of the greatest numbers", good("light gas 98 99 998 99;", 1), 0, 0, 4, 98, 99, 998, 99, 998, 0, 0, 0);
        for (String marked : new String[] {"light plain #100 1 1 1;", "light plain 1 #100 1 1;", "light plain 1 1 #1000 1;", "light plain 1 1 1 #100;",
            "light plain #9999 1 1 1;", "light plain 1 #999 1 1;", "light plain 1 1 #9999 1;", "light plain 1 1 1 #1000;"}) {
            reefFault(2, marked);
        }
        Due.sentence("V miles a day 1 .. 99, holds S 1 .. 999");
        Due.tolds("of the least boat", good("boat 1 1;", 0), 0, 1, 1);
        Due.tolds("of the greatest boat", good("boat 99 999;", 0), 0, 99, 999);
        for (String marked : new String[] {"boat #0 1;", "boat #100 1;", "boat 1 #0;", "boat 1 #1000;", "boat #0000 1;", "boat #9999 1;"}) {
            reefFault(2, marked);
        }
        Due.sentence("'barrel' Q (0 .. 9999)");
        Due.is("told(3) of barrel 0", good("barrel 0;", 0).told(3), 0);
        Due.is("told(3) of barrel 9999", good("barrel 9999;", 0).told(3), 9999);
        reefFault(2, "barrel #10000;");
        Due.sentence("eggs a day 0 .. 99, E 1 .. 99");
        hens("hens 0 1;", 0, 0);
        hens("hens 99 99;", 0, 1);
        hens("hens 99 1;", 0, 99);
        hens("hens 98 99;", 98, 0);
        for (String marked : new String[] {"hens #100 1;", "hens 1 #0;", "hens 1 #100;", "hens #100 0;", "hens 0 #0;"}) {
            reefFault(2, marked);
        }
        Due.sentence("'night' N hours 1 .. 24");
        for (int hours : new int[] {1, 2, 23, 24}) {
            Counted x = good("light plain 1 10 99 1;night " + hours + ";", 1);
            x.go(1);
            Due.is("light(0, 5) behind a night of " + hours, x.light(0, 5), 99 - hours);
        }
        for (String marked : new String[] {"night #0;", "night #25;", "night 1,#0;", "night 1,#25;", "night 24,24,#0,1;", "night #100;"}) {
            reefFault(2, marked);
        }
        Due.sentence("'odds' of a hundred, 0 .. 100");
        Counted x = good("odds 0 0 100 0 100 0 100 0 0;", 0);
        for (int i = 0; i < 9; i++) {
            Due.is("odds(" + i / 3 + ", " + i % 3 + ")", x.odds(i / 3, i % 3), i == 2 || i == 4 || i == 6 ? 100 : 0);
        }
        for (String marked : new String[] {"odds #101 0 0 0 0 100 0 0 100;", "odds 0 #101 0 0 0 100 0 0 100;", "odds 0 0 #101 0 0 100 0 0 100;",
            "odds 0 0 100 #101 0 0 0 0 100;", "odds 0 0 100 0 0 100 0 0 #101;", "odds #200"}) {
            reefFault(2, marked);
        }
    }

    private static void hens(String text, int eggs, int parts) {
        Counted x = good(text, 0);
        x.go(1);
        Due.is("told(4) behind a day of " + text, x.told(4), eggs);
        Due.is("told(15) behind a day of " + text, x.told(15), parts);
    }

    private static void clausesToldAlready() {
        Due.sentence("3 a clause that was told already (at the clause's first letter)");
        for (String clause : new String[] {"boat 1 1;", "barrel 1;", "hens 1 1;", "night 1;", "odds 100 0 0 0 100 0 0 0 100;"}) {
            String word = clause.substring(0, clause.indexOf(' '));
            reefFault(3, clause + "#" + clause);
            reefFault(3, clause + "   #" + clause);
            reefFault(3, clause + "#" + word);
            reefFault(3, clause + "#" + word + " x");
            reefFault(3, clause + "light gas 1 1 1 1;#" + word + " 10000;");
            // the longer word is another one, and cannot stand
            reefFault(1, clause + "#" + word + "x");
        }
        reefFault(3, "boat 1 1;barrel 1;hens 1 1;night 1;odds 100 0 0 0 100 0 0 0 100;#odds");
        Due.sentence("each once: every clause may be told, in any order, LIGHTS more than once");
        good("boat 1 1;barrel 1;hens 1 1;night 1;odds 100 0 0 0 100 0 0 0 100;light gas 1 1 1 1;light gas 1 1 1 1;", 2);
        good("light gas 1 1 1 1;odds 100 0 0 0 100 0 0 0 100;night 1;hens 1 1;light gas 1 1 1 1;barrel 1;boat 1 1;", 2);
        Due.sentence("told already: of this text, not of the one ahead");
        Counted x = good("boat 1 1;barrel 1;hens 1 1;night 1;", 0);
        Due.is("reef() of the same again", Due.reef(x, "boat 1 1;barrel 1;hens 1 1;night 1;"), 0);
        Due.is("reef() with a FAULT behind it", Due.reef(x, "boat 1 1;x"), -11);
        Due.is("reef() of the same behind the FAULT", Due.reef(x, "boat 1 1;barrel 1;hens 1 1;night 1;"), 0);
    }

    private static void tenthLight() {
        String light = "light plain 1 1 1 1;";
        Due.sentence("9 LIGHTS at most");
        good(light.repeat(8), 8);
        good(light.repeat(9), 9);
        good(light.repeat(9) + "boat 1 1;", 9);
        Due.sentence("3 a tenth LIGHT (at the clause's first letter)");
        reefFault(3, light.repeat(9) + "#" + light);
        reefFault(3, light.repeat(9) + "  #light");
        reefFault(3, light.repeat(9) + "boat 1 1; #light x");
        reefFault(3, light.repeat(9) + "#light plain 100 1 1 1;");
        reefFault(1, light.repeat(9) + "#lights plain 1 1 1 1;");
    }

    private static void thirteenthNight() {
        Due.sentence("'night' (12 at most)");
        good(NIGHTS_12 + ";", 0);
        Due.sentence("3 a 13th N of 'night' (at it)");
        reefFault(3, NIGHTS_12 + ",#13;");
        reefFault(3, NIGHTS_12 + " ,  #1");
        reefFault(3, NIGHTS_12 + ",#1,1;");
        reefFault(3, NIGHTS_12 + ",#1x");
        Due.sentence("1 where the 13th N would stand, and behind the 12th");
        reefFault(1, NIGHTS_12 + ",#;");
        reefFault(1, NIGHTS_12 + ",#");
        reefFault(1, NIGHTS_12 + ",#x");
        reefFault(1, NIGHTS_12 + "#");
        reefFault(1, NIGHTS_12 + " #13;");
    }

    private static void threeOddsTogether() {
        Due.sentence("4 the third of three ODDS by which they are not 100 together (at it)");
        for (String marked : new String[] {"odds 50 50 #1 0 0 100 0 0 100;", "odds 50 49 #0 0 0 100 0 0 100;", "odds 0 0 #0", "odds 0 0 #99", "odds 100 100 #100",
            "odds 33 33 #33 0 0 100 0 0 100;", "odds 100 0 0 50 50   #1 0 0 100;", "odds 100 0 0 0 100 0 99 0 #0;", "odds 100 0 0 0 100 0 0 0 #99",
            "odds 100 0 0 100 0 0 0 100 #1;", "odds 1 0 #0 100 0 0 0 0 100;"}) {
            reefFault(4, marked);
        }
        good("odds 33 33 34 34 33 33 33 34 33;", 0);
    }

    private static void leastOfOneByte() {
        Due.sentence("of these the least: 1 ahead of 2");
        reefFault(1, "boat 1 1 #12345;");
        reefFault(1, "#12345");
        reefFault(1, "night 1 #99999;");
        skyFault(1, "#12345;");
        skyFault(1, "ice 1 #12345;");
        Due.sentence("of these the least: 2 ahead of 3");
        reefFault(2, NIGHTS_12 + ",#25;");
        reefFault(2, NIGHTS_12 + ",#0;");
        reefFault(2, NIGHTS_12 + ",#00001;");
        Due.sentence("of these the least: 2 ahead of 4");
        reefFault(2, "odds 1 1 #101 0 0 0 0 0 0;");
        reefFault(2, "odds 0 0 #00100 0 0 0 0 0 0;");
        Due.sentence("of these the least: 1 ahead of 4, where the third should stand");
        reefFault(1, "odds 1 1#;");
        reefFault(1, "odds 1 1 #x");
    }

    private static void firstOfSeveral() {
        Due.sentence("FAULTS, at the first byte that has one");
        reefFault(2, "boat #0 0;boat x");
        reefFault(2, "barrel #10000;barrel 1;barrel 1;");
        reefFault(4, "odds 50 50 #1 101 0 0 0 0 0;x");
        reefFault(3, "boat 1 1;#boat 0 0;x");
        reefFault(1, "#x;boat 0 0;");
        reefFault(2, "odds 50 #101 1 0 0 0 0 0 0;");
        skyFault(2, "ice #0;snow");
        skyFault(1, "#snow 0;");
    }

    private static void blanks() {
        Due.sentence("blanks (32) may stand anywhere but within words and NUMBERS");
        for (String text : new String[] {"boat 7 8;barrel 3;night 1,2;hens 4 5;light gas 1 2 3 4;", "  boat  7  8  ;  barrel  3  ;  night  1  ,  2  ;  hens  4  5  ;"
            + "  light  gas  1  2  3  4  ;  ", "boat7 8;barrel3;night1,2;hens4 5;light gas1 2 3 4;"}) {
            Counted x = good(text, 1);
            Due.tolds("of '" + text + "'", x, 1, 7, 8, 3);
            Due.lights("of '" + text + "'", x, 0, 0, 4, 1, 2, 3, 4);
        }
        reefFault(1, "#li ght plain 1 1 1 1;");
        reefFault(1, "light #pl ain 1 1 1 1;");
        reefFault(1, "barrel 1 #2;");
        skyFault(1, "#ic e 1;");
        skyFault(1, "ice 1 #2;");
        goodSkies("  ice  1  ;  rough  2  ;  ", 3);
        goodSkies("ice1;rough2;", 3);
        Due.sentence("two NUMBERS side by side need one [blank]");
        reefFault(2, "boat #1020;");
        reefFault(1, "boat 12#;");
        good("boat 1 2;", 0);
        Due.sentence("blanks are the byte 32 alone");
        for (char other : new char[] {9, 10, 11, 12, 13, 0, 31, 33, 127, 160}) {
            reefFault(1, "boat#" + other + "1 1;");
            reefFault(1, "#" + other + "boat 1 1;");
            skyFault(1, "ice#" + other + "1;");
        }
    }

    private static void skyWords() {
        Due.sentence("SKIES: clauses 'fine' N ';' | 'rough' N ';' | 'ice' N ';': 1 a word that cannot");
        for (String word : new String[] {"f", "fin", "fines", "roug", "roughs", "ic", "ices", "snow", "light", "boat", "night", "Ice", "plain", "icefine"}) {
            skyFault(1, "#" + word + " 1;");
            skyFault(1, "ice 1; #" + word);
        }
        for (String marked : new String[] {"#;", "#1;", "#,", "ice#;", "ice#,1;", "ice 1#,", "ice 1#.", "ice 1;#;", "ice 1 #ice 1;", "ice 1#rough 1;", "ice #x;", "ice #-1;"}) {
            skyFault(1, marked);
        }
        Due.sentence("a reef's text tells no skies, a text of skies no reef");
        reefFault(1, "boat 1 1;#fine 1;");
        skyFault(1, "fine 1;#boat 1 1;");
    }

    private static void skyNumbers() {
        Due.sentence("N 1 .. 99 DAYS");
        goodSkies("ice 1;", 1);
        goodSkies("ice 99;", 99);
        skyFault(2, "ice #0;");
        skyFault(2, "ice #100;");
        skyFault(2, "fine 1;rough 1;ice #0000;");
        skyFault(2, "ice 99;ice #9999;");
    }

    private static void skyClauses() {
        Due.sentence("30 clauses at most");
        goodSkies("ice1;".repeat(29), 29);
        goodSkies("ice1;".repeat(30), 30);
        goodSkies("fine9;".repeat(30), 270);
        Due.sentence("3 a 31st clause of SKIES (at the clause's first letter)");
        skyFault(3, "ice1;".repeat(30) + "#ice1;");
        skyFault(3, "ice1;".repeat(30) + "   #rough");
        skyFault(3, "ice1;".repeat(30) + "#fine 0;");
        skyFault(3, "fine1;".repeat(30) + "#fine x");
        skyFault(1, "ice1;".repeat(30) + "#snow");
        skyFault(1, "ice1;".repeat(30) + "#;");
        Due.sentence("the same sky may come again, and behind itself");
        goodSkies("ice 1;ice 2;fine 3;ice 4;", 10);
    }

    private static void longestTexts() {
        Due.sentence("a FAULT at the last byte, and at the end, of a text of 500 bytes");
        reefFault(1, " ".repeat(499) + "#x");
        reefFault(1, " ".repeat(496) + "boat#");
        reefFault(1, " ".repeat(491) + "boat 1 1 #;".replace(" #;", "#,"));
        good(" ".repeat(491) + "boat 1 1;", 0);
        Due.sentence("a FAULT at the last byte, and at the end, of a text of 200 bytes");
        skyFault(1, " ".repeat(199) + "#x");
        skyFault(1, " ".repeat(197) + "ice#");
        goodSkies(" ".repeat(194) + "ice 9;", 9);
    }
}
