/** Promises 22 to 27 and section 4, the brig and the books, at their edges. */
public final class BrigEdgeTest {
    private static final String THREE = "light plain 1 1 1 1;light plain 1 1 1 1;light plain 1 1 1 1;";

    public static void main(String[] args) {
        sayingsTillFull();
        sayingsOfSets();
        forgetting();
        seenBurning();
        notSeenBurning();
        emptySayings();
        justSoManyOut();
        atMostSoManyWrong();
        inAllAndInSome();
        outOfNine();
        outsAreNoDays();
        pagesTillFull();
        pagesOfOil();
        tearing();
        judgedDays();
        judgedAsItWas();
        judgedFortyDays();
        judgedNine();
        judgedAnew();
        booksAndImages();
        Due.end("BrigEdgeTest");
    }

    private static void out(Counted x, int m, int e, int sets, int inAll, int inSome) {
        Due.is("out(" + m + ", " + e + ", 0)", x.out(m, e, 0), sets);
        Due.is("out(" + m + ", " + e + ", 1)", x.out(m, e, 1), inAll);
        Due.is("out(" + m + ", " + e + ", 2)", x.out(m, e, 2), inSome);
    }

    // ---- promises 22 and 23

    private static void sayingsTillFull() {
        Due.sentence("Promise 22: a SAYING: how many; FULL (12)");
        Counted x = Due.of(THREE);
        for (int i = 1; i <= 12; i++) {
            Due.is("say(" + i % 8 + "), number " + i, x.say(i % 8, i % 2 == 0), i);
            Due.is("told(9)", x.told(9), i);
        }
        Due.is("say(1, true), number 13", x.say(1, true), Due.FULL);
        Due.is("told(9)", x.told(9), 12);
        Due.is("forget()", x.forget(), 12);
        Due.is("say(1, true) behind forget()", x.say(1, true), 1);
    }

    private static void sayingsOfSets() {
        Due.sentence("Promise 22: a SET of LIGHTS; UNKNOWN: bits of such [that there are not]");
        for (int lights = 0; lights <= 9; lights++) {
            Counted x = Due.of("light plain 1 1 1 1;".repeat(lights));
            int all = (1 << lights) - 1;
            Due.is("say(0, true) with " + lights, x.say(0, true), 1);
            Due.is("say(" + all + ", true) with " + lights, x.say(all, true), 2);
            Due.is("say(" + (all + 1) + ", true) with " + lights, x.say(all + 1, true), Due.UNKNOWN);
            Due.is("say(" + (2 * all + 1) + ", true) with " + lights, x.say(2 * all + 1, true), Due.UNKNOWN);
            Due.is("say(-1, true) with " + lights, x.say(-1, true), Due.UNKNOWN);
            Due.is("say(least, true) with " + lights, x.say(Due.FAR_BELOW, true), Due.UNKNOWN);
            Due.is("say(most, true) with " + lights, x.say(Due.FAR_ABOVE, true), Due.UNKNOWN);
            Due.is("told(9)", x.told(9), 2);
        }
    }

    private static void forgetting() {
        Due.sentence("Promise 23: no SAYINGS: how many there were");
        Counted x = Due.of(THREE);
        Due.is("forget() of none", x.forget(), 0);
        x.say(1, false);
        Due.is("forget() of one", x.forget(), 1);
        Due.is("told(9)", x.told(9), 0);
        out(x, 0, 0, 1, 0, 0);
        Due.is("forget() again", x.forget(), 0);
    }

    // ---- promise 24

    private static void seenBurning() {
        Due.sentence("whether all of it were seen burning: wrong, if one of it was out");
        Counted x = Due.of(THREE);
        x.say(3, true);
        out(x, 0, 0, 1, 0, 0);
        out(x, 1, 0, 1, 4, 4);
        out(x, 2, 0, 0, -1, -1);
        out(x, 3, 0, 0, -1, -1);
    }

    private static void notSeenBurning() {
        Due.sentence("or at least one of it was not: wrong, if none of it was out");
        Counted x = Due.of(THREE);
        x.say(3, false);
        out(x, 0, 0, 0, -1, -1);
        out(x, 1, 0, 2, 0, 3);
        out(x, 2, 0, 3, 0, 7);
        out(x, 3, 0, 1, 7, 7);
        x.forget();
        x.say(7, false);
        out(x, 0, 0, 0, -1, -1);
        out(x, 1, 0, 3, 0, 7);
    }

    private static void emptySayings() {
        Due.sentence("a SAYING of the empty SET: burning is never wrong, not burning always is");
        Counted x = Due.of(THREE);
        x.say(0, true);
        out(x, 0, 0, 1, 0, 0);
        out(x, 3, 0, 1, 7, 7);
        x.forget();
        x.say(0, false);
        for (int m = 0; m <= 3; m++) {
            Due.is("out(" + m + ", 0, 0)", x.out(m, 0, 0), 0);
        }
        out(x, 0, 1, 1, 0, 0);
        out(x, 3, 1, 1, 7, 7);
    }

    private static void justSoManyOut() {
        Due.sentence("OUT: SETS of just m LIGHTS that were out (of all LIGHTS), m 0 .. 9");
        Counted x = Due.of(THREE);
        out(x, 0, 0, 1, 0, 0);
        out(x, 1, 0, 3, 0, 7);
        out(x, 2, 0, 3, 0, 7);
        out(x, 3, 0, 1, 7, 7);
        for (int m = 4; m <= 9; m++) {
            out(x, m, 12, 0, -1, -1);
        }
        Due.sentence("OUT without LIGHTS");
        out(new Counted(), 0, 0, 1, 0, 0);
        out(new Counted(), 1, 0, 0, -1, -1);
        out(new Counted(), 9, 12, 0, -1, -1);
    }

    private static void atMostSoManyWrong() {
        Due.sentence("with which at most e SAYINGS are wrong, e 0 .. 12");
        Counted x = Due.of("light plain 1 1 1 1;");
        for (int said = 1; said <= 12; said++) {
            x.say(1, true);
            // all that was said is wrong, if the LIGHT was out
            Due.is("out(1, " + said + ", 0) of " + said, x.out(1, said, 0), 1);
            Due.is("out(1, " + (said - 1) + ", 0) of " + said, x.out(1, said - 1, 0), 0);
            Due.is("out(0, 0, 0) of " + said, x.out(0, 0, 0), 1);
        }
        out(x, 1, 12, 1, 1, 1);
        out(x, 1, 11, 0, -1, -1);
        Due.sentence("with which at most e SAYINGS are wrong: fewer, too");
        Counted y = Due.of(THREE);
        y.say(1, true);
        y.say(2, true);
        y.say(4, false);
        out(y, 1, 0, 1, 4, 4);
        out(y, 1, 1, 1, 4, 4);
        // with 1 or 2 out: one of those is wrong, and that of 4
        out(y, 1, 2, 3, 0, 7);
        out(y, 2, 0, 0, -1, -1);
        out(y, 2, 1, 2, 4, 7);
        out(y, 2, 3, 3, 0, 7);
    }

    private static void inAllAndInSome() {
        Due.sentence("Promise 24: 1 LIGHTS in all of them, 2 in some (SETS; NONE, if there is none)");
        Counted x = Due.of("light plain 1 1 1 1;".repeat(4));
        x.say(1, false);
        x.say(8, true);
        // 0 was out, 3 was not
        out(x, 1, 0, 1, 1, 1);
        out(x, 2, 0, 2, 1, 7);
        out(x, 3, 0, 1, 7, 7);
        out(x, 4, 0, 0, -1, -1);
        Due.sentence("Promise 24: the empty SET alone: nothing in all, nothing in some, and not NONE");
        Counted y = Due.of(THREE);
        y.say(7, true);
        out(y, 0, 0, 1, 0, 0);
    }

    private static void outOfNine() {
        Due.sentence("OUT of nine LIGHTS");
        Counted x = Due.of("light plain 1 1 1 1;".repeat(9));
        int[] sets = {1, 9, 36, 84, 126, 126, 84, 36, 9, 1};
        for (int m = 0; m <= 9; m++) {
            out(x, m, 0, sets[m], m == 9 ? 511 : 0, m == 0 ? 0 : 511);
        }
        x.say(256, false);
        x.say(255, true);
        out(x, 1, 0, 1, 256, 256);
        out(x, 9, 1, 1, 511, 511);
    }

    private static void outsAreNoDays() {
        Due.sentence("OUT: by SAYINGS alone: which LIGHTS are DARK by DAYS has no say in it");
        Counted x = Due.of("light plain 1 10 0 1;".repeat(3));
        Due.is("go(5)", x.go(5), 7);
        out(x, 1, 0, 3, 0, 7);
        out(x, 0, 0, 1, 0, 0);
    }

    // ---- promises 25 and 26

    private static void pagesTillFull() {
        Due.sentence("Promise 25: a DAY of THE BOOK of a LIGHT: how many it has; FULL (40)");
        Counted x = Due.of(THREE);
        for (int i = 1; i <= 40; i++) {
            Due.is("write(1, 5), number " + i, x.write(1, 5), i);
        }
        Due.is("write(1, 5), number 41", x.write(1, 5), Due.FULL);
        Due.is("write(0, 5): THE BOOK of another LIGHT is empty", x.write(0, 5), 1);
        Due.is("write(2, 5)", x.write(2, 5), 1);
        Due.is("tear(1)", x.tear(1), 40);
        Due.is("write(1, 5) behind tear(1)", x.write(1, 5), 1);
        Due.sentence("Promise 25: BOOKS of nine LIGHTS, all full");
        Counted y = Due.of("light plain 1 1 9 1;".repeat(9));
        for (int l = 0; l < 9; l++) {
            for (int i = 0; i < 40; i++) {
                y.write(l, 9);
            }
        }
        for (int l = 0; l < 9; l++) {
            Due.is("write(" + l + ", 9)", y.write(l, 9), Due.FULL);
        }
        y.go(2);
        // 9, then 8: the second page of each is wrong already on DAY 0
        for (int l = 0; l < 9; l++) {
            Due.is("judge(" + l + ")", y.judge(l), 0);
            Due.is("tear(" + l + ")", y.tear(l), 40);
        }
    }

    private static void pagesOfOil() {
        Due.sentence("Promise 25: OUTSIDE (0 .. 99999)");
        Counted x = Due.of("light plain 1 0 999 1;");
        Due.is("write(0, 0)", x.write(0, 0), 1);
        Due.is("write(0, 99999)", x.write(0, 99999), 2);
        Due.is("write(0, -1)", x.write(0, -1), Due.OUTSIDE);
        Due.is("write(0, 100000)", x.write(0, 100000), Due.OUTSIDE);
        Due.is("tear(0)", x.tear(0), 2);
        x.write(0, 999);
        x.write(0, 99999);
        x.go(2);
        Due.is("judge(0): 99999 is more than it ever had", x.judge(0), 1);
    }

    private static void tearing() {
        Due.sentence("Promise 26: THE BOOK of a LIGHT is empty: how many DAYS it had");
        Counted x = Due.of(THREE);
        Due.is("tear(0) of an empty one", x.tear(0), 0);
        x.write(0, 7);
        x.write(0, 7);
        x.write(1, 7);
        x.go(1);
        Due.is("judge(0)", x.judge(0), 0);
        Due.is("tear(0)", x.tear(0), 2);
        Due.is("judge(0): nothing is written", x.judge(0), -1);
        Due.is("tear(0) again", x.tear(0), 0);
        Due.is("tear(1): the other one is whole", x.tear(1), 1);
        Due.is("tear(2), the last", x.tear(2), 0);
        Due.is("write(0, 0): from DAY 0 on again", x.write(0, 0), 1);
        Due.is("judge(0): 1 less 1 behind the night of DAY 0", x.judge(0), -1);
    }

    // ---- promise 27

    private static Counted book(String reef, int... pages) {
        Counted x = Due.of(reef);
        for (int oil : pages) {
            x.write(0, oil);
        }
        return x;
    }

    private static void judgedDays() {
        String reef = "night 10;light plain 5 10 50 1;";
        Due.sentence("WRONG: the first DAY (of those that are over)");
        Counted x = book(reef, 41, 30, 21, 10);
        Due.is("judge(0): none is over", x.judge(0), -1);
        x.go(1);
        Due.is("judge(0): DAY 0 is over", x.judge(0), 0);
        x.go(3);
        Due.is("judge(0): the first of two", x.judge(0), 0);
        Counted y = book(reef, 40, 30, 20, 11);
        y.go(3);
        Due.is("judge(0): DAY 3 is not over", y.judge(0), -1);
        y.go(1);
        Due.is("judge(0): DAY 3 is over", y.judge(0), 3);
        y.go(5);
        Due.is("judge(0): later DAYS are not written", y.judge(0), 3);
        Due.sentence("WRONG: NONE: all DAYS right, no DAY written, more DAYS over than written");
        Counted z = book(reef, 40, 30);
        z.go(2);
        Due.is("judge(0)", z.judge(0), -1);
        z.go(9);
        Due.is("judge(0)", z.judge(0), -1);
        Counted empty = book(reef);
        empty.go(9);
        Due.is("judge(0) of an empty BOOK", empty.judge(0), -1);
        Due.sentence("WRONG: a part more, a part less");
        for (int oil : new int[] {39, 41, 0, 99999}) {
            Counted w = book(reef, oil);
            w.go(1);
            Due.is("judge(0) of " + oil, w.judge(0), 0);
        }
    }

    private static void judgedAsItWas() {
        Due.sentence("how much oil it had behind the night: behind filling, burning and leaking");
        Counted x = Due.of("boat 10 40;barrel 40;night 10;light leaky 5 10 50 1;");
        x.pour(40);
        x.goal(0);
        // 40, 36; filled to 50: 40, 36; again
        for (int oil : new int[] {36, 36, 36, 23}) {
            x.write(0, oil);
        }
        x.go(3);
        Due.is("judge(0)", x.judge(0), -1);
        Due.is("told(13): 14 and 14 were given", x.told(13), 12);
        x.go(1);
        // 36 and 12 are 48: 38 behind burning, 35 behind leaking
        Due.is("judge(0)", x.judge(0), 3);
        Due.is("light(0, 5)", x.light(0, 5), 35);
        Due.sentence("how much oil it had: of DARK LIGHTS too, and by DRIFT");
        Counted y = Due.of("odds 0 0 100 0 0 100 0 0 100;night 10;light floating 5 10 15 1;light plain 5 10 15 1;");
        for (int oil : new int[] {15, 15, 15}) {
            y.write(0, oil);
        }
        for (int oil : new int[] {5, 0, 0}) {
            y.write(1, oil);
        }
        y.drift(3);
        Due.is("judge(0): ice on all days", y.judge(0), -1);
        Due.is("judge(1)", y.judge(1), -1);
    }

    private static void judgedFortyDays() {
        Due.sentence("THE BOOK tells for DAYS from 0 on (40 at most)");
        Counted x = Due.of("night 10;light plain 5 1 99 1;light plain 5 1 99 1;");
        for (int day = 0; day < 40; day++) {
            x.write(0, day == 39 ? 58 : 98 - day);
            x.write(1, 98 - day);
        }
        x.go(39);
        Due.is("judge(0) on DAY 39", x.judge(0), -1);
        x.go(1);
        Due.is("judge(0) on DAY 40", x.judge(0), 39);
        Due.is("judge(1) on DAY 40", x.judge(1), -1);
        x.go(200);
        Due.is("judge(0) on DAY 240", x.judge(0), 39);
        Due.is("judge(1) on DAY 240", x.judge(1), -1);
        x.tear(0);
        x.write(0, 98);
        x.write(0, 98);
        Due.is("judge(0): written when all is over", x.judge(0), 1);
    }

    private static void judgedNine() {
        Due.sentence("THE BOOK of a LIGHT: the first and the last of nine have pages of their own");
        StringBuilder nine = new StringBuilder("night 10;");
        for (int l = 0; l < 9; l++) {
            nine.append("light plain 5 ").append(l + 1).append(" 99 1;");
        }
        Counted x = Due.of(nine.toString());
        for (int day = 0; day < 6; day++) {
            for (int l = 0; l < 9; l++) {
                x.write(l, 99 - (l + 1) * (day + 1) + (day == 5 ? 1 : 0));
            }
        }
        for (int day = 1; day <= 7; day++) {
            x.go(1);
            for (int l = 0; l < 9; l++) {
                Due.is("judge(" + l + ") on DAY " + day, x.judge(l), day < 6 ? -1 : 5);
            }
        }
    }

    private static void judgedAnew() {
        Due.sentence("other than it was: on the DAYS of now, when they are lived anew");
        Counted x = book("boat 10 40;barrel 40;night 10;light plain 5 10 50 1;", 40, 30);
        x.go(2);
        Due.is("judge(0)", x.judge(0), -1);
        x.begin();
        Due.is("judge(0) on DAY 0 again", x.judge(0), -1);
        x.pour(40);
        x.goal(0);
        x.go(1);
        Due.is("judge(0)", x.judge(0), -1);
        x.go(1);
        Due.is("judge(0): filled on DAY 1", x.judge(0), 1);
        Due.sentence("BOOKS are gone with the reef");
        Due.reef(x, "light plain 5 10 50 1;");
        Due.is("tear(0)", x.tear(0), 0);
    }

    private static void booksAndImages() {
        Due.sentence("IMAGES keep what was each DAY; BOOKS stay as they are");
        Counted x = book("boat 10 40;barrel 40;night 10;light plain 5 10 50 1;", 40, 30, 20);
        x.go(1);
        x.keep(0);
        x.pour(40);
        x.goal(0);
        x.go(2);
        Due.is("judge(0): filled on DAY 1", x.judge(0), 1);
        x.keep(1);
        x.goBack(0);
        Due.is("judge(0): one DAY is over", x.judge(0), -1);
        x.go(2);
        Due.is("judge(0): lived without THE BOAT", x.judge(0), -1);
        x.goBack(1);
        Due.is("judge(0): what was each DAY comes back", x.judge(0), 1);
        Due.is("tear(0)", x.tear(0), 3);
        x.goBack(0);
        Due.is("tear(0): THE BOOK is torn, whatever the IMAGE", x.tear(0), 0);
    }
}
