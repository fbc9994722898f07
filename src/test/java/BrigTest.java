/** Promises 22 to 27: say, forget, out, write, tear, judge. */
public final class BrigTest {
    private static final String FOUR = "boat 20 40;barrel 99;night 10;light plain 1 10 45 1;light leaky 1 10 62 1;light gas 1 0 7 1;light plain 20 10 30 1;";

    public static void main(String[] args) {
        saying();
        outBySayings();
        outWithoutSayings();
        outOutside();
        writing();
        judging();
        judgingFortyDays();
        judgingImages();
        Due.end("BrigTest");
    }

    private static void saying() {
        Counted x = Due.of(FOUR);
        for (int set : new int[] {16, 17, -1, Integer.MIN_VALUE, Integer.MAX_VALUE}) {
            Due.is("say(" + set + ", true)", x.say(set, true), Due.UNKNOWN);
            Due.is("say(" + set + ", false)", x.say(set, false), Due.UNKNOWN);
        }
        for (int i = 1; i <= 12; i++) {
            Due.is("say(" + (i + 3) + ")", x.say(i + 3, i % 2 == 0), i);
            Due.is("told(9)", x.told(9), i);
        }
        Due.is("say(1, true) with twelve", x.say(1, true), Due.FULL);
        Due.is("say(16, true) with twelve", x.say(16, true), Due.UNKNOWN);
        Due.is("forget()", x.forget(), 12);
        Due.is("forget() again", x.forget(), 0);
        Due.is("told(9)", x.told(9), 0);
        Due.is("say(15, true)", x.say(15, true), 1);
        Counted none = new Counted();
        Due.is("say(0, true) without lights", none.say(0, true), 1);
        Due.is("say(1, true) without lights", none.say(1, true), Due.UNKNOWN);
    }

    private static void outs(Counted x, int m, int e, int sets, int inAll, int inSome) {
        Due.is("out(" + m + ", " + e + ", 0)", x.out(m, e, 0), sets);
        Due.is("out(" + m + ", " + e + ", 1)", x.out(m, e, 1), inAll);
        Due.is("out(" + m + ", " + e + ", 2)", x.out(m, e, 2), inSome);
    }

    private static void outBySayings() {
        Counted x = Due.of(FOUR);
        x.say(3, true);
        // 0 and 1 burnt: only 2 and 3 may be out
        outs(x, 0, 0, 1, 0, 0);
        outs(x, 1, 0, 2, 0, 12);
        outs(x, 2, 0, 1, 12, 12);
        outs(x, 3, 0, 0, -1, -1);
        outs(x, 4, 0, 0, -1, -1);
        outs(x, 4, 1, 1, 15, 15);
        outs(x, 5, 12, 0, -1, -1);
        x.say(6, false);
        // 1 or 2 was out: with the other saying it was 2
        outs(x, 0, 0, 0, -1, -1);
        outs(x, 1, 0, 1, 4, 4);
        outs(x, 2, 0, 1, 12, 12);
        // one of them wrong: 2, or 1 against the first, or 3 against the second
        outs(x, 1, 1, 3, 0, 14);
        // 0 is wrong with both
        outs(x, 1, 2, 4, 0, 15);
        // the empty set: all of it burnt, none of it was out
        x.forget();
        x.say(0, true);
        outs(x, 1, 0, 4, 0, 15);
        x.say(0, false);
        outs(x, 1, 0, 0, -1, -1);
        outs(x, 1, 1, 4, 0, 15);
        // the same saying twice counts twice
        x.forget();
        x.say(1, true);
        x.say(1, true);
        outs(x, 4, 1, 0, -1, -1);
        outs(x, 4, 2, 1, 15, 15);
    }

    private static void outWithoutSayings() {
        Counted x = Due.of(FOUR);
        int[] sets = {1, 4, 6, 4, 1, 0, 0, 0, 0, 0};
        for (int m = 0; m <= 9; m++) {
            outs(x, m, 0, sets[m], m == 4 ? 15 : m < 4 ? 0 : -1, m == 0 ? 0 : m <= 4 ? 15 : -1);
        }
        // what is dark by days has no say in it
        x.go(50);
        outs(x, 2, 0, 6, 0, 15);
        outs(new Counted(), 0, 0, 1, 0, 0);
        outs(new Counted(), 1, 12, 0, -1, -1);
    }

    private static void outOutside() {
        Counted x = Due.of(FOUR);
        int low = Integer.MIN_VALUE;
        int high = Integer.MAX_VALUE;
        int[][] wrong = {{-1, 0, 0}, {10, 0, 0}, {low, 0, 0}, {high, 0, 0}, {0, -1, 0}, {0, 13, 0}, {0, low, 0}, {0, high, 0},
            {0, 0, -1}, {0, 0, 3}, {0, 0, low}, {0, 0, high}};
        for (int[] row : wrong) {
            Due.is("out(" + row[0] + ", " + row[1] + ", " + row[2] + ")", x.out(row[0], row[1], row[2]), Due.OUTSIDE);
        }
    }

    private static void writing() {
        Counted x = Due.of(FOUR);
        for (int i = 1; i <= 40; i++) {
            Due.is("write(1, " + i + ")", x.write(1, i % 2 == 0 ? 0 : 99999), i);
        }
        Due.is("write(1, 0) behind forty", x.write(1, 0), Due.FULL);
        Due.is("write(1, 100000) behind forty", x.write(1, 100000), Due.OUTSIDE);
        Due.is("write(0, 5): books are apart", x.write(0, 5), 1);
        Due.is("write(2, 5)", x.write(2, 5), 1);
        for (int oil : new int[] {-1, 100000, Integer.MIN_VALUE, Integer.MAX_VALUE}) {
            Due.is("write(0, " + oil + ")", x.write(0, oil), Due.OUTSIDE);
            Due.is("write(4, " + oil + ")", x.write(4, oil), Due.UNKNOWN);
        }
        for (int l : new int[] {-1, 4, Integer.MIN_VALUE, Integer.MAX_VALUE}) {
            Due.is("write(" + l + ", 0)", x.write(l, 0), Due.UNKNOWN);
            Due.is("tear(" + l + ")", x.tear(l), Due.UNKNOWN);
            Due.is("judge(" + l + ")", x.judge(l), Due.UNKNOWN);
        }
        Due.is("tear(1)", x.tear(1), 40);
        Due.is("tear(1) again", x.tear(1), 0);
        Due.is("tear(3) never written", x.tear(3), 0);
        Due.is("tear(0)", x.tear(0), 1);
        Due.is("write(1, 7)", x.write(1, 7), 1);
        Due.is("tear(2)", x.tear(2), 1);
    }

    private static void writeAll(Counted x, int l, int... oil) {
        for (int o : oil) {
            x.write(l, o);
        }
    }

    private static void judging() {
        Counted x = Due.of(FOUR);
        writeAll(x, 0, 35, 25, 14, 5);
        writeAll(x, 1, 47, 34, 22);
        writeAll(x, 2, 7, 7, 8);
        Due.is("judge(0): no day is over", x.judge(0), -1);
        x.go(2);
        Due.is("judge(0): two days are over, both are right", x.judge(0), -1);
        Due.is("judge(2)", x.judge(2), -1);
        x.go(1);
        Due.is("judge(0): the third day has 15", x.judge(0), 2);
        Due.is("judge(1): behind burning and leaking", x.judge(1), -1);
        Due.is("judge(2)", x.judge(2), 2);
        Due.is("judge(3): an empty book", x.judge(3), -1);
        x.go(1);
        Due.is("judge(0): the first day that is wrong", x.judge(0), 2);
        Due.is("judge(1): the book tells no fourth day", x.judge(1), -1);
        x.tear(0);
        writeAll(x, 0, 35, 25, 15, 5);
        Due.is("judge(0): written behind the days", x.judge(0), -1);
        x.tear(0);
        writeAll(x, 0, 0);
        Due.is("judge(0)", x.judge(0), 0);
        // filled by the boat on day 5 ahead of the night
        x.goal(0);
        x.go(2);
        x.tear(0);
        writeAll(x, 0, 35, 25, 15, 5, 35, 30);
        Due.is("judge(0) with a boat of 40 parts: 5 and 40, then 35 and none", x.judge(0), 5);
        x.tear(0);
        writeAll(x, 0, 35, 25, 15, 5, 35, 25);
        Due.is("judge(0)", x.judge(0), -1);
        x.begin();
        Due.is("judge(0) behind begin()", x.judge(0), -1);
        x.goal(0);
        x.go(4);
        Due.is("judge(0) on days lived anew", x.judge(0), -1);
        x.go(1);
        Due.is("judge(0): the boat had nothing", x.judge(0), 4);
    }

    private static void judgingFortyDays() {
        Counted x = Due.of("night 10;light plain 1 1 99 1;");
        for (int day = 0; day < 40; day++) {
            x.write(0, day == 39 ? 60 : 98 - day);
        }
        x.go(39);
        Due.is("judge(0) on day 39", x.judge(0), -1);
        x.go(1);
        Due.is("judge(0) on day 40", x.judge(0), 39);
        x.go(200);
        Due.is("judge(0) much later", x.judge(0), 39);
        x.tear(0);
        for (int day = 0; day < 40; day++) {
            x.write(0, 98 - day);
        }
        Due.is("judge(0) of an honest book", x.judge(0), -1);
    }

    private static void judgingImages() {
        Counted x = Due.of(FOUR);
        x.go(2);
        x.keep(0);
        x.begin();
        x.pour(40);
        x.goal(0);
        x.go(3);
        writeAll(x, 0, 35, 25, 15);
        // filled day by day: 35, 35, 35
        Due.is("judge(0) of days with a boat", x.judge(0), 1);
        x.goBack(0);
        Due.is("judge(0) of the image's days: the book stays, two days are over", x.judge(0), -1);
        x.go(1);
        Due.is("judge(0)", x.judge(0), -1);
    }
}
