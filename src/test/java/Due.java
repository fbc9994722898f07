import java.nio.charset.StandardCharsets;
import java.util.function.Supplier;
import java.util.function.ToLongFunction;

/** What the tests share: answers that are due, texts fed by eights, and what can be seen of an object. */
final class Due {
    static final int NONE = -1, UNKNOWN = -1000000001, OUTSIDE = -1000000002, NOT = -1000000003, FULL = -1000000004;
    static final int FAR_BELOW = Integer.MIN_VALUE, FAR_ABOVE = Integer.MAX_VALUE;

    private static String sentence = "";
    private static int asked = 0;
    private static int wrong = 0;

    /** The sentence of the document that the answers behind this are due by. */
    static void sentence(String words) {
        sentence = words;
    }

    private static void tellWrong(String words) {
        wrong++;
        System.out.println(sentence.isEmpty() ? words : "[" + sentence + "] " + words);
    }

    static void is(String call, long got, long want) {
        asked++;
        if (got != want) {
            tellWrong(call + " answered " + got + ", due is " + want);
        }
    }

    static void same(String call, String got, String want) {
        asked++;
        if (!got.equals(want)) {
            tellWrong(call + " gave\n  " + got + "\ndue is\n  " + want);
        }
    }

    static void differs(String what, String got, String other) {
        asked++;
        if (got.equals(other)) {
            tellWrong(what + " is the same and should not be:\n  " + got);
        }
    }

    /** The call is refused with this answer, and all is as with a twin on which it was not called. */
    static void refused(Supplier<Counted> recipe, String call, ToLongFunction<Counted> answer, long want) {
        Counted x = recipe.get();
        is(call, answer.applyAsLong(x), want);
        same("what is so behind the refused " + call, all(x), all(recipe.get()));
    }

    static int feed(Counted x, String text) {
        byte[] bytes = text.getBytes(StandardCharsets.ISO_8859_1);
        int answer = NONE;
        for (int from = 0; from < bytes.length; from += 8) {
            int n = Math.min(8, bytes.length - from);
            long packed = 0;
            for (int i = 0; i < n; i++) {
                packed = packed << 8 | bytes[from + i] & 255;
            }
            answer = x.feed(n, packed);
        }
        return answer;
    }

    static int reef(Counted x, String text) {
        feed(x, text);
        return x.reef();
    }

    static int skies(Counted x, String text) {
        feed(x, text);
        return x.skies();
    }

    /** A new object with this reef, which must be faultless. */
    static Counted of(String reef) {
        Counted x = new Counted();
        int answer = reef(x, reef);
        if (answer < 0) {
            is("reef() of " + reef, answer, 0);
        }
        return x;
    }

    static Counted of(String reef, String skies) {
        Counted x = of(reef);
        int answer = skies(x, skies);
        if (answer < 0) {
            is("skies() of " + skies, answer, 0);
        }
        return x;
    }

    /** Answers of told(0) to told(15). */
    static void tolds(String when, Counted x, long... due) {
        for (int what = 0; what < due.length; what++) {
            is("told(" + what + ") " + when, x.told(what), due[what]);
        }
    }

    /** Answers of light(l, from) and on. */
    static void lights(String when, Counted x, int l, int from, int... due) {
        for (int i = 0; i < due.length; i++) {
            is("light(" + l + ", " + (from + i) + ") " + when, x.light(l, from + i), due[i]);
        }
    }

    /** What IMAGES keep, as far as it shows without a change. */
    static String days(Counted x) {
        StringBuilder seen = new StringBuilder("days");
        for (int what : new int[] {3, 4, 5, 6, 7, 11, 12, 13, 14, 15}) {
            seen.append(' ').append(x.told(what));
        }
        long lights = x.told(0);
        for (int l = 0; l < lights; l++) {
            seen.append(" light ").append(l).append(':');
            for (int what = 5; what <= 8; what++) {
                seen.append(' ').append(x.light(l, what));
            }
            seen.append(" judged ").append(x.judge(l));
        }
        int seed = x.seed(0);
        x.seed(seed);
        return seen.append(" seed ").append(seed).toString();
    }

    /** What stands beside the days: the reef, the skies, sayings, the text's length, the fault. */
    static String frame(Counted x) {
        StringBuilder seen = new StringBuilder("frame");
        for (int what : new int[] {0, 1, 2, 8, 9, 10}) {
            seen.append(' ').append(x.told(what));
        }
        seen.append(" fault ").append(x.fault()).append(" skies ");
        for (int day = 0; day < 12; day++) {
            seen.append(x.sky(day));
        }
        seen.append(" odds");
        for (int i = 0; i < 9; i++) {
            seen.append(' ').append(x.odds(i / 3, i % 3));
        }
        long lights = x.told(0);
        for (int l = 0; l < lights; l++) {
            seen.append(" light ").append(l).append(':');
            for (int what = 0; what <= 4; what++) {
                seen.append(' ').append(x.light(l, what));
            }
        }
        seen.append(" out");
        for (int m = 0; m <= Math.min(lights, 3); m++) {
            for (int e = 0; e <= 2; e++) {
                seen.append(' ').append(x.out(m, e, 0)).append('/').append(x.out(m, e, 2));
            }
        }
        return seen.toString();
    }

    /** All that can be seen at all; the object is used up by it: days go on, images come back, the text is read. */
    static String all(Counted x) {
        StringBuilder seen = new StringBuilder(frame(x)).append(' ').append(days(x)).append(" tried");
        long lights = x.told(0);
        for (int l = 0; l < lights; l++) {
            seen.append(' ').append(x.lasts(l)).append('/').append(x.late(l));
        }
        for (int what = 0; what <= 3; what++) {
            seen.append(' ').append(x.round(2, what));
        }
        seen.append(" next day ").append(x.drift(1)).append(' ').append(days(x));
        for (int i = 0; i < 2; i++) {
            seen.append(" image ").append(i).append(": ").append(x.goBack(i)).append(' ').append(days(x));
            // the sky of the day ahead shows only in what is drawn next
            seen.append(" its next day ").append(x.drift(1)).append(' ').append(x.told(6));
        }
        for (int l = 0; l < lights; l++) {
            seen.append(" torn ").append(x.tear(l));
        }
        seen.append(" forgotten ").append(x.forget()).append(" text ").append(x.reef()).append(' ').append(x.fault());
        long read = x.told(0);
        for (int l = 0; l < read; l++) {
            seen.append(' ').append(x.light(l, 1)).append(' ').append(x.light(l, 4));
        }
        return seen.toString();
    }

    static void end(String name) {
        System.out.println(name + ": " + asked + " answers, " + wrong + " not as due");
        if (wrong != 0) {
            System.exit(1);
        }
    }
}
