import java.nio.charset.StandardCharsets;
import java.util.function.LongSupplier;

/** What the tests share: answers that are due, texts fed by eights, and all that can be seen of an object. */
final class Due {
    static final int UNKNOWN = -1000000001, OUTSIDE = -1000000002, NOT = -1000000003, FULL = -1000000004;

    private static int asked = 0;
    private static int wrong = 0;

    static void is(String call, long got, long want) {
        asked++;
        if (got != want) {
            wrong++;
            System.out.println(call + " answered " + got + ", due is " + want);
        }
    }

    static void same(String call, String got, String want) {
        asked++;
        if (!got.equals(want)) {
            wrong++;
            System.out.println(call + " gave\n  " + got + "\ndue is\n  " + want);
        }
    }

    /** The call is refused with this answer and changes nothing. */
    static void refused(ReefLights x, String call, LongSupplier answer, long want) {
        String before = allSeen(x);
        is(call, answer.getAsLong(), want);
        same("what is so behind the refused " + call, allSeen(x), before);
    }

    static int feed(ReefLights x, String text) {
        byte[] bytes = text.getBytes(StandardCharsets.ISO_8859_1);
        int answer = (int) x.told(8);
        for (int from = 0; from < bytes.length; from += 8) {
            int n = Math.min(8, bytes.length - from);
            long packed = 0;
            for (int i = 0; i < n; i++) {
                packed = packed << 8 | bytes[from + i] & 255;
            }
            answer = x.feed(n, packed);
        }
        return answer;
    }

    static int reef(ReefLights x, String text) {
        feed(x, text);
        return x.reef();
    }

    static int skies(ReefLights x, String text) {
        feed(x, text);
        return x.skies();
    }

    /** A new object with this reef, which must be faultless. */
    static ReefLights of(String reef) {
        ReefLights x = new ReefLights();
        int answer = reef(x, reef);
        if (answer < 0) {
            is("reef() of " + reef, answer, 0);
        }
        return x;
    }

    static ReefLights of(String reef, String skies) {
        ReefLights x = of(reef);
        int answer = skies(x, skies);
        if (answer < 0) {
            is("skies() of " + skies, answer, 0);
        }
        return x;
    }

    static String allSeen(ReefLights x) {
        StringBuilder seen = new StringBuilder("told");
        for (int what = 0; what <= 15; what++) {
            seen.append(' ').append(x.told(what));
        }
        seen.append(" fault ").append(x.fault());
        int seed = x.seed(0);
        x.seed(seed);
        seen.append(" seed ").append(seed).append(" skies");
        for (int day = 0; day < 40; day++) {
            seen.append(x.sky(day));
        }
        seen.append(" odds");
        for (int i = 0; i < 9; i++) {
            seen.append(' ').append(x.odds(i / 3, i % 3));
        }
        for (int l = 0; l < x.told(0); l++) {
            seen.append(" light ").append(l).append(':');
            for (int what = 0; what <= 8; what++) {
                seen.append(' ').append(x.light(l, what));
            }
            seen.append(" judged ").append(x.judge(l)).append(" lasts ").append(x.lasts(l)).append(" late ").append(x.late(l));
        }
        seen.append(" out");
        for (int m = 0; m <= 9; m++) {
            for (int e = 0; e <= 2; e++) {
                seen.append(' ').append(x.out(m, e, 0)).append('/').append(x.out(m, e, 2));
            }
        }
        return seen.toString();
    }

    static void end(String name) {
        System.out.println(name + ": " + asked + " answers, " + wrong + " not as due");
        if (wrong != 0) {
            System.exit(1);
        }
    }
}
