import java.lang.management.ManagementFactory;
import java.lang.reflect.Array;
import java.lang.reflect.Field;
import java.lang.reflect.Modifier;
import java.util.Collections;
import java.util.IdentityHashMap;
import java.util.Random;
import java.util.Set;

/** All calls of a run live in one room: calls make nothing, new objects are small; and no call ever throws. */
public final class RoomTest {
    private static final String NINE = "boat 7 99;barrel 999;hens 9 2;night 9,10,24;odds 33 33 34 13 29 58 7 7 86;"
        + "light plain 99 9 999 9;light double 88 9 999 9;light leaky 77 9 999 9;light floating 66 0 999 9;light gas 55 9 9 9;"
        + "light plain 44 0 999 9;light plain 33 9 99 9;light plain 22 9 99 9;light leaky 11 9 99 9;";

    public static void main(String[] args) throws Exception {
        newObjects();
        dearestCalls();
        wildCalls();
        Due.end("RoomTest");
    }

    private static long made() {
        return ((com.sun.management.ThreadMXBean) ManagementFactory.getThreadMXBean()).getThreadAllocatedBytes(Thread.currentThread().getId());
    }

    private static void newObjects() throws IllegalAccessException {
        new ReefLights();
        long before = made();
        for (int i = 0; i < 100; i++) {
            new ReefLights().told(0);
        }
        long each = (made() - before) / 100;
        Due.is("bytes of a new object are below 20000 (" + each + ")", each < 20000 ? 1 : 0, 1);
        Set<Object> seen = Collections.newSetFromMap(new IdentityHashMap<>());
        long parts = count(new ReefLights(), seen);
        // the room has 600,000 objects and 7.3 million fields and elements: a thousand of ours take less than half
        Due.is("objects and arrays of a new object are below 150 (" + seen.size() + ")", seen.size() < 150 ? 1 : 0, 1);
        Due.is("fields and elements of a new object are below 3650 (" + parts + ")", parts < 3650 ? 1 : 0, 1);
    }

    /** Fields and elements of all that hangs on an object; each object is counted once. */
    private static long count(Object o, Set<Object> seen) throws IllegalAccessException {
        if (o == null || !seen.add(o)) {
            return 0;
        }
        long parts = 0;
        if (o.getClass().isArray()) {
            parts = Array.getLength(o);
            for (int i = 0; i < Array.getLength(o) && !o.getClass().getComponentType().isPrimitive(); i++) {
                parts += count(Array.get(o, i), seen);
            }
            return parts;
        }
        for (Field f : o.getClass().getDeclaredFields()) {
            if (!Modifier.isStatic(f.getModifiers())) {
                parts++;
                f.setAccessible(true);
                parts += f.getType().isPrimitive() ? 0 : count(f.get(o), seen);
            }
        }
        return parts;
    }

    private static void dearestCalls() {
        Counted x = new Counted();
        long[] reef = packed(NINE);
        long[] skies = packed("rough 5; fine 9; ice 3; rough 1;");
        callEach(x, reef, skies);
        long before = made();
        long byMeasuring = made() - before;
        before = made();
        for (int i = 0; i < 4; i++) {
            callEach(x, reef, skies);
        }
        long all = made() - before - byMeasuring;
        // one smallest object in each of the four rows would be 64 bytes
        Due.is("bytes that four rows of all calls make are below 64 (" + all + ")", all < 64 ? 1 : 0, 1);
        // these calls are dear only if the reef and the skies were taken
        Due.is("lights of the dear calls", x.told(0), 9);
        Due.is("days of skies of the dear calls", x.told(10), 18);
    }

    /** Longs of eight bytes, filled up with blanks: made ahead, so that nothing but the program is measured. */
    private static long[] packed(String text) {
        long[] row = new long[(text.length() + 7) / 8];
        for (int i = 0; i < 8 * row.length; i++) {
            row[i / 8] = row[i / 8] << 8 | (i < text.length() ? text.charAt(i) : ' ');
        }
        return row;
    }

    private static void callEach(Counted x, long[] reef, long[] skies) {
        for (long bytes : reef) {
            x.feed(8, bytes);
        }
        x.reef();
        for (long bytes : skies) {
            x.feed(8, bytes);
        }
        x.skies();
        x.feed(8, skies[0]);
        x.feed(1, '?');
        x.reef();
        x.fault();
        x.wick(8, true);
        x.go(20);
        x.goal(8);
        x.drift(20);
        x.begin();
        x.pour(5);
        x.round(4, 5);
        x.darken(500, 99);
        x.lasts(5);
        x.late(5);
        x.store(0, 999);
        x.comes(0, 1, 60);
        x.say(5, true);
        x.out(4, 3, 1);
        x.write(3, 4);
        x.judge(3);
        x.tear(3);
        x.seed(5);
        x.keep(1);
        x.goBack(1);
        x.forget();
        x.light(8, 5);
        x.sky(17);
        x.odds(2, 2);
        x.told(3);
    }

    private static int wild(Random random) {
        switch (random.nextInt(6)) {
            case 0: return random.nextInt();
            case 1: return Integer.MIN_VALUE + random.nextInt(2);
            case 2: return Integer.MAX_VALUE - random.nextInt(2);
            case 3: return -1;
            default: return random.nextInt(12);
        }
    }

    /** Arguments from everywhere in every state; whatever is thrown ends the test with an error. */
    private static void wildCalls() {
        for (int run = 0; run < 300; run++) {
            Random random = new Random(run);
            Counted x = run % 3 == 0 ? new Counted() : run % 3 == 1 ? Due.of(NINE) : Due.of("boat 1 1;barrel 0;odds 0 0 100 0 0 100 0 0 100;light leaky 99 99 0 99;");
            for (int i = 0; i < 460; i++) {
                wildCall(x, random);
            }
            Due.is("told(16) is still answered", x.told(16), Due.OUTSIDE);
        }
    }

    private static void wildCall(Counted x, Random random) {
        int a = wild(random);
        int b = wild(random);
        int c = wild(random);
        boolean is = random.nextBoolean();
        switch (random.nextInt(29)) {
            case 0: x.feed(a, random.nextLong()); break;
            case 1: if (random.nextInt(9) == 0) x.reef(); break;
            case 2: x.skies(); break;
            case 3: x.fault(); break;
            case 4: x.told(a); break;
            case 5: x.light(a, b); break;
            case 6: x.sky(a); break;
            case 7: x.odds(a, b); break;
            case 8: x.goal(a); break;
            case 9: x.wick(a, is); break;
            case 10: x.go(is ? 200 : a); break;
            case 11: x.drift(is ? 200 : a); break;
            case 12: x.pour(a); break;
            case 13: if (random.nextInt(9) == 0) x.begin(); break;
            case 14: x.round(is ? 2 : a, b); break;
            case 15: x.darken(a, b); break;
            case 16: x.lasts(a); break;
            case 17: x.late(a); break;
            case 18: x.store(a, b); break;
            case 19: x.comes(a, b, c); break;
            case 20: x.say(a, is); break;
            case 21: x.forget(); break;
            case 22: x.out(a, b, c); break;
            case 23: x.write(a, b); break;
            case 24: x.tear(a); break;
            case 25: x.judge(a); break;
            case 26: x.seed(a); break;
            case 27: x.keep(a); break;
            default: x.goBack(a); break;
        }
    }
}
