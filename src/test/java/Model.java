import java.util.ArrayList;
import java.util.Arrays;
import java.util.HashMap;
import java.util.List;
import java.util.Map;
import java.util.TreeMap;

/**
 * A second reading of the document, written apart from the program and without any care for room or speed:
 * texts are cut into tokens first, days are played on copies, rounds and sets are tried one by one.
 */
final class Model {
    static final int NONE = -1, UNKNOWN = -1000000001, OUTSIDE = -1000000002, NOT = -1000000003, FULL = -1000000004;
    static final List<String> KINDS = List.of("plain", "double", "leaky", "floating", "gas");
    static final List<String> SKY_WORDS = List.of("fine", "rough", "ice");

    static final class Lamp implements Cloneable {
        int kind, p, b, c, w;
    }

    static final class Told {
        List<Lamp> lamps = new ArrayList<>();
        int v = 20, s = 50, q = 500, h = 0, e = 10;
        List<Integer> nights = new ArrayList<>(List.of(12));
        int[][] odds = {{100, 0, 0}, {0, 100, 0}, {0, 0, 100}};
    }

    static final class World {
        int[] oil, wick, dark, darkAll;
        int barrel, eggs, at, cargo, goal = NONE, day, lastSky;
        long harm, breaches, lost, got, seed;
        List<int[]> was = new ArrayList<>();

        World copy() {
            World o = new World();
            o.oil = oil.clone();
            o.wick = wick.clone();
            o.dark = dark.clone();
            o.darkAll = darkAll.clone();
            o.barrel = barrel;
            o.eggs = eggs;
            o.at = at;
            o.cargo = cargo;
            o.goal = goal;
            o.day = day;
            o.lastSky = lastSky;
            o.harm = harm;
            o.breaches = breaches;
            o.lost = lost;
            o.got = got;
            o.seed = seed;
            o.was = new ArrayList<>(was);
            return o;
        }
    }

    static final class Fault extends RuntimeException {
        final int number, where;

        Fault(int number, int where) {
            this.number = number;
            this.where = where;
        }
    }

    record Token(char type, String text, int where) { }

    StringBuilder text = new StringBuilder();
    Told told = new Told();
    World w = fresh(0);
    List<Integer> skies = new ArrayList<>();
    int fault = NONE;
    List<int[]> sayings = new ArrayList<>();
    Map<Integer, List<Integer>> books = new HashMap<>();
    World[] images = new World[2];

    World fresh(long seed) {
        World o = new World();
        int n = told.lamps.size();
        o.oil = new int[n];
        for (int i = 0; i < n; i++) {
            o.oil[i] = told.lamps.get(i).c;
        }
        o.wick = new int[n];
        o.dark = new int[n];
        o.darkAll = new int[n];
        o.barrel = told.q;
        o.seed = seed;
        return o;
    }

    // ---- texts

    int feed(int n, long bytes) {
        if (n < 1 || n > 8) return OUTSIDE;
        if (text.length() + n > 500) return FULL;
        for (int i = 8 - n; i < 8; i++) text.append((char) (java.nio.ByteBuffer.allocate(8).putLong(bytes).array()[i] & 255));
        return text.length();
    }

    static List<Token> tokens(String t) {
        List<Token> all = new ArrayList<>();
        java.util.regex.Matcher m = java.util.regex.Pattern.compile("[a-z]+|[0-9]+| +|(?s:.)").matcher(t);
        while (m.find()) {
            String g = m.group();
            char c = g.charAt(0);
            if (c == ' ') continue;
            char type = c >= 'a' && c <= 'z' ? 'w' : c >= '0' && c <= '9' ? 'n' : 's';
            all.add(new Token(type, g, m.start()));
        }
        all.add(new Token('e', "", t.length()));
        return all;
    }

    static int number(Token t, int low, int high) {
        if (t.type != 'n') throw new Fault(1, t.where);
        if (t.text.length() > 4) throw new Fault(2, t.where);
        int v = Integer.parseInt(t.text);
        if (v < low || v > high) throw new Fault(2, t.where);
        return v;
    }

    static void sign(Token t, String s) {
        if (t.type != 's' || !t.text.equals(s)) throw new Fault(1, t.where);
    }

    static Told readReef(String t) {
        List<Token> k = tokens(t);
        Told r = new Told();
        List<String> seen = new ArrayList<>();
        int i = 0;
        while (k.get(i).type != 'e') {
            Token head = k.get(i++);
            if (head.type != 'w' || !List.of("light", "boat", "barrel", "hens", "night", "odds").contains(head.text)) throw new Fault(1, head.where);
            if (!head.text.equals("light") && seen.contains(head.text)) throw new Fault(3, head.where);
            seen.add(head.text);
            if (head.text.equals("light")) {
                if (r.lamps.size() == 9) throw new Fault(3, head.where);
                Lamp a = new Lamp();
                Token kind = k.get(i++);
                a.kind = kind.type == 'w' ? KINDS.indexOf(kind.text) : -1;
                if (a.kind < 0) throw new Fault(1, kind.where);
                a.p = number(k.get(i++), 0, 99);
                a.b = number(k.get(i++), 0, 99);
                a.c = number(k.get(i++), 0, 999);
                a.w = number(k.get(i++), 0, 99);
                r.lamps.add(a);
            } else if (head.text.equals("boat")) {
                r.v = number(k.get(i++), 1, 99);
                r.s = number(k.get(i++), 1, 999);
            } else if (head.text.equals("barrel")) {
                r.q = number(k.get(i++), 0, 9999);
            } else if (head.text.equals("hens")) {
                r.h = number(k.get(i++), 0, 99);
                r.e = number(k.get(i++), 1, 99);
            } else if (head.text.equals("night")) {
                r.nights.clear();
                r.nights.add(number(k.get(i++), 1, 24));
                while (k.get(i).text.equals(",")) {
                    i++;
                    int n = number(k.get(i), 1, 24);
                    if (r.nights.size() == 12) throw new Fault(3, k.get(i).where);
                    r.nights.add(n);
                    i++;
                }
            } else {
                for (int a = 0; a < 3; a++) {
                    for (int b = 0; b < 3; b++) r.odds[a][b] = number(k.get(i++), 0, 100);
                    if (r.odds[a][0] + r.odds[a][1] + r.odds[a][2] != 100) throw new Fault(4, k.get(i - 1).where);
                }
            }
            sign(k.get(i++), ";");
        }
        return r;
    }

    int reef() {
        String t = text.toString();
        text.setLength(0);
        try {
            told = readReef(t);
        } catch (Fault f) {
            fault = f.where;
            return -10 - f.number;
        }
        fault = NONE;
        sayings.clear();
        books.clear();
        images = new World[2];
        w = fresh(w.seed);
        return told.lamps.size();
    }

    int skies() {
        if (text.length() > 200) return NOT;
        List<Token> k = tokens(text.toString());
        text.setLength(0);
        List<Integer> days = new ArrayList<>();
        int clauses = 0;
        try {
            for (int i = 0; k.get(i).type != 'e'; i += 3) {
                int s = k.get(i).type == 'w' ? SKY_WORDS.indexOf(k.get(i).text) : -1;
                if (s < 0) throw new Fault(1, k.get(i).where);
                if (++clauses > 30) throw new Fault(3, k.get(i).where);
                int n = number(k.get(i + 1), 1, 99);
                sign(k.get(i + 2), ";");
                for (int d = 0; d < n; d++) days.add(s);
            }
        } catch (Fault f) {
            fault = f.where;
            return -10 - f.number;
        }
        fault = NONE;
        skies = days;
        return days.size();
    }

    int fault() {
        return fault;
    }

    long told(int what) {
        if (what < 0 || what > 15) return OUTSIDE;
        return new long[] {told.lamps.size(), told.v, told.s, w.barrel, w.eggs, w.day, w.harm, w.breaches, text.length(),
            sayings.size(), skies.size(), w.lost, w.at, w.cargo, w.goal, w.got}[what];
    }

    boolean no(int l) {
        return l < 0 || l >= told.lamps.size();
    }

    int light(int l, int what) {
        if (no(l)) return UNKNOWN;
        if (what < 0 || what > 8) return OUTSIDE;
        Lamp a = told.lamps.get(l);
        return new int[] {a.kind, a.p, a.b, a.c, a.w, w.oil[l], w.wick[l], w.dark[l], w.darkAll[l]}[what];
    }

    int skyTold(int day) {
        return day < skies.size() ? skies.get(day) : 0;
    }

    int sky(int day) {
        return day < 0 || day > 9999 ? OUTSIDE : skyTold(day);
    }

    int odds(int i, int j) {
        return i < 0 || i > 2 || j < 0 || j > 2 ? UNKNOWN : told.odds[i][j];
    }

    // ---- days

    int goal(int l) {
        if (l != NONE && no(l)) return UNKNOWN;
        int was = w.goal;
        w.goal = l;
        return was;
    }

    int wick(int l, boolean is) {
        if (no(l)) return UNKNOWN;
        int was = w.wick[l];
        w.wick[l] = is ? 1 : 0;
        return was;
    }

    int needs(Lamp a, int day, int sky, boolean halved) {
        int hours = told.nights.get(day / 10 % told.nights.size());
        int need = a.b * hours / 10;
        if (a.kind == 1) need = need + need;
        if (halved && sky == 0) need = need / 2;
        if (a.kind == 4) need = 0;
        if (a.kind == 3 && sky == 2) need = 0;
        return need;
    }

    int oneDay(World o, int sky, boolean boat) {
        o.eggs += told.h;
        while (o.eggs >= told.e) {
            o.eggs -= told.e;
            o.barrel++;
            o.got++;
        }
        if (boat) {
            int goal = o.goal == NONE ? 0 : told.lamps.get(o.goal).p;
            int miles = sky == 0 ? told.v : sky == 1 ? told.v / 2 : 0;
            for (int i = 0; i < miles && o.at != goal; i++) o.at += o.at < goal ? 1 : -1;
            if (o.at == goal && o.goal == NONE) {
                while (o.cargo < told.s && o.barrel > 0) {
                    o.cargo++;
                    o.barrel--;
                }
            } else if (o.at == goal) {
                while (o.cargo > 0 && o.oil[o.goal] < told.lamps.get(o.goal).c) {
                    o.cargo--;
                    o.oil[o.goal]++;
                }
            }
        }
        int set = 0;
        for (int l = 0; l < told.lamps.size(); l++) {
            Lamp a = told.lamps.get(l);
            int need = needs(a, o.day, sky, o.wick[l] == 1);
            boolean dark = a.kind == 4 && sky == 1 || a.kind == 3 && sky == 2;
            int before = o.oil[l];
            if (o.oil[l] < need) {
                dark = true;
                o.oil[l] = 0;
            } else {
                o.oil[l] -= need;
            }
            if (a.kind == 2 && o.oil[l] > 0) o.oil[l] -= o.oil[l] < 10 ? 1 : o.oil[l] / 10;
            o.lost += before - o.oil[l];
            if (!dark) {
                o.dark[l] = 0;
                continue;
            }
            set |= 1 << l;
            o.dark[l]++;
            o.darkAll[l]++;
            if (o.dark[l] > 1) o.breaches++;
            o.harm += a.w;
            if (sky == 1) o.harm += a.w;
        }
        o.was.add(o.oil.clone());
        o.lastSky = sky;
        o.day++;
        return set;
    }

    int go(int n) {
        if (n < 1 || n > 200) return OUTSIDE;
        int set = 0;
        for (int i = 0; i < n; i++) set = oneDay(w, skyTold(w.day), true);
        return set;
    }

    int drift(int n) {
        if (n < 1 || n > 200) return OUTSIDE;
        int set = 0;
        for (int i = 0; i < n; i++) {
            w.seed = java.math.BigInteger.valueOf(w.seed).multiply(java.math.BigInteger.valueOf(1103515245))
                .add(java.math.BigInteger.valueOf(12345)).mod(java.math.BigInteger.TWO.pow(31)).longValue();
            int drawn = (int) (w.seed / 65536 % 100);
            int sky = 0;
            int below = told.odds[w.lastSky][0];
            while (drawn >= below && sky < 2) below += told.odds[w.lastSky][++sky];
            set = oneDay(w, sky, true);
        }
        return set;
    }

    int pour(int n) {
        if (n < 0 || n > 999) return OUTSIDE;
        if (w.at != 0) return NOT;
        int poured = 0;
        while (poured < n && w.barrel > 0 && w.cargo < told.s) {
            w.barrel--;
            w.cargo++;
            poured++;
        }
        return poured;
    }

    int begin() {
        int was = w.day;
        w = fresh(w.seed);
        return was;
    }

    // ---- tried

    int round(int n, int what) {
        if (n < 1 || n > 4 || what < 0 || what > n + 1) return OUTSIDE;
        int base = told.lamps.size() + 1;
        int rows = 1;
        for (int i = 0; i < n; i++) rows *= base;
        long[] best = null;
        for (int row = 0; row < rows; row++) {
            int[] goals = new int[n];
            for (int i = n - 1, r = row; i >= 0; i--, r /= base) goals[i] = r % base - 1;
            World o = w.copy();
            for (int g : goals) {
                o.goal = g;
                oneDay(o, skyTold(o.day), true);
            }
            long[] now = new long[n + 2];
            now[0] = o.harm - w.harm;
            now[1] = o.breaches - w.breaches;
            for (int i = 0; i < n; i++) now[i + 2] = goals[i];
            if (best == null || Arrays.compare(now, best) < 0) best = now;
        }
        return (int) best[what];
    }

    int darken(int q, int n) {
        if (q < 0 || q > 99999 || n < 1 || n > 99) return OUTSIDE;
        TreeMap<Integer, Integer> bySum = new TreeMap<>();
        for (int set = (1 << told.lamps.size()) - 1; set >= 0; set--) {
            int sum = 0, oil = 0;
            for (int l = 0; l < told.lamps.size(); l++) {
                Lamp a = told.lamps.get(l);
                if ((set & 1 << l) != 0) {
                    sum += a.w;
                    continue;
                }
                for (int d = 0; d < n; d++) {
                    int need = needs(a, w.day + d, 0, w.wick[l] == 1);
                    oil += a.kind == 2 ? need * 11 / 10 : need;
                }
            }
            if (oil <= q) bySum.put(sum, set);
        }
        return bySum.firstEntry().getValue();
    }

    int lastsWith(int l, int more) {
        World o = w.copy();
        o.oil[l] += more;
        for (int k = 0; k < 400; k++) {
            if ((oneDay(o, skyTold(o.day), false) >> l & 1) == 1) return k;
        }
        return 400;
    }

    int lasts(int l) {
        return no(l) ? UNKNOWN : lastsWith(l, 0);
    }

    int lateWith(int l, int more) {
        int to = Math.abs(told.lamps.get(l).p - w.at);
        if (to == 0) return 0;
        int k = lastsWith(l, more);
        Map<List<Integer>, Long> odds = Map.of(List.of(w.day == 0 ? 0 : w.lastSky, to), 1000000000L);
        for (int d = 0; d < k; d++) {
            Map<List<Integer>, Long> next = new HashMap<>();
            for (Map.Entry<List<Integer>, Long> e : odds.entrySet()) {
                int sky = e.getKey().get(0), left = e.getKey().get(1);
                long fine = e.getValue() * told.odds[sky][0] / 100, rough = e.getValue() * told.odds[sky][1] / 100;
                next.merge(List.of(0, Math.max(0, left - told.v)), fine, Long::sum);
                next.merge(List.of(1, Math.max(0, left - told.v / 2)), rough, Long::sum);
                next.merge(List.of(2, left), e.getValue() - fine - rough, Long::sum);
            }
            next.keySet().removeIf(key -> key.get(1) == 0);
            odds = next;
        }
        long sum = 0;
        for (long part : odds.values()) sum += part;
        return (int) (sum / 1000);
    }

    int late(int l) {
        return no(l) ? UNKNOWN : lateWith(l, 0);
    }

    int store(int l, int s) {
        if (no(l)) return UNKNOWN;
        return s < 0 || s > 999 ? OUTSIDE : lateWith(l, 0) - lateWith(l, s);
    }

    int comes(int i, int j, int m) {
        if (i < 0 || i > 2 || j < 0 || j > 2) return UNKNOWN;
        if (m < 0 || m > 60) return OUTSIDE;
        long[] odds = new long[3];
        odds[i] = 1000000000L;
        for (int d = 0; d < m; d++) {
            long[] next = new long[3];
            for (int s = 0; s < 3; s++) {
                long fine = odds[s] * told.odds[s][0] / 100, rough = odds[s] * told.odds[s][1] / 100;
                next[0] += fine;
                next[1] += rough;
                next[2] += odds[s] - fine - rough;
            }
            odds = next;
        }
        return (int) (odds[j] / 1000);
    }

    // ---- the brig, books

    int say(int set, boolean burning) {
        if (set < 0 || set >= 1 << told.lamps.size()) return UNKNOWN;
        if (sayings.size() == 12) return FULL;
        sayings.add(new int[] {set, burning ? 1 : 0});
        return sayings.size();
    }

    int forget() {
        int was = sayings.size();
        sayings.clear();
        return was;
    }

    int out(int m, int e, int what) {
        if (m < 0 || m > 9 || e < 0 || e > 12 || what < 0 || what > 2) return OUTSIDE;
        List<Integer> sets = new ArrayList<>();
        for (int set = 0; set < 1 << told.lamps.size(); set++) {
            if (Integer.bitCount(set) != m) continue;
            int wrong = 0;
            for (int[] s : sayings) {
                boolean oneOut = false;
                for (int l = 0; l < 9; l++) oneOut |= (s[0] >> l & 1) == 1 && (set >> l & 1) == 1;
                if (s[1] == 1 && oneOut || s[1] == 0 && !oneOut) wrong++;
            }
            if (wrong <= e) sets.add(set);
        }
        if (what == 0) return sets.size();
        if (sets.isEmpty()) return NONE;
        int all = sets.get(0), some = 0;
        for (int s : sets) {
            all &= s;
            some |= s;
        }
        return what == 1 ? all : some;
    }

    int write(int l, int oil) {
        if (no(l)) return UNKNOWN;
        if (oil < 0 || oil > 99999) return OUTSIDE;
        List<Integer> book = books.computeIfAbsent(l, key -> new ArrayList<>());
        if (book.size() == 40) return FULL;
        book.add(oil);
        return book.size();
    }

    int tear(int l) {
        if (no(l)) return UNKNOWN;
        List<Integer> book = books.remove(l);
        return book == null ? 0 : book.size();
    }

    int judge(int l) {
        if (no(l)) return UNKNOWN;
        List<Integer> book = books.getOrDefault(l, List.of());
        for (int d = 0; d < book.size() && d < w.day; d++) {
            if (book.get(d) != w.was.get(d)[l]) return d;
        }
        return NONE;
    }

    // ---- draws, images

    int seed(int v) {
        if (v < 0) return OUTSIDE;
        int was = (int) w.seed;
        w.seed = v;
        return was;
    }

    int keep(int i) {
        if (i < 0 || i > 1) return UNKNOWN;
        images[i] = w.copy();
        return 1;
    }

    int goBack(int i) {
        if (i < 0 || i > 1) return UNKNOWN;
        if (images[i] == null) return NOT;
        w = images[i].copy();
        return 1;
    }
}
