/** Oil for the lamps of a reef: its texts, its days, what may be tried, the brig, books, draws and images. */
public final class ReefLights {
    public static final int NONE = -1, UNKNOWN = -1000000001, OUTSIDE = -1000000002, NOT = -1000000003, FULL = -1000000004;

    private static final int FINE = 0, ROUGH = 1, ICE = 2, SKY_KINDS = 3;
    private static final int PLAIN = 0, DOUBLE = 1, LEAKY = 2, FLOATING = 3, GAS = 4, KINDS = 5;
    private static final int MOST_LIGHTS = 9, MOST_BYTES = 500, MOST_SKY_BYTES = 200, MOST_SKY_CLAUSES = 30;
    private static final int MOST_NIGHTS = 12, DAYS_OF_A_NIGHT = 10, MOST_SAYINGS = 12, MOST_PAGES = 40;
    private static final int MOST_ROUND = 4, MOST_GO = 200, MOST_LASTS = 400, MOST_COMES = 60, MOST_MILES = 99;
    private static final int IMAGES = 2, ABOVE_ALL = 2147483647;
    private static final int CANNOT_STAND = 1, BAD_NUMBER = 2, TOO_MANY = 3, NOT_A_HUNDRED = 4;
    private static final long BILLION = 1000000000L;

    private final Text text;
    private final State now;
    private final State[] images;
    private final boolean[] kept;
    private final Rounds rounds;
    private final Chances chances;
    private final Brig brig;
    private final Books books;
    private final int[] needs;
    private Reef toldReef;
    private Reef spareReef;
    private Skies toldSkies;
    private Skies spareSkies;
    private int faultByte;

    public ReefLights() {
        text = new Text();
        toldReef = new Reef();
        spareReef = new Reef();
        toldSkies = new Skies();
        spareSkies = new Skies();
        now = new State(MOST_PAGES);
        images = new State[IMAGES];
        for (int i = 0; i < images.length; i++) {
            images[i] = new State(MOST_PAGES);
        }
        kept = new boolean[IMAGES];
        rounds = new Rounds();
        chances = new Chances();
        brig = new Brig();
        books = new Books();
        needs = new int[MOST_LIGHTS];
        faultByte = NONE;
        now.startOver(toldReef);
    }

    // ---- texts

    public int feed(int n, long bytes) {
        if (n < 1 || n > 8) {
            return OUTSIDE;
        }
        if (text.length + n > MOST_BYTES) {
            return FULL;
        }
        for (int left = n - 1; left >= 0; left--) {
            text.append((int) (bytes >>> (8 * left)) & 255);
        }
        return text.length;
    }

    public int reef() {
        boolean good = spareReef.readFrom(text);
        text.clear();
        if (!good) {
            return refuseText();
        }
        faultByte = NONE;
        Reef before = toldReef;
        toldReef = spareReef;
        spareReef = before;
        brig.clear();
        books.clear();
        forgetImages();
        now.startOver(toldReef);
        return toldReef.lights;
    }

    public int skies() {
        if (text.length > MOST_SKY_BYTES) {
            return NOT;
        }
        boolean good = spareSkies.readFrom(text);
        text.clear();
        if (!good) {
            return refuseText();
        }
        faultByte = NONE;
        Skies before = toldSkies;
        toldSkies = spareSkies;
        spareSkies = before;
        return toldSkies.days;
    }

    public int fault() {
        return faultByte;
    }

    public long told(int what) {
        switch (what) {
            case 0: return toldReef.lights;
            case 1: return toldReef.boatMiles;
            case 2: return toldReef.boatHolds;
            case 3: return now.barrel;
            case 4: return now.eggs;
            case 5: return now.day;
            case 6: return now.harm;
            case 7: return now.breaches;
            case 8: return text.length;
            case 9: return brig.sayings;
            case 10: return toldSkies.days;
            case 11: return now.burnt;
            case 12: return now.place;
            case 13: return now.cargo;
            case 14: return now.aim;
            case 15: return now.bought;
            default: return OUTSIDE;
        }
    }

    public int light(int l, int what) {
        if (isNoLight(l)) {
            return UNKNOWN;
        }
        switch (what) {
            case 0: return at(toldReef.kind, l);
            case 1: return at(toldReef.miles, l);
            case 2: return at(toldReef.burns, l);
            case 3: return at(toldReef.holds, l);
            case 4: return at(toldReef.ships, l);
            case 5: return at(now.oil, l);
            case 6: return at(now.halved, l);
            case 7: return at(now.darkOnEnd, l);
            case 8: return at(now.darkInAll, l);
            default: return OUTSIDE;
        }
    }

    public int sky(int day) {
        if (day < 0 || day > 9999) {
            return OUTSIDE;
        }
        return toldSkies.skyOf(day);
    }

    public int odds(int i, int j) {
        if (isNoSky(i) || isNoSky(j)) {
            return UNKNOWN;
        }
        return toldReef.chanceOf(i, j);
    }

    // ---- days

    public int goal(int l) {
        if (l != NONE && isNoLight(l)) {
            return UNKNOWN;
        }
        int before = now.aim;
        now.aim = l;
        return before;
    }

    public int wick(int l, boolean is) {
        if (isNoLight(l)) {
            return UNKNOWN;
        }
        int before = at(now.halved, l);
        put(now.halved, l, is ? 1 : 0);
        return before;
    }

    public int go(int n) {
        if (n < 1 || n > MOST_GO) {
            return OUTSIDE;
        }
        int dark = 0;
        for (int i = 0; i < n; i++) {
            dark = now.live(toldReef, toldSkies.skyOf(now.day));
        }
        return dark;
    }

    public int drift(int n) {
        if (n < 1 || n > MOST_GO) {
            return OUTSIDE;
        }
        int dark = 0;
        for (int i = 0; i < n; i++) {
            dark = now.live(toldReef, now.drawSky(toldReef));
        }
        return dark;
    }

    public int pour(int n) {
        if (n < 0 || n > 999) {
            return OUTSIDE;
        }
        if (now.place != 0) {
            return NOT;
        }
        return now.takeOil(toldReef, n);
    }

    public int begin() {
        int before = now.day;
        now.startOver(toldReef);
        return before;
    }

    // ---- tried

    public int round(int n, int what) {
        if (n < 1 || n > MOST_ROUND || what < 0 || what > n + 1) {
            return OUTSIDE;
        }
        rounds.seek(toldReef, toldSkies, now, n);
        switch (what) {
            case 0: return rounds.leastHarm;
            case 1: return rounds.leastBreaches;
            default: return at(rounds.bestRow, what - 2);
        }
    }

    public int darken(int q, int n) {
        if (q < 0 || q > 99999 || n < 1 || n > 99) {
            return OUTSIDE;
        }
        for (int l = 0; l < toldReef.lights; l++) {
            put(needs, l, needOfNights(l, n));
        }
        int best = 0;
        int leastShips = ABOVE_ALL;
        for (int set = 0; set < 1 << toldReef.lights; set++) {
            int ships = sumOver(set, toldReef.ships);
            // Sets come by their numbers, so of like ones the first one met is the least.
            if (ships < leastShips && sumOver(~set, needs) <= q) {
                leastShips = ships;
                best = set;
            }
        }
        return best;
    }

    public int lasts(int l) {
        return isNoLight(l) ? UNKNOWN : nightsNotDark(l, 0);
    }

    public int late(int l) {
        return isNoLight(l) ? UNKNOWN : oddsTooLate(l, 0);
    }

    public int store(int l, int s) {
        if (isNoLight(l)) {
            return UNKNOWN;
        }
        if (s < 0 || s > 999) {
            return OUTSIDE;
        }
        return oddsTooLate(l, 0) - oddsTooLate(l, s);
    }

    public int comes(int i, int j, int m) {
        if (isNoSky(i) || isNoSky(j)) {
            return UNKNOWN;
        }
        if (m < 0 || m > MOST_COMES) {
            return OUTSIDE;
        }
        // A boat that never moves keeps all the odds in play, parted by skies alone.
        chances.start(i, 1);
        for (int day = 0; day < m; day++) {
            chances.passDay(toldReef, 0, 0);
        }
        return (int) (chances.partsOf(j) / 1000);
    }

    // ---- the brig, books

    public int say(int set, boolean burning) {
        if (set < 0 || set >> toldReef.lights != 0) {
            return UNKNOWN;
        }
        if (brig.sayings >= MOST_SAYINGS) {
            return FULL;
        }
        brig.add(set, burning);
        return brig.sayings;
    }

    public int forget() {
        int before = brig.sayings;
        brig.clear();
        return before;
    }

    public int out(int m, int e, int what) {
        if (m < 0 || m > 9 || e < 0 || e > 12 || what < 0 || what > 2) {
            return OUTSIDE;
        }
        int sets = 0;
        int inAll = (1 << toldReef.lights) - 1;
        int inSome = 0;
        for (int set = 0; set < 1 << toldReef.lights; set++) {
            if (Integer.bitCount(set) == m && brig.wrongWith(set) <= e) {
                sets++;
                inAll &= set;
                inSome |= set;
            }
        }
        if (what == 0) {
            return sets;
        }
        if (sets == 0) {
            return NONE;
        }
        return what == 1 ? inAll : inSome;
    }

    public int write(int l, int oil) {
        if (isNoLight(l)) {
            return UNKNOWN;
        }
        if (oil < 0 || oil > 99999) {
            return OUTSIDE;
        }
        if (books.pagesOf(l) >= MOST_PAGES) {
            return FULL;
        }
        books.add(l, oil);
        return books.pagesOf(l);
    }

    public int tear(int l) {
        if (isNoLight(l)) {
            return UNKNOWN;
        }
        int before = books.pagesOf(l);
        books.empty(l);
        return before;
    }

    public int judge(int l) {
        if (isNoLight(l)) {
            return UNKNOWN;
        }
        int over = Math.min(books.pagesOf(l), now.day);
        for (int day = 0; day < over; day++) {
            if (books.oilOn(l, day) != now.oilOn(l, day)) {
                return day;
            }
        }
        return NONE;
    }

    // ---- draws, images

    public int seed(int v) {
        if (v < 0) {
            return OUTSIDE;
        }
        int before = (int) now.lot;
        now.lot = v;
        return before;
    }

    public int keep(int i) {
        if (isNoImage(i)) {
            return UNKNOWN;
        }
        images[i].copyFrom(now);
        kept[i] = true;
        return 1;
    }

    public int goBack(int i) {
        if (isNoImage(i)) {
            return UNKNOWN;
        }
        if (!kept[i]) {
            return NOT;
        }
        now.copyFrom(images[i]);
        return 1;
    }

    // ---- what several calls need

    private boolean isNoLight(int l) {
        return l < 0 || l >= toldReef.lights;
    }

    private boolean isNoImage(int i) {
        return i < 0 || i >= images.length || i >= kept.length;
    }

    private static boolean isNoSky(int s) {
        return s < 0 || s >= SKY_KINDS;
    }

    private int refuseText() {
        faultByte = text.faultByte;
        return -10 - text.faultNumber;
    }

    private void forgetImages() {
        for (int i = 0; i < kept.length; i++) {
            kept[i] = false;
        }
    }

    private int sumOver(int set, int[] row) {
        int sum = 0;
        for (int l = 0; l < toldReef.lights; l++) {
            if ((set >> l & 1) == 1) {
                sum += at(row, l);
            }
        }
        return sum;
    }

    private int needOfNights(int l, int nights) {
        boolean isHalved = at(now.halved, l) == 1;
        boolean isLeaky = at(toldReef.kind, l) == LEAKY;
        int all = 0;
        for (int i = 0; i < nights; i++) {
            int need = toldReef.needOf(l, toldReef.hoursOf(now.day + i), FINE, isHalved);
            all += isLeaky ? need + need / 10 : need;
        }
        return all;
    }

    private int nightsNotDark(int l, int moreOil) {
        int oil = at(now.oil, l) + moreOil;
        boolean isHalved = at(now.halved, l) == 1;
        for (int night = 0; night < MOST_LASTS; night++) {
            int day = now.day + night;
            int sky = toldSkies.skyOf(day);
            int need = toldReef.needOf(l, toldReef.hoursOf(day), sky, isHalved);
            if (toldReef.isDarkBySky(l, sky) || oil < need) {
                return night;
            }
            oil -= need;
            oil -= toldReef.leakOf(l, oil);
        }
        return MOST_LASTS;
    }

    private int oddsTooLate(int l, int moreOil) {
        int miles = Math.abs(at(toldReef.miles, l) - now.place);
        if (miles == 0) {
            return 0;
        }
        int nights = nightsNotDark(l, moreOil);
        chances.start(now.lastSky, miles);
        for (int day = 0; day < nights; day++) {
            chances.passDay(toldReef, toldReef.milesBy(FINE), toldReef.milesBy(ROUGH));
        }
        long parts = 0;
        for (int s = 0; s < SKY_KINDS; s++) {
            parts += chances.partsOf(s);
        }
        return (int) (parts / 1000);
    }

    private static int at(int[] row, int i) {
        return i >= 0 && i < row.length ? row[i] : 0;
    }

    private static void put(int[] row, int i, int value) {
        if (i >= 0 && i < row.length) {
            row[i] = value;
        }
    }

    private static void copyRow(int[] from, int[] to) {
        System.arraycopy(from, 0, to, 0, Math.min(from.length, to.length));
    }

    private static String kindWord(int kind) {
        switch (kind) {
            case PLAIN: return "plain";
            case DOUBLE: return "double";
            case LEAKY: return "leaky";
            case FLOATING: return "floating";
            case GAS: return "gas";
            default: return "";
        }
    }

    private static String skyWord(int sky) {
        switch (sky) {
            case FINE: return "fine";
            case ROUGH: return "rough";
            case ICE: return "ice";
            default: return "";
        }
    }

    /** THE TEXT, with a place in it up to which it is read, and its first fault. */
    private static final class Text {
        private final int[] bytes;
        private int length;
        private int place;
        private int wordFrom;
        private int number;
        private int numberFrom;
        private int faultNumber;
        private int faultByte;

        Text() {
            bytes = new int[MOST_BYTES];
            faultByte = NONE;
        }

        void append(int b) {
            if (length < bytes.length) {
                put(bytes, length, b);
                length++;
            }
        }

        void clear() {
            length = 0;
        }

        void startReading() {
            place = 0;
            faultNumber = 0;
            faultByte = NONE;
        }

        /** Always false, so that what reads can end with it. */
        boolean fail(int number, int where) {
            faultNumber = number;
            faultByte = where;
            return false;
        }

        boolean isAtEnd() {
            skipBlanks();
            return place >= length;
        }

        boolean readWord() {
            skipBlanks();
            wordFrom = place;
            if (!isLetter(byteAt(place))) {
                return fail(CANNOT_STAND, place);
            }
            for (int i = place; i < length && isLetter(byteAt(i)); i++) {
                place = i + 1;
            }
            return true;
        }

        boolean isWord(String word) {
            if (place - wordFrom != word.length()) {
                return false;
            }
            for (int i = 0; i < word.length(); i++) {
                if (byteAt(wordFrom + i) != word.charAt(i)) {
                    return false;
                }
            }
            return true;
        }

        boolean readNumber(int least, int most) {
            skipBlanks();
            numberFrom = place;
            if (!isFigure(byteAt(place))) {
                return fail(CANNOT_STAND, place);
            }
            number = 0;
            for (int i = place; i < length && isFigure(byteAt(i)); i++) {
                // A fifth figure is a fault of its own; to stop there keeps the value small.
                if (i - numberFrom >= 4) {
                    return fail(BAD_NUMBER, numberFrom);
                }
                number = number * 10 + byteAt(i) - '0';
                place = i + 1;
            }
            return number >= least && number <= most || fail(BAD_NUMBER, numberFrom);
        }

        boolean isNext(char sign) {
            skipBlanks();
            return byteAt(place) == sign;
        }

        boolean readSign(char sign) {
            if (!isNext(sign)) {
                return fail(CANNOT_STAND, place);
            }
            place++;
            return true;
        }

        private void skipBlanks() {
            for (int i = place; i < length && byteAt(i) == ' '; i++) {
                place = i + 1;
            }
        }

        /** NONE behind the end: no byte is like it. */
        private int byteAt(int i) {
            return i >= 0 && i < length && i < bytes.length ? bytes[i] : NONE;
        }

        private static boolean isLetter(int b) {
            return b >= 'a' && b <= 'z';
        }

        private static boolean isFigure(int b) {
            return b >= '0' && b <= '9';
        }
    }

    /** THE REEF as it is told: nothing in it changes from day to day. */
    private static final class Reef {
        private static final int BOAT = 1, BARREL = 2, HENS = 4, NIGHT = 8, ODDS = 16;

        private final int[] kind;
        private final int[] miles;
        private final int[] burns;
        private final int[] holds;
        private final int[] ships;
        private final int[] hours;
        private final int[] chance;
        private int lights;
        private int boatMiles;
        private int boatHolds;
        private int barrelHas;
        private int eggsADay;
        private int eggsAPart;
        private int nights;
        private int clausesTold;

        Reef() {
            kind = new int[MOST_LIGHTS];
            miles = new int[MOST_LIGHTS];
            burns = new int[MOST_LIGHTS];
            holds = new int[MOST_LIGHTS];
            ships = new int[MOST_LIGHTS];
            hours = new int[MOST_NIGHTS];
            chance = new int[SKY_KINDS * SKY_KINDS];
            setUntold();
        }

        private void setUntold() {
            lights = 0;
            boatMiles = 20;
            boatHolds = 50;
            barrelHas = 500;
            eggsADay = 0;
            eggsAPart = 10;
            nights = 1;
            put(hours, 0, 12);
            for (int i = 0; i < chance.length; i++) {
                chance[i] = i / SKY_KINDS == i % SKY_KINDS ? 100 : 0;
            }
            clausesTold = 0;
        }

        boolean readFrom(Text text) {
            setUntold();
            text.startReading();
            for (int i = 0; i <= MOST_BYTES; i++) {
                if (text.isAtEnd()) {
                    return true;
                }
                if (!readClause(text) || !text.readSign(';')) {
                    return false;
                }
            }
            return true;
        }

        private boolean readClause(Text text) {
            if (!text.readWord()) {
                return false;
            }
            if (text.isWord("light")) {
                return readLight(text);
            }
            if (text.isWord("boat")) {
                return isFirst(text, BOAT) && readBoat(text);
            }
            if (text.isWord("barrel")) {
                return isFirst(text, BARREL) && readBarrel(text);
            }
            if (text.isWord("hens")) {
                return isFirst(text, HENS) && readHens(text);
            }
            if (text.isWord("night")) {
                return isFirst(text, NIGHT) && readNights(text);
            }
            if (text.isWord("odds")) {
                return isFirst(text, ODDS) && readChances(text);
            }
            return text.fail(CANNOT_STAND, text.wordFrom);
        }

        private boolean isFirst(Text text, int clause) {
            if ((clausesTold & clause) != 0) {
                return text.fail(TOO_MANY, text.wordFrom);
            }
            clausesTold |= clause;
            return true;
        }

        private boolean readLight(Text text) {
            if (lights >= MOST_LIGHTS) {
                return text.fail(TOO_MANY, text.wordFrom);
            }
            if (!text.readWord()) {
                return false;
            }
            int named = kindNamed(text);
            if (named == NONE) {
                return text.fail(CANNOT_STAND, text.wordFrom);
            }
            put(kind, lights, named);
            if (!text.readNumber(0, MOST_MILES)) {
                return false;
            }
            put(miles, lights, text.number);
            if (!text.readNumber(0, 99)) {
                return false;
            }
            put(burns, lights, text.number);
            if (!text.readNumber(0, 999)) {
                return false;
            }
            put(holds, lights, text.number);
            if (!text.readNumber(0, 99)) {
                return false;
            }
            put(ships, lights, text.number);
            lights++;
            return true;
        }

        private static int kindNamed(Text text) {
            for (int k = 0; k < KINDS; k++) {
                if (text.isWord(kindWord(k))) {
                    return k;
                }
            }
            return NONE;
        }

        private boolean readBoat(Text text) {
            if (!text.readNumber(1, 99)) {
                return false;
            }
            boatMiles = text.number;
            if (!text.readNumber(1, 999)) {
                return false;
            }
            boatHolds = text.number;
            return true;
        }

        private boolean readBarrel(Text text) {
            if (!text.readNumber(0, 9999)) {
                return false;
            }
            barrelHas = text.number;
            return true;
        }

        private boolean readHens(Text text) {
            if (!text.readNumber(0, 99)) {
                return false;
            }
            eggsADay = text.number;
            if (!text.readNumber(1, 99)) {
                return false;
            }
            eggsAPart = text.number;
            return true;
        }

        private boolean readNights(Text text) {
            nights = 0;
            for (int i = 0; i <= MOST_NIGHTS; i++) {
                if (i > 0 && !text.readSign(',') || !text.readNumber(1, 24)) {
                    return false;
                }
                if (i == MOST_NIGHTS) {
                    return text.fail(TOO_MANY, text.numberFrom);
                }
                put(hours, i, text.number);
                nights = i + 1;
                if (text.isNext(';')) {
                    return true;
                }
            }
            return true;
        }

        private boolean readChances(Text text) {
            int together = 0;
            for (int i = 0; i < chance.length; i++) {
                if (!text.readNumber(0, 100)) {
                    return false;
                }
                put(chance, i, text.number);
                together += text.number;
                if (i % SKY_KINDS == SKY_KINDS - 1) {
                    if (together != 100) {
                        return text.fail(NOT_A_HUNDRED, text.numberFrom);
                    }
                    together = 0;
                }
            }
            return true;
        }

        int chanceOf(int before, int behind) {
            return at(chance, before * SKY_KINDS + behind);
        }

        int milesBy(int sky) {
            if (sky == FINE) {
                return boatMiles;
            }
            return sky == ROUGH ? boatMiles / 2 : 0;
        }

        int milesTo(int aim) {
            return aim == NONE ? 0 : at(miles, aim);
        }

        int hoursOf(int day) {
            return nights < 1 ? 0 : at(hours, Math.floorMod(day / DAYS_OF_A_NIGHT, nights));
        }

        boolean isDarkBySky(int l, int sky) {
            int k = at(kind, l);
            return k == GAS && sky == ROUGH || k == FLOATING && sky == ICE;
        }

        int needOf(int l, int nightHours, int sky, boolean isHalved) {
            int k = at(kind, l);
            if (k == GAS || k == FLOATING && sky == ICE) {
                return 0;
            }
            int need = at(burns, l) * nightHours / 10;
            if (k == DOUBLE) {
                need *= 2;
            }
            return isHalved && sky == FINE ? need / 2 : need;
        }

        int leakOf(int l, int left) {
            if (at(kind, l) != LEAKY || left <= 0) {
                return 0;
            }
            return Math.max(1, left / 10);
        }
    }

    /** SKIES as told, kept by clauses: thousands of days need only some sixty numbers. */
    private static final class Skies {
        private final int[] skyTold;
        private final int[] daysTold;
        private int clauses;
        private int days;

        Skies() {
            skyTold = new int[MOST_SKY_CLAUSES];
            daysTold = new int[MOST_SKY_CLAUSES];
        }

        boolean readFrom(Text text) {
            clauses = 0;
            days = 0;
            text.startReading();
            for (int i = 0; i <= MOST_BYTES; i++) {
                if (text.isAtEnd()) {
                    return true;
                }
                if (!readClause(text)) {
                    return false;
                }
            }
            return true;
        }

        private boolean readClause(Text text) {
            if (!text.readWord()) {
                return false;
            }
            int sky = skyNamed(text);
            if (sky == NONE) {
                return text.fail(CANNOT_STAND, text.wordFrom);
            }
            if (clauses >= MOST_SKY_CLAUSES) {
                return text.fail(TOO_MANY, text.wordFrom);
            }
            if (!text.readNumber(1, 99) || !text.readSign(';')) {
                return false;
            }
            put(skyTold, clauses, sky);
            put(daysTold, clauses, text.number);
            clauses++;
            days += text.number;
            return true;
        }

        private static int skyNamed(Text text) {
            for (int s = 0; s < SKY_KINDS; s++) {
                if (text.isWord(skyWord(s))) {
                    return s;
                }
            }
            return NONE;
        }

        int skyOf(int day) {
            if (day >= days) {
                return FINE;
            }
            int left = day;
            for (int c = 0; c < clauses; c++) {
                left -= at(daysTold, c);
                if (left < 0) {
                    return at(skyTold, c);
                }
            }
            return FINE;
        }
    }

    /** What changes from day to day; IMAGES and what is tried are states of their own. */
    private static final class State {
        private final int[] oil;
        private final int[] halved;
        private final int[] darkOnEnd;
        private final int[] darkInAll;
        private final int[] log;
        private int barrel;
        private int eggs;
        private int place;
        private int cargo;
        private int aim;
        private int harm;
        private int breaches;
        private int day;
        private int lastSky;
        private int burnt;
        private int bought;
        private long lot;

        /** Books never reach beyond their most pages, so the log need not either; tried states have none. */
        State(int daysOfLog) {
            oil = new int[MOST_LIGHTS];
            halved = new int[MOST_LIGHTS];
            darkOnEnd = new int[MOST_LIGHTS];
            darkInAll = new int[MOST_LIGHTS];
            log = new int[Math.max(0, daysOfLog) * MOST_LIGHTS];
            aim = NONE;
        }

        /** All as at first but THE SEED, which stays. */
        void startOver(Reef reef) {
            for (int l = 0; l < MOST_LIGHTS; l++) {
                put(oil, l, at(reef.holds, l));
                put(halved, l, 0);
                put(darkOnEnd, l, 0);
                put(darkInAll, l, 0);
            }
            barrel = reef.barrelHas;
            eggs = 0;
            place = 0;
            cargo = 0;
            aim = NONE;
            harm = 0;
            breaches = 0;
            day = 0;
            lastSky = FINE;
            burnt = 0;
            bought = 0;
        }

        void copyFrom(State other) {
            copyRow(other.oil, oil);
            copyRow(other.halved, halved);
            copyRow(other.darkOnEnd, darkOnEnd);
            copyRow(other.darkInAll, darkInAll);
            copyRow(other.log, log);
            barrel = other.barrel;
            eggs = other.eggs;
            place = other.place;
            cargo = other.cargo;
            aim = other.aim;
            harm = other.harm;
            breaches = other.breaches;
            day = other.day;
            lastSky = other.lastSky;
            burnt = other.burnt;
            bought = other.bought;
            lot = other.lot;
        }

        /** A DAY; the SET of lights that were dark in its night. */
        int live(Reef reef, int sky) {
            layEggs(reef);
            sail(reef, sky);
            int hours = reef.hoursOf(day);
            int dark = 0;
            for (int l = 0; l < reef.lights; l++) {
                int need = reef.needOf(l, hours, sky, at(halved, l) == 1);
                if (isTooLittle(reef, l, need) || reef.isDarkBySky(l, sky)) {
                    dark |= 1 << l;
                    countDark(reef, l, sky);
                } else {
                    put(darkOnEnd, l, 0);
                }
                put(log, pageOf(l, day), at(oil, l));
            }
            lastSky = sky;
            day++;
            return dark;
        }

        private void layEggs(Reef reef) {
            eggs += reef.eggsADay;
            if (reef.eggsAPart > 0) {
                int parts = eggs / reef.eggsAPart;
                eggs %= reef.eggsAPart;
                barrel += parts;
                bought += parts;
            }
        }

        private void sail(Reef reef, int sky) {
            int way = reef.milesTo(aim) - place;
            int miles = Math.min(Math.abs(way), reef.milesBy(sky));
            place += way < 0 ? -miles : miles;
            if (place != reef.milesTo(aim)) {
                return;
            }
            if (aim == NONE) {
                takeOil(reef, reef.boatHolds);
            } else {
                fillLight(reef, aim);
            }
        }

        int takeOil(Reef reef, int wanted) {
            int taken = Math.min(wanted, Math.min(barrel, reef.boatHolds - cargo));
            barrel -= taken;
            cargo += taken;
            return taken;
        }

        boolean isFillingBy(Reef reef, int sky, int l) {
            return cargo > 0 && at(oil, l) < at(reef.holds, l) && Math.abs(at(reef.miles, l) - place) <= reef.milesBy(sky);
        }

        private void fillLight(Reef reef, int l) {
            int given = Math.min(cargo, at(reef.holds, l) - at(oil, l));
            cargo -= given;
            put(oil, l, at(oil, l) + given);
        }

        /** A light burns what it needs, as far as it has: whether it had too little. */
        private boolean isTooLittle(Reef reef, int l, int need) {
            int has = at(oil, l);
            int left = has - Math.min(has, need);
            left -= reef.leakOf(l, left);
            burnt += has - left;
            put(oil, l, left);
            return has < need;
        }

        private void countDark(Reef reef, int l, int sky) {
            int onEnd = at(darkOnEnd, l) + 1;
            put(darkOnEnd, l, onEnd);
            put(darkInAll, l, at(darkInAll, l) + 1);
            if (onEnd >= 2) {
                breaches++;
            }
            harm += at(reef.ships, l) * (sky == ROUGH ? 2 : 1);
        }

        private static int pageOf(int l, int day) {
            return day >= 0 && day < MOST_PAGES ? day * MOST_LIGHTS + l : NONE;
        }

        int oilOn(int l, int day) {
            return at(log, pageOf(l, day));
        }

        /** Before the first day the last sky is fine, as the document asks. */
        int drawSky(Reef reef) {
            int drawn = draw(100);
            int fine = reef.chanceOf(lastSky, FINE);
            if (drawn < fine) {
                return FINE;
            }
            return drawn < fine + reef.chanceOf(lastSky, ROUGH) ? ROUGH : ICE;
        }

        private int draw(int n) {
            lot = (lot * 1103515245L + 12345L) & 0x7fffffffL;
            return n < 1 ? 0 : (int) (lot / 65536 % n);
        }
    }

    /** THE ROUND: all rows of goals, in their order, each day built on the state behind the day ahead of it. */
    private static final class Rounds {
        private final State[] behind;
        private final int[] row;
        private final int[] bestRow;
        private int leastHarm;
        private int leastBreaches;

        Rounds() {
            behind = new State[MOST_ROUND + 1];
            for (int i = 0; i < behind.length; i++) {
                behind[i] = new State(0);
            }
            row = new int[MOST_ROUND];
            bestRow = new int[MOST_ROUND];
        }

        void seek(Reef reef, Skies skies, State now, int n) {
            leastHarm = ABOVE_ALL;
            leastBreaches = ABOVE_ALL;
            behind[0].copyFrom(now);
            // Only what grows from now on counts.
            behind[0].harm = 0;
            behind[0].breaches = 0;
            tryDay(reef, skies, n, 0);
        }

        private void tryDay(Reef reef, Skies skies, int n, int d) {
            if (d < 0 || d >= n || d + 1 >= behind.length) {
                return;
            }
            State next = behind[d + 1];
            int sky = skies.skyOf(behind[d].day);
            boolean isLast = d + 1 == n;
            for (int aim = NONE; aim < reef.lights; aim++) {
                // On the last day a goal where nothing is filled is like the harbour, which was tried first.
                if (isLast && aim != NONE && !behind[d].isFillingBy(reef, sky, aim)) {
                    continue;
                }
                next.copyFrom(behind[d]);
                next.aim = aim;
                next.live(reef, sky);
                put(row, d, aim);
                // Harm and breaches never shrink, so a row that is no better by now never will be.
                if (!isBetter(next)) {
                    continue;
                }
                if (isLast) {
                    takeRow(next);
                } else {
                    tryDay(reef, skies, n, d + 1);
                }
            }
        }

        private boolean isBetter(State s) {
            return s.harm < leastHarm || s.harm == leastHarm && s.breaches < leastBreaches;
        }

        private void takeRow(State s) {
            leastHarm = s.harm;
            leastBreaches = s.breaches;
            copyRow(row, bestRow);
        }
    }

    /** ODDS of a BILLION parted by SKIES and by the miles that a boat has still to go. */
    private static final class Chances {
        private long[] parts;
        private long[] next;
        private int cells;

        Chances() {
            parts = new long[(MOST_MILES + 1) * SKY_KINDS];
            next = new long[(MOST_MILES + 1) * SKY_KINDS];
        }

        void start(int sky, int miles) {
            for (int i = 0; i < parts.length && i < next.length; i++) {
                parts[i] = 0;
                next[i] = 0;
            }
            // The boat never has more miles to go than at first: the cells beyond stay empty.
            cells = (miles + 1) * SKY_KINDS;
            add(parts, sky, miles, BILLION);
        }

        void passDay(Reef reef, int fineMiles, int roughMiles) {
            for (int i = 0; i < cells && i < parts.length; i++) {
                long here = parts[i];
                if (here > 0) {
                    int sky = i % SKY_KINDS;
                    int left = i / SKY_KINDS;
                    long fine = here * reef.chanceOf(sky, FINE) / 100;
                    long rough = here * reef.chanceOf(sky, ROUGH) / 100;
                    add(next, FINE, left - fineMiles, fine);
                    add(next, ROUGH, left - roughMiles, rough);
                    add(next, ICE, left, here - fine - rough);
                    parts[i] = 0;
                }
            }
            long[] emptied = parts;
            parts = next;
            next = emptied;
        }

        long partsOf(int sky) {
            long all = 0;
            for (int i = 0; i < cells && i < parts.length; i++) {
                if (i % SKY_KINDS == sky) {
                    all += parts[i];
                }
            }
            return all;
        }

        /** What has no miles to go is there, and no longer counted. */
        private static void add(long[] row, int sky, int left, long more) {
            int i = left * SKY_KINDS + sky;
            if (left > 0 && i >= 0 && i < row.length) {
                row[i] += more;
            }
        }
    }

    /** SAYINGS of ships about the night when the brig struck. */
    private static final class Brig {
        private final int[] sets;
        private final int[] seenBurning;
        private int sayings;

        Brig() {
            sets = new int[MOST_SAYINGS];
            seenBurning = new int[MOST_SAYINGS];
        }

        void clear() {
            sayings = 0;
        }

        void add(int set, boolean burning) {
            put(sets, sayings, set);
            put(seenBurning, sayings, burning ? 1 : 0);
            sayings++;
        }

        int wrongWith(int lightsOut) {
            int wrong = 0;
            for (int i = 0; i < sayings; i++) {
                boolean allBurnt = (at(sets, i) & lightsOut) == 0;
                if (allBurnt != (at(seenBurning, i) == 1)) {
                    wrong++;
                }
            }
            return wrong;
        }
    }

    /** THE BOOKS of keepers: a row of days for each light. */
    private static final class Books {
        private final int[] oil;
        private final int[] pages;

        Books() {
            oil = new int[MOST_LIGHTS * MOST_PAGES];
            pages = new int[MOST_LIGHTS];
        }

        void clear() {
            for (int l = 0; l < MOST_LIGHTS; l++) {
                empty(l);
            }
        }

        void empty(int l) {
            put(pages, l, 0);
        }

        int pagesOf(int l) {
            return at(pages, l);
        }

        void add(int l, int has) {
            put(oil, l * MOST_PAGES + pagesOf(l), has);
            put(pages, l, pagesOf(l) + 1);
        }

        int oilOn(int l, int day) {
            return at(oil, l * MOST_PAGES + day);
        }
    }
}
