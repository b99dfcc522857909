/**
 * As many ringers as the hour: a tower with three bells, the hours of a night, the ringers of a parish and their rota.
 * ../shared/DOC.md says what each call answers; the words in capitals there are the words of the comments here.
 */
public final class HourRingers {
    public static final int BAD = -1, STATE = -2, FULL = -3, NONE = -9;
    public static final int NO = -1000000;

    private static final int MOST_BYTES = 200;
    private static final int MOST_HOURS = 4;
    private static final int MOST_RINGERS = 6;
    private static final int MOST_BELLS = 3;
    private static final int MOST_STROKES = 3;
    private static final int LAST_PLACE = 60;
    private static final int RINGER_SETS = 64;
    private static final int IMAGES = 2;

    private final Script script = new Script();
    private Parish told = new Parish();
    private Parish draft = new Parish();
    private final Rota rota = new Rota();
    private final Rota[] images = new Rota[IMAGES];
    private final boolean[] kept = new boolean[IMAGES];
    private final Nights nights = new Nights();
    private long traced = 0;

    public HourRingers() {
        for (int i = 0; i < IMAGES; i++) {
            images[i] = new Rota();
        }
    }

    // ---- the parish

    public int type(long v, int n) {
        if (n < 1 || n > 8) {
            return BAD;
        }
        if (script.length + n > MOST_BYTES) {
            return FULL;
        }
        for (int i = n - 1; i >= 0; i--) {
            script.add((byte) (v >>> 8 * i));
        }
        return script.length;
    }

    public int clear() {
        int had = script.length;
        script.empty();
        return had;
    }

    public int parish() {
        int items = script.read(draft);
        if (items < 0) {
            return items;
        }
        Parish last = told;
        told = draft;
        draft = last;
        script.empty();
        rota.empty(told.tower);
        for (int i = 0; i < IMAGES; i++) {
            kept[i] = false;
        }
        nights.forParish();
        return items;
    }

    public int ringer(int r, int what) {
        if (!told.hasRinger(r)) {
            return BAD;
        }
        switch (what) {
            case 0:
                return told.homes[r];
            case 1:
                return told.bells[r];
            case 2:
                return told.busy[r];
            case 3:
                return told.ills[r];
            case 4:
                return rota.timesOf(r);
            default:
                return BAD;
        }
    }

    public int hour(int h, int what) {
        if (!told.hasHour(h)) {
            return BAD;
        }
        switch (what) {
            case 0:
                return told.wants[h];
            case 1:
                return told.wants[h] - Integer.bitCount(rota.ringersIn(h));
            case 2:
                return rota.strokes[h];
            default:
                return BAD;
        }
    }

    // ---- the rota

    public int put(int r, int h, int bell) {
        if (!told.hasRinger(r) || !told.hasBell(h, bell)) {
            return BAD;
        }
        if (!told.canRing(r, h, bell) || !rota.hasRoom(told, r, h, bell)) {
            return STATE;
        }
        rota.give(r, h, bell);
        return rota.turns;
    }

    public int rings(int h, int bell) {
        if (!told.hasBell(h, bell)) {
            return BAD;
        }
        return rota.ringerAt(h, bell);
    }

    public int take(int r, int h) {
        if (!told.hasRinger(r) || !told.hasHour(h)) {
            return BAD;
        }
        int bell = rota.bellOf(r, h);
        if (bell == NONE) {
            return STATE;
        }
        rota.free(r, h);
        return bell;
    }

    public int exchange(int r, int q) {
        if (!told.hasRinger(r) || !told.hasRinger(q) || r == q) {
            return BAD;
        }
        if (!canTakeOver(r, q) || !canTakeOver(q, r)) {
            return STATE;
        }
        rota.swap(r, q);
        return rota.timesOf(r) + rota.timesOf(q);
    }

    /** TIMES and REST are the same for all, so a whole night's turns keep to them in any hands. */
    private boolean canTakeOver(int r, int from) {
        for (int h = 0; h < told.hours; h++) {
            int bell = rota.bellOf(from, h);
            if (bell != NONE && !told.canRing(r, h, bell)) {
                return false;
            }
        }
        return true;
    }

    public int now(int what) {
        switch (what) {
            case 0:
                return told.wantedInAll() - rota.turns;
            case 1:
                return rota.walk(told, rota.tower);
            case 2:
                return rota.turns;
            case 3:
                return rota.tower;
            default:
                return BAD;
        }
    }

    public int moves(int x) {
        if (x < 0 || x > LAST_PLACE) {
            return BAD;
        }
        int was = rota.tower;
        rota.tower = x;
        nights.forTower();
        return was;
    }

    // ---- crews and nights

    public int crew(int h) {
        if (!told.hasHour(h)) {
            return BAD;
        }
        return Crews.most(told, h);
    }

    public int bars(int h) {
        if (!told.hasHour(h)) {
            return BAD;
        }
        return Crews.firstBar(told, h, RINGER_SETS - 1);
    }

    public int night(int what) {
        if (what < 0 || what > 3) {
            return BAD;
        }
        nights.settle(told, rota.tower);
        switch (what) {
            case 0:
                return nights.fewestShort();
            case 1:
                return nights.leastWalk();
            case 2:
                return nights.fewestRingers();
            default:
                return nights.mostEven();
        }
    }

    public int best(int r, int h) {
        if (!told.hasRinger(r) || !told.hasHour(h)) {
            return BAD;
        }
        nights.settle(told, rota.tower);
        return nights.firstBell(r, h);
    }

    public int needed() {
        nights.settle(told, rota.tower);
        return nights.missedRingers();
    }

    public int odds(int h, int what) {
        if (!told.hasHour(h) || what < 0 || what > 1) {
            return BAD;
        }
        int upper = Crews.fullWeight(told, h);
        int lower = told.weightInAll();
        int common = commonDivisor(upper, lower);
        if (common < 1) {
            return BAD;
        }
        return what == 0 ? upper / common : lower / common;
    }

    private static int commonDivisor(int a, int b) {
        int high = a;
        int low = b;
        for (int i = 0; i < 64 && low != 0; i++) {
            int left = high % low;
            high = low;
            low = left;
        }
        return high;
    }

    public int stands(int what) {
        if (what < 0 || what > 1) {
            return BAD;
        }
        int place = 0;
        int least = rota.walk(told, 0);
        for (int x = 1; x <= LAST_PLACE; x++) {
            int walk = rota.walk(told, x);
            if (walk < least) {
                least = walk;
                place = x;
            }
        }
        return what == 0 ? place : least;
    }

    // ---- what was heard

    public int heard(int h, int strokes) {
        if (!told.hasHour(h) || strokes < 0 || strokes > MOST_STROKES) {
            return BAD;
        }
        int ahead = rota.strokes[h];
        rota.strokes[h] = strokes;
        return ahead;
    }

    public int forget() {
        int had = 0;
        for (int h = 0; h < MOST_HOURS; h++) {
            if (rota.strokes[h] != NONE) {
                had++;
                rota.strokes[h] = NONE;
            }
        }
        return had;
    }

    public int away(int what) {
        if (what < 0 || what > 2) {
            return BAD;
        }
        int all = rota.ringersAtAll();
        int ways = 0;
        int always = all;
        int ever = 0;
        for (int set = 0; set < RINGER_SETS; set++) {
            if ((set & ~all) == 0 && rota.soundsWithout(set)) {
                ways++;
                always &= set;
                ever |= set;
            }
        }
        if (what == 0) {
            return ways;
        }
        if (what == 1) {
            return ways == 0 ? 0 : always;
        }
        return all & ~ever;
    }

    // ---- kinds, images

    public int mark(int kind, int r) {
        if (!told.hasRinger(r)) {
            return NO;
        }
        switch (kind) {
            case 0:
                return markRinger(r);
            case 1:
                return markSexton(r);
            case 2:
                return markChild(r);
            case 3:
                return markWarden(r);
            case 4:
                return markNovice(r);
            case 5:
                return markStranger(r);
            default:
                return NO;
        }
    }

    private int markRinger(int r) {
        traced += 1;
        return rota.timesOf(r);
    }

    private int markSexton(int r) {
        traced += 10;
        return markRinger(r) + Integer.bitCount(told.bells[r]);
    }

    private int markChild(int r) {
        traced += 100;
        return markRinger(r) - told.busyHours(r);
    }

    private int markWarden(int r) {
        traced += 1000;
        return markSexton(r) * 2;
    }

    private int markNovice(int r) {
        traced += 10000;
        return markChild(r) + r;
    }

    private int markStranger(int r) {
        traced += 100000;
        return markRinger(r) + told.way(r, rota.tower);
    }

    public int keep(int image) {
        if (image < 0 || image >= IMAGES) {
            return BAD;
        }
        images[image].copy(rota);
        kept[image] = true;
        return rota.turns;
    }

    public int back(int image) {
        if (image < 0 || image >= IMAGES) {
            return BAD;
        }
        if (!kept[image]) {
            return STATE;
        }
        rota.copy(images[image]);
        nights.forTower();
        return rota.turns;
    }

    public int count(int what) {
        switch (what) {
            case 0:
                return told.hours;
            case 1:
                return told.ringers;
            case 2:
                return told.times;
            case 3:
                return told.rest;
            case 4:
                return script.length;
            default:
                return BAD;
        }
    }

    public long trace() {
        return traced;
    }

    /** What a text has told: nothing of it changes until another text is read. */
    private static final class Parish {
        int hours = 0;
        int ringers = 0;
        int tower = 0;
        int times = 1;
        int rest = 0;
        final int[] wants = new int[MOST_HOURS];
        final int[] homes = new int[MOST_RINGERS];
        final int[] bells = new int[MOST_RINGERS];
        final int[] busy = new int[MOST_RINGERS];
        final int[] ills = new int[MOST_RINGERS];

        void empty() {
            hours = 0;
            ringers = 0;
            tower = 0;
            times = 1;
            rest = 0;
        }

        void addHour(int want) {
            if (hours < MOST_HOURS) {
                wants[hours] = want;
                hours++;
            }
        }

        void addRinger(int home, int bellBits, int busyBits, int ill) {
            if (ringers < MOST_RINGERS) {
                homes[ringers] = home;
                bells[ringers] = bellBits;
                busy[ringers] = busyBits;
                ills[ringers] = ill;
                ringers++;
            }
        }

        boolean hasHour(int h) {
            return h >= 0 && h < hours;
        }

        boolean hasRinger(int r) {
            return r >= 0 && r < ringers;
        }

        boolean hasBell(int h, int bell) {
            return hasHour(h) && bell >= 0 && bell < wants[h];
        }

        int wantedInAll() {
            int sum = 0;
            for (int h = 0; h < hours; h++) {
                sum += wants[h];
            }
            return sum;
        }

        /** The bells of an hour that he could ring in it, as bits. */
        int bellsFor(int r, int h) {
            if (!hasRinger(r) || !hasHour(h) || (busy[r] >> h & 1) != 0) {
                return 0;
            }
            return bells[r] & (1 << wants[h]) - 1;
        }

        boolean canRing(int r, int h, int bell) {
            return hasBell(h, bell) && (bellsFor(r, h) >> bell & 1) != 0;
        }

        /** How many of a set of ringers could ring any of these bells in an hour. */
        int ableOf(int h, int among, int bellBits) {
            int able = 0;
            for (int r = 0; r < ringers; r++) {
                if ((among >> r & 1) != 0 && (bellsFor(r, h) & bellBits) != 0) {
                    able++;
                }
            }
            return able;
        }

        int busyHours(int r) {
            return hasRinger(r) ? Integer.bitCount(busy[r] & (1 << hours) - 1) : 0;
        }

        int way(int r, int place) {
            return hasRinger(r) ? Math.abs(homes[r] - place) : 0;
        }

        /** The chance that just this set of ringers is well, in parts of weightInAll(). */
        int weightOf(int well) {
            int weight = 1;
            for (int r = 0; r < ringers; r++) {
                weight *= (well >> r & 1) != 0 ? 10 - ills[r] : ills[r];
            }
            return weight;
        }

        int weightInAll() {
            int weight = 1;
            for (int r = 0; r < ringers; r++) {
                weight *= 10;
            }
            return weight;
        }
    }

    /** THE TEXT, and its reading into a parish; the first fault ends the reading. */
    private static final class Script {
        private static final int HOUR = 0, RINGER = 1, TOWER = 2, TIMES = 3, REST = 4, KINDS = REST + 1;
        private static final int MOST_NUMBERS = 4;
        private static final int NO_FAULT = -1;

        int length = 0;
        private final byte[] text = new byte[MOST_BYTES];
        private int place = 0;
        private int fault = NO_FAULT;
        private final int[] numbers = new int[MOST_NUMBERS];
        private final boolean[] toldOnce = new boolean[KINDS];

        void empty() {
            length = 0;
        }

        void add(byte b) {
            if (length < MOST_BYTES) {
                text[length] = b;
                length++;
            }
        }

        /** How many items there are; -10 less the fault, if there is one. */
        int read(Parish into) {
            place = 0;
            fault = NO_FAULT;
            for (int i = 0; i < KINDS; i++) {
                toldOnce[i] = false;
            }
            into.empty();
            int items = 0;
            skipBlanks();
            for (int i = 0; i < MOST_BYTES && place < length && fault == NO_FAULT; i++) {
                readItem(into);
                items++;
                skipBlanks();
            }
            return fault == NO_FAULT ? items : -10 - fault;
        }

        private void readItem(Parish into) {
            int start = place;
            int kind = kindOfWord();
            if (kind == NONE || !mayStand(kind, into)) {
                fault = start;
                return;
            }
            readNumbers(kind);
            readEnd();
            if (fault == NO_FAULT) {
                tell(kind, into);
            }
        }

        private int kindOfWord() {
            int start = place;
            while (place < length && text[place] >= 'a' && text[place] <= 'z') {
                place++;
            }
            for (int kind = 0; kind < KINDS; kind++) {
                if (isWord(nameOf(kind), start, place)) {
                    return kind;
                }
            }
            return NONE;
        }

        private static String nameOf(int kind) {
            switch (kind) {
                case HOUR:
                    return "hour";
                case RINGER:
                    return "ringer";
                case TOWER:
                    return "tower";
                case TIMES:
                    return "times";
                default:
                    return "rest";
            }
        }

        private boolean isWord(String name, int from, int to) {
            if (name.length() != to - from || to > length) {
                return false;
            }
            for (int i = 0; i < name.length(); i++) {
                if (text[from + i] != name.charAt(i)) {
                    return false;
                }
            }
            return true;
        }

        private boolean mayStand(int kind, Parish into) {
            switch (kind) {
                case HOUR:
                    return into.hours < MOST_HOURS;
                case RINGER:
                    return into.ringers < MOST_RINGERS;
                default:
                    return !toldOnce[kind];
            }
        }

        private void readNumbers(int kind) {
            switch (kind) {
                case HOUR:
                    readNumber(0, 1, MOST_BELLS);
                    break;
                case RINGER:
                    readNumber(0, 0, LAST_PLACE);
                    readNumber(1, 0, 7);
                    readNumber(2, 0, 15);
                    readNumber(3, 0, 9);
                    break;
                case TOWER:
                    readNumber(0, 0, LAST_PLACE);
                    break;
                case TIMES:
                    readNumber(0, 1, 4);
                    break;
                default:
                    readNumber(0, 0, 3);
            }
        }

        private void readNumber(int index, int least, int most) {
            skipBlanks();
            if (fault != NO_FAULT || endsTooEarly()) {
                return;
            }
            int start = place;
            int value = 0;
            while (place < length && text[place] >= '0' && text[place] <= '9') {
                // A long run of digits must not wrap around to a number that may stand.
                value = Math.min(value * 10 + text[place] - '0', 1000);
                place++;
            }
            boolean zeroAhead = place - start > 1 && text[start] == '0';
            if (place == start || zeroAhead || value < least || value > most) {
                fault = start;
                return;
            }
            numbers[index] = value;
        }

        private void readEnd() {
            skipBlanks();
            if (fault != NO_FAULT || endsTooEarly()) {
                return;
            }
            if (text[place] != ';') {
                fault = place;
                return;
            }
            place++;
        }

        private boolean endsTooEarly() {
            if (place >= length) {
                fault = length;
                return true;
            }
            return false;
        }

        private void skipBlanks() {
            while (place < length && text[place] == ' ') {
                place++;
            }
        }

        private void tell(int kind, Parish into) {
            toldOnce[kind] = true;
            switch (kind) {
                case HOUR:
                    into.addHour(numbers[0]);
                    break;
                case RINGER:
                    into.addRinger(numbers[0], numbers[1], numbers[2], numbers[3]);
                    break;
                case TOWER:
                    into.tower = numbers[0];
                    break;
                case TIMES:
                    into.times = numbers[0];
                    break;
                default:
                    into.rest = numbers[0];
            }
        }
    }

    /** What an image keeps: who rings what, where the tower stands, what was heard. */
    private static final class Rota {
        int turns = 0;
        int tower = 0;
        final int[] strokes = new int[MOST_HOURS];
        private final int[] bells = new int[MOST_RINGERS * MOST_HOURS];

        Rota() {
            clean();
        }

        void empty(int place) {
            clean();
            tower = place;
        }

        private void clean() {
            turns = 0;
            for (int h = 0; h < MOST_HOURS; h++) {
                strokes[h] = NONE;
            }
            for (int i = 0; i < bells.length; i++) {
                bells[i] = NONE;
            }
        }

        void copy(Rota other) {
            turns = other.turns;
            tower = other.tower;
            System.arraycopy(other.strokes, 0, strokes, 0, MOST_HOURS);
            System.arraycopy(other.bells, 0, bells, 0, bells.length);
        }

        int bellOf(int r, int h) {
            return isTurn(r, h) ? bells[r * MOST_HOURS + h] : NONE;
        }

        private static boolean isTurn(int r, int h) {
            return r >= 0 && r < MOST_RINGERS && h >= 0 && h < MOST_HOURS;
        }

        boolean hasTurn(int r, int h) {
            return bellOf(r, h) != NONE;
        }

        void give(int r, int h, int bell) {
            if (isTurn(r, h) && !hasTurn(r, h)) {
                bells[r * MOST_HOURS + h] = bell;
                turns++;
            }
        }

        void free(int r, int h) {
            if (hasTurn(r, h)) {
                bells[r * MOST_HOURS + h] = NONE;
                turns--;
            }
        }

        void swap(int r, int q) {
            for (int h = 0; h < MOST_HOURS && isTurn(r, h) && isTurn(q, h); h++) {
                int bell = bells[r * MOST_HOURS + h];
                bells[r * MOST_HOURS + h] = bells[q * MOST_HOURS + h];
                bells[q * MOST_HOURS + h] = bell;
            }
        }

        int ringerAt(int h, int bell) {
            for (int r = 0; r < MOST_RINGERS; r++) {
                if (bellOf(r, h) == bell) {
                    return r;
                }
            }
            return NONE;
        }

        int timesOf(int r) {
            int times = 0;
            for (int h = 0; h < MOST_HOURS; h++) {
                if (hasTurn(r, h)) {
                    times++;
                }
            }
            return times;
        }

        /** Whether he can be put there, if he can ring the bell at all. */
        boolean hasRoom(Parish parish, int r, int h, int bell) {
            if (ringerAt(h, bell) != NONE || timesOf(r) >= parish.times) {
                return false;
            }
            for (int g = 0; g < MOST_HOURS; g++) {
                if (hasTurn(r, g) && Math.abs(h - g) <= parish.rest) {
                    return false;
                }
            }
            return true;
        }

        int ringersIn(int h) {
            int set = 0;
            for (int r = 0; r < MOST_RINGERS; r++) {
                if (hasTurn(r, h)) {
                    set |= 1 << r;
                }
            }
            return set;
        }

        int ringersAtAll() {
            int set = 0;
            for (int h = 0; h < MOST_HOURS; h++) {
                set |= ringersIn(h);
            }
            return set;
        }

        /** Whether all that was heard would have been heard with these ringers away. */
        boolean soundsWithout(int set) {
            for (int h = 0; h < MOST_HOURS; h++) {
                if (strokes[h] != NONE && strokes[h] != Integer.bitCount(ringersIn(h) & ~set)) {
                    return false;
                }
            }
            return true;
        }

        int walk(Parish parish, int place) {
            int sum = 0;
            for (int r = 0; r < parish.ringers; r++) {
                sum += timesOf(r) * 2 * parish.way(r, place);
            }
            return sum;
        }
    }

    /** One hour as if it were alone: by Hall's theorem its bars tell how many bells stay without a ringer. */
    private static final class Crews {
        private Crews() {
        }

        static int most(Parish parish, int h) {
            int lost = 0;
            for (int set = 1; set < 1 << parish.wants[h]; set++) {
                lost = Math.max(lost, lostIn(parish, h, RINGER_SETS - 1, set));
            }
            return parish.wants[h] - lost;
        }

        static int firstBar(Parish parish, int h, int among) {
            for (int set = 1; set < 1 << parish.wants[h]; set++) {
                if (lostIn(parish, h, among, set) > 0) {
                    return set;
                }
            }
            return NONE;
        }

        private static int lostIn(Parish parish, int h, int among, int set) {
            return Integer.bitCount(set) - parish.ableOf(h, among, set);
        }

        /** The chance of a full crew, in parts of the parish's weightInAll(). */
        static int fullWeight(Parish parish, int h) {
            int sum = 0;
            for (int well = 0; well < 1 << parish.ringers; well++) {
                int weight = parish.weightOf(well);
                if (weight > 0 && firstBar(parish, h, well) == NONE) {
                    sum += weight;
                }
            }
            return sum;
        }
    }

    /**
     * Nights: who rings in an hour is a set of ringers, and a rota is lawful if each hour's set can be seated at its
     * bells and no ringer is in sets too many or too near. The price of a set puts what it is short over what it
     * walks over where it stands among the rotas (two bits for each ringer and hour, ringer 0 and hour 0 highest), so
     * that the cheapest night is the first of the best.
     */
    private static final class Nights {
        private static final int SHORT_AT = 59, WALK_AT = 48, TOP_TURN = 46;
        private static final long WHOLE = -1L, SHORT_ALONE = 15L << SHORT_AT;
        private static final long FAR = ~(1L << 63);
        private static final int LAST_HOUR = MOST_HOURS - 1;
        private static final int UNKNOWN = -1;

        private boolean settled = false;
        private int ringers = 0;
        private int times = 1;
        private int rest = 0;
        private long cheapest = 0;
        private int fewest = UNKNOWN;
        private int even = UNKNOWN;
        private int missed = UNKNOWN;
        private final int[] sets = new int[MOST_HOURS * RINGER_SETS];
        private final int[] setsIn = new int[MOST_HOURS];
        private final long[] price = new long[MOST_HOURS * RINGER_SETS];
        private final long[] leastWithin = new long[MOST_HOURS * RINGER_SETS];

        private int among = 0;
        private int timesNow = 0;
        private long counted = WHOLE;
        private long found = FAR;
        private final int[] picked = new int[MOST_HOURS];

        void forParish() {
            settled = false;
            fewest = UNKNOWN;
            even = UNKNOWN;
            missed = UNKNOWN;
        }

        /** Where the tower stands changes the walk alone. */
        void forTower() {
            settled = false;
        }

        void settle(Parish parish, int tower) {
            if (settled) {
                return;
            }
            ringers = parish.ringers;
            times = parish.times;
            rest = parish.rest;
            for (int h = 0; h < MOST_HOURS; h++) {
                priceHour(parish, tower, h);
                findLeast(h);
            }
            cheapest = search(WHOLE, everyone(), times, FAR);
            settled = true;
        }

        private int everyone() {
            return (1 << ringers) - 1;
        }

        int fewestShort() {
            return (int) (cheapest >>> SHORT_AT);
        }

        int leastWalk() {
            return (int) (cheapest >>> WALK_AT & (1L << SHORT_AT - WALK_AT) - 1);
        }

        int firstBell(int r, int h) {
            int turn = (int) (cheapest >>> shiftOf(r, h) & 3);
            return turn == 0 ? NONE : turn - 1;
        }

        int fewestRingers() {
            if (fewest == UNKNOWN) {
                fewest = 0;
                while (fewest < ringers && !areEnough(fewest)) {
                    fewest++;
                }
            }
            return fewest;
        }

        private boolean areEnough(int size) {
            for (int set = 0; set <= everyone(); set++) {
                if (Integer.bitCount(set) == size && isEnough(set, times)) {
                    return true;
                }
            }
            return false;
        }

        int mostEven() {
            if (even == UNKNOWN) {
                even = times;
                for (int t = times - 1; t >= 0 && isEnough(everyone(), t); t--) {
                    even = t;
                }
            }
            return even;
        }

        int missedRingers() {
            if (missed == UNKNOWN) {
                missed = 0;
                for (int r = 0; r < ringers; r++) {
                    if (ringsInFirst(r) && !isEnough(everyone() & ~(1 << r), times)) {
                        missed |= 1 << r;
                    }
                }
            }
            return missed;
        }

        private boolean ringsInFirst(int r) {
            for (int h = 0; h < MOST_HOURS; h++) {
                if (firstBell(r, h) != NONE) {
                    return true;
                }
            }
            return false;
        }

        /** Whether no more is short with these ringers alone, each so many times at most. */
        private boolean isEnough(int set, int timesAtMost) {
            long aim = cheapest & SHORT_ALONE;
            return search(SHORT_ALONE, set, timesAtMost, aim + 1) <= aim;
        }

        private static int shiftOf(int r, int h) {
            return TOP_TURN - 2 * (r * MOST_HOURS + h);
        }

        private void priceHour(Parish parish, int tower, int h) {
            int want = parish.hasHour(h) ? parish.wants[h] : 0;
            setsIn[h] = 0;
            for (int set = RINGER_SETS - 1; set >= 0; set--) {
                int size = Integer.bitCount(set);
                long seats = size > want ? NONE : seatsOf(parish, h, set, 0, 0);
                long cost = FAR;
                if (seats >= 0) {
                    cost = ((long) (want - size) << SHORT_AT) + ((long) walkOf(parish, tower, set) << WALK_AT) + seats;
                }
                price[h * RINGER_SETS + set] = cost;
                if (seats >= 0) {
                    addInOrder(h, set);
                }
            }
        }

        /** The cheapest sets stand first, so that a search may leave an hour at the first that is too dear. */
        private void addInOrder(int h, int set) {
            int row = h * RINGER_SETS;
            int at = row + setsIn[h];
            while (at > row && price[row + sets[at - 1]] > price[row + set]) {
                sets[at] = sets[at - 1];
                at--;
            }
            sets[at] = set;
            setsIn[h]++;
        }

        private static int walkOf(Parish parish, int tower, int set) {
            int sum = 0;
            for (int r = 0; r < parish.ringers; r++) {
                if ((set >> r & 1) != 0) {
                    sum += 2 * parish.way(r, tower);
                }
            }
            return sum;
        }

        /** The first way to seat a set's ringers from r on at the bells that are not taken; below 0: there is none. */
        private static long seatsOf(Parish parish, int h, int set, int r, int taken) {
            if (r >= MOST_RINGERS || set >> r == 0) {
                return 0;
            }
            if ((set >> r & 1) == 0) {
                return seatsOf(parish, h, set, r + 1, taken);
            }
            int open = parish.bellsFor(r, h) & ~taken;
            for (int bell = 0; bell < MOST_BELLS; bell++) {
                if ((open >> bell & 1) != 0) {
                    long others = seatsOf(parish, h, set, r + 1, taken | 1 << bell);
                    if (others >= 0) {
                        return others + ((long) (bell + 1) << shiftOf(r, h));
                    }
                }
            }
            return NONE;
        }

        private void findLeast(int h) {
            int row = h * RINGER_SETS;
            for (int set = 0; set < RINGER_SETS; set++) {
                long least = price[row + set];
                for (int r = 0; r < MOST_RINGERS; r++) {
                    if ((set >> r & 1) != 0) {
                        least = Math.min(least, leastWithin[row + set - (1 << r)]);
                    }
                }
                leastWithin[row + set] = least;
            }
        }

        /** The least price of a night, by its counted bits, of those below a limit; the limit: there is none. */
        private long search(long bits, int ringersOf, int timesAtMost, long limit) {
            counted = bits;
            among = ringersOf;
            timesNow = timesAtMost;
            found = limit;
            seek(this, 0, 0);
            return found;
        }

        private static void seek(Nights of, int h, long paid) {
            if (h < 0 || h > LAST_HOUR) {
                return;
            }
            long later = of.leastAfter(h);
            int open = of.openIn(h, h);
            int row = h * RINGER_SETS;
            long least = paid + later + (of.leastWithin[row + open] & of.counted);
            if (least >= of.found) {
                return;
            }
            if (h == LAST_HOUR) {
                of.found = least;
                return;
            }
            for (int i = 0; i < of.setsIn[h]; i++) {
                int set = of.sets[row + i];
                long sum = paid + (of.price[row + set] & of.counted);
                if (sum + later >= of.found || least >= of.found) {
                    return;
                }
                if ((set & ~open) == 0) {
                    of.picked[h] = set;
                    seek(of, h + 1, sum);
                }
            }
        }

        /** What the hours after h cost at least, by what is picked ahead of h. */
        private long leastAfter(int h) {
            long sum = 0;
            for (int k = h + 1; k < MOST_HOURS; k++) {
                sum += leastWithin[k * RINGER_SETS + openIn(k, h)] & counted;
            }
            return sum;
        }

        /** Who may still ring in an hour, by what is picked in the first hours. */
        private int openIn(int h, int first) {
            int once = 0;
            int twice = 0;
            int thrice = 0;
            int resting = 0;
            for (int g = 0; g < first && g < MOST_HOURS; g++) {
                int set = picked[g];
                thrice |= twice & set;
                twice |= once & set;
                once |= set;
                if (h - g <= rest) {
                    resting |= set;
                }
            }
            switch (timesNow) {
                case 0:
                    return 0;
                case 1:
                    return among & ~(resting | once);
                case 2:
                    return among & ~(resting | twice);
                case 3:
                    return among & ~(resting | thrice);
                default:
                    return among & ~resting;
            }
        }
    }
}
