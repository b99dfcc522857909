import java.math.BigInteger;
import java.util.ArrayList;
import java.util.Arrays;
import java.util.List;
import java.util.TreeMap;
import java.util.regex.Matcher;
import java.util.regex.Pattern;

/** The document once more, in the plainest way and with the whole library: what each call is due to answer. */
final class Model {
    private static final int BAD = -1, STATE = -2, FULL = -3, NONE = -9, NO = -1000000;

    List<Integer> wants = new ArrayList<>();
    List<int[]> ringers = new ArrayList<>();
    int tower = 0;
    int times = 1;
    int rest = 0;
    private StringBuilder text = new StringBuilder();
    /** A turn is ringer * 100 + hour * 10 + bell. */
    private List<Integer> rota = new ArrayList<>();
    private TreeMap<Integer, Integer> heard = new TreeMap<>();
    private final Image[] images = new Image[2];
    private long trace = 0;
    private ModelNights nights = null;

    private static final class Image {
        List<Integer> rota;
        TreeMap<Integer, Integer> heard;
        int tower;
    }

    private static int ringerOf(int turn) {
        return turn / 100;
    }

    private static int hourOf(int turn) {
        return turn / 10 % 10;
    }

    private static int bellOf(int turn) {
        return turn % 10;
    }

    private boolean isRinger(int r) {
        return r >= 0 && r < ringers.size();
    }

    private boolean isHour(int h) {
        return h >= 0 && h < wants.size();
    }

    private boolean can(int r, int h, int bell) {
        int[] told = ringers.get(r);
        return bell < wants.get(h) && (told[1] & 1 << bell) != 0 && (told[2] & 1 << h) == 0;
    }

    /** By the document's words, turn against turn. */
    boolean isLawful(List<Integer> turns) {
        for (int a : turns) {
            if (!can(ringerOf(a), hourOf(a), bellOf(a))) {
                return false;
            }
            int rung = 0;
            for (int b : turns) {
                if (ringerOf(a) == ringerOf(b)) {
                    rung++;
                }
            }
            if (rung > times) {
                return false;
            }
        }
        for (int i = 0; i < turns.size(); i++) {
            for (int j = 0; j < i; j++) {
                int a = turns.get(i);
                int b = turns.get(j);
                if (hourOf(a) == hourOf(b) && (bellOf(a) == bellOf(b) || ringerOf(a) == ringerOf(b))) {
                    return false;
                }
                int g = Math.min(hourOf(a), hourOf(b));
                int h = Math.max(hourOf(a), hourOf(b));
                if (ringerOf(a) == ringerOf(b) && !(h > g + rest)) {
                    return false;
                }
            }
        }
        return true;
    }

    /** All lawful nights of one ringer, three bits an hour. */
    int[] nightsOf(int r, int timesAtMost) {
        List<Integer> found = new ArrayList<>();
        for (int code = 0; code < 256; code++) {
            List<Integer> turns = new ArrayList<>();
            int night = 0;
            boolean fits = true;
            for (int h = 0; h < 4; h++) {
                int bell = (code >> 2 * h & 3) - 1;
                if (bell >= 0) {
                    fits &= isHour(h);
                    turns.add(r * 100 + h * 10 + bell);
                    night |= 1 << 3 * h + bell;
                }
            }
            if (fits && turns.size() <= timesAtMost && isLawful(turns)) {
                found.add(night);
            }
        }
        return found.stream().mapToInt(Integer::intValue).toArray();
    }

    int type(long v, int n) {
        if (n < 1 || n > 8) {
            return BAD;
        }
        if (text.length() + n > 200) {
            return FULL;
        }
        for (int i = n; i > 0; i--) {
            text.append((char) (v >> (i - 1) * 8 & 0xff));
        }
        return text.length();
    }

    int clear() {
        int had = text.length();
        text.setLength(0);
        return had;
    }

    private static final class Fault extends Exception {
        final int place;

        Fault(int place) {
            this.place = place;
        }
    }

    private static final Pattern TOKEN = Pattern.compile(" *(?:([a-z]+)|([0-9]+)|(;)|([^ ]))", Pattern.DOTALL);

    /** Tokens as {place, kind (w, n, ;, ?), text}. */
    private List<Object[]> tokens() {
        List<Object[]> tokens = new ArrayList<>();
        Matcher matcher = TOKEN.matcher(text);
        int from = 0;
        while (matcher.find(from) && matcher.start() == from) {
            for (int group = 1; group <= 4; group++) {
                if (matcher.group(group) != null) {
                    tokens.add(new Object[] {matcher.start(group), "wn;?".charAt(group - 1), matcher.group(group)});
                }
            }
            from = matcher.end();
        }
        return tokens;
    }

    int parish() {
        Model draft = new Model();
        int items;
        try {
            items = draft.readItems(tokens(), text.length());
        } catch (Fault fault) {
            return -10 - fault.place;
        }
        wants = draft.wants;
        ringers = draft.ringers;
        tower = draft.tower;
        times = draft.times;
        rest = draft.rest;
        text.setLength(0);
        rota.clear();
        heard.clear();
        images[0] = null;
        images[1] = null;
        nights = null;
        return items;
    }

    private int readItems(List<Object[]> tokens, int length) throws Fault {
        List<String> once = new ArrayList<>();
        int items = 0;
        int at = 0;
        while (at < tokens.size()) {
            int place = (int) tokens.get(at)[0];
            String word = (String) tokens.get(at)[2];
            int[][] limits;
            switch (word) {
                case "hour":
                    limits = new int[][] {{1, 3}};
                    break;
                case "ringer":
                    limits = new int[][] {{0, 60}, {0, 7}, {0, 15}, {0, 9}};
                    break;
                case "tower":
                    limits = new int[][] {{0, 60}};
                    break;
                case "times":
                    limits = new int[][] {{1, 4}};
                    break;
                case "rest":
                    limits = new int[][] {{0, 3}};
                    break;
                default:
                    throw new Fault(place);
            }
            if (once.contains(word) || word.equals("hour") && wants.size() == 4 || word.equals("ringer") && ringers.size() == 6) {
                throw new Fault(place);
            }
            at++;
            int[] numbers = new int[limits.length];
            for (int i = 0; i < limits.length; i++, at++) {
                numbers[i] = number(tokens, at, limits[i], length);
            }
            if (at == tokens.size()) {
                throw new Fault(length);
            }
            if (!tokens.get(at)[2].equals(";")) {
                throw new Fault((int) tokens.get(at)[0]);
            }
            at++;
            items++;
            switch (word) {
                case "hour":
                    wants.add(numbers[0]);
                    break;
                case "ringer":
                    ringers.add(numbers);
                    break;
                case "tower":
                    tower = numbers[0];
                    once.add(word);
                    break;
                case "times":
                    times = numbers[0];
                    once.add(word);
                    break;
                default:
                    rest = numbers[0];
                    once.add(word);
            }
        }
        return items;
    }

    private static int number(List<Object[]> tokens, int at, int[] limit, int length) throws Fault {
        if (at >= tokens.size()) {
            throw new Fault(length);
        }
        String digits = (String) tokens.get(at)[2];
        boolean stands = (char) tokens.get(at)[1] == 'n' && digits.length() <= 2 && !digits.matches("0.+");
        if (!stands || Integer.parseInt(digits) < limit[0] || Integer.parseInt(digits) > limit[1]) {
            throw new Fault((int) tokens.get(at)[0]);
        }
        return Integer.parseInt(digits);
    }

    private int turnsOf(int r) {
        return (int) rota.stream().filter(turn -> ringerOf(turn) == r).count();
    }

    private int turnsIn(int h) {
        return (int) rota.stream().filter(turn -> hourOf(turn) == h).count();
    }

    int ringer(int r, int what) {
        if (!isRinger(r) || what < 0 || what > 4) {
            return BAD;
        }
        return what < 4 ? ringers.get(r)[what] : turnsOf(r);
    }

    int hour(int h, int what) {
        if (!isHour(h) || what < 0 || what > 2) {
            return BAD;
        }
        return what == 0 ? wants.get(h) : what == 1 ? wants.get(h) - turnsIn(h) : heard.getOrDefault(h, NONE);
    }

    int put(int r, int h, int bell) {
        if (!isRinger(r) || !isHour(h) || bell < 0 || bell >= wants.get(h)) {
            return BAD;
        }
        List<Integer> turns = new ArrayList<>(rota);
        turns.add(r * 100 + h * 10 + bell);
        if (!isLawful(turns)) {
            return STATE;
        }
        rota = turns;
        return rota.size();
    }

    int rings(int h, int bell) {
        if (!isHour(h) || bell < 0 || bell >= wants.get(h)) {
            return BAD;
        }
        return rota.stream().filter(turn -> turn % 100 == h * 10 + bell).map(Model::ringerOf).findAny().orElse(NONE);
    }

    int take(int r, int h) {
        if (!isRinger(r) || !isHour(h)) {
            return BAD;
        }
        for (int turn : rota) {
            if (turn / 10 == r * 10 + h) {
                rota.remove((Integer) turn);
                return bellOf(turn);
            }
        }
        return STATE;
    }

    int exchange(int r, int q) {
        if (!isRinger(r) || !isRinger(q) || r == q) {
            return BAD;
        }
        List<Integer> turns = new ArrayList<>();
        for (int turn : rota) {
            int who = ringerOf(turn) == r ? q : ringerOf(turn) == q ? r : ringerOf(turn);
            turns.add(who * 100 + turn % 100);
        }
        if (!isLawful(turns)) {
            return STATE;
        }
        rota = turns;
        return turnsOf(r) + turnsOf(q);
    }

    private int walkTo(int place) {
        return rota.stream().mapToInt(turn -> 2 * Math.abs(ringers.get(ringerOf(turn))[0] - place)).sum();
    }

    int now(int what) {
        switch (what) {
            case 0:
                return wants.stream().mapToInt(Integer::intValue).sum() - rota.size();
            case 1:
                return walkTo(tower);
            case 2:
                return rota.size();
            case 3:
                return tower;
            default:
                return BAD;
        }
    }

    int moves(int x) {
        if (x < 0 || x > 60) {
            return BAD;
        }
        int was = tower;
        tower = x;
        return was;
    }

    /** The most bells from bell on, by trying each ringer who is left at each. */
    private int crewFrom(int h, int bell, int left) {
        if (bell == wants.get(h)) {
            return 0;
        }
        int most = crewFrom(h, bell + 1, left);
        for (int r = 0; r < ringers.size(); r++) {
            if ((left >> r & 1) != 0 && can(r, h, bell)) {
                most = Math.max(most, 1 + crewFrom(h, bell + 1, left & ~(1 << r)));
            }
        }
        return most;
    }

    int crew(int h) {
        return isHour(h) ? crewFrom(h, 0, 63) : BAD;
    }

    int bars(int h) {
        if (!isHour(h)) {
            return BAD;
        }
        for (int set = 0; set < 1 << wants.get(h); set++) {
            int able = 0;
            for (int r = 0; r < ringers.size(); r++) {
                boolean any = false;
                for (int bell = 0; bell < 3; bell++) {
                    any |= (set >> bell & 1) != 0 && can(r, h, bell);
                }
                able += any ? 1 : 0;
            }
            if (able < Integer.bitCount(set)) {
                return set;
            }
        }
        return NONE;
    }

    private ModelNights nights() {
        if (nights == null) {
            nights = new ModelNights(this);
        }
        return nights;
    }

    int night(int what) {
        switch (what) {
            case 0:
                return nights().fewestShort();
            case 1:
                return nights().leastWalk();
            case 2:
                return nights().fewestRingers();
            case 3:
                return nights().mostEven();
            default:
                return BAD;
        }
    }

    int best(int r, int h) {
        return isRinger(r) && isHour(h) ? nights().best()[r][h] : BAD;
    }

    int needed() {
        return nights().needed();
    }

    int odds(int h, int what) {
        if (!isHour(h) || what < 0 || what > 1) {
            return BAD;
        }
        BigInteger upper = BigInteger.ZERO;
        BigInteger lower = BigInteger.TEN.pow(ringers.size());
        for (int well = 0; well < 1 << ringers.size(); well++) {
            if (crewFrom(h, 0, well) == wants.get(h)) {
                BigInteger chance = BigInteger.ONE;
                for (int r = 0; r < ringers.size(); r++) {
                    int ill = ringers.get(r)[3];
                    chance = chance.multiply(BigInteger.valueOf((well >> r & 1) != 0 ? 10 - ill : ill));
                }
                upper = upper.add(chance);
            }
        }
        return (what == 0 ? upper : lower).divide(upper.gcd(lower)).intValueExact();
    }

    int stands(int what) {
        if (what < 0 || what > 1) {
            return BAD;
        }
        int[] walks = new int[61];
        Arrays.setAll(walks, this::walkTo);
        int least = Arrays.stream(walks).min().getAsInt();
        if (what == 1) {
            return least;
        }
        int place = 0;
        while (walks[place] != least) {
            place++;
        }
        return place;
    }

    int heard(int h, int strokes) {
        if (!isHour(h) || strokes < 0 || strokes > 3) {
            return BAD;
        }
        Integer ahead = heard.put(h, strokes);
        return ahead == null ? NONE : ahead;
    }

    int forget() {
        int had = heard.size();
        heard.clear();
        return had;
    }

    int away(int what) {
        if (what < 0 || what > 2) {
            return BAD;
        }
        int in = 0;
        for (int turn : rota) {
            in |= 1 << ringerOf(turn);
        }
        List<Integer> ways = new ArrayList<>();
        for (int set = 0; set < 64; set++) {
            if ((set | in) == in && fits(set)) {
                ways.add(set);
            }
        }
        if (what == 0) {
            return ways.size();
        }
        int bits = 0;
        for (int r = 0; r < 6; r++) {
            int bit = 1 << r;
            long with = ways.stream().filter(set -> (set & bit) != 0).count();
            if (what == 1 && !ways.isEmpty() && with == ways.size() || what == 2 && with == 0 && (in & bit) != 0) {
                bits |= bit;
            }
        }
        return bits;
    }

    private boolean fits(int set) {
        for (int h : heard.keySet()) {
            long rang = rota.stream().filter(turn -> hourOf(turn) == h && (set >> ringerOf(turn) & 1) == 0).count();
            if (rang != heard.get(h)) {
                return false;
            }
        }
        return true;
    }

    int mark(int kind, int r) {
        if (!isRinger(r) || kind < 0 || kind > 5) {
            return NO;
        }
        int[] told = ringers.get(r);
        int busy = 0;
        for (int h = 0; h < wants.size(); h++) {
            busy += told[2] >> h & 1;
        }
        int bells = (told[1] & 1) + (told[1] >> 1 & 1) + (told[1] >> 2 & 1);
        int turns = turnsOf(r);
        trace += new int[] {1, 11, 101, 1011, 10101, 100001}[kind];
        return new int[] {turns, turns + bells, turns - busy, (turns + bells) * 2, turns - busy + r,
                turns + Math.abs(told[0] - tower)}[kind];
    }

    int keep(int image) {
        if (image < 0 || image > 1) {
            return BAD;
        }
        images[image] = new Image();
        images[image].rota = new ArrayList<>(rota);
        images[image].heard = new TreeMap<>(heard);
        images[image].tower = tower;
        return rota.size();
    }

    int back(int image) {
        if (image < 0 || image > 1) {
            return BAD;
        }
        if (images[image] == null) {
            return STATE;
        }
        rota = new ArrayList<>(images[image].rota);
        heard = new TreeMap<>(images[image].heard);
        tower = images[image].tower;
        return rota.size();
    }

    int count(int what) {
        int[] counts = {wants.size(), ringers.size(), times, rest, text.length()};
        return what < 0 || what > 4 ? BAD : counts[what];
    }

    long trace() {
        return trace;
    }
}
