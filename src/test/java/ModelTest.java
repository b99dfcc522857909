import java.util.ArrayList;
import java.util.List;

/** Long runs of calls, right and wrong ones, whose answers must be those of the model; the same runs each time. */
public final class ModelTest {
    private static final int RUNS = 2000;
    /** An object is used for so many calls; most steps take three at most, one that reads another text these. */
    private static final int CALLS = 512;
    private static final int STEP = 3;
    private static final int LONGEST_STEP = 160;
    private static final int NIGHTS = 400;
    private static final int SMALL_NIGHTS = 400;
    private static final int TEXTS = 20000;

    private static long seed = 20261119;
    /** So many calls at most have been made on the object of a run. */
    private static int calls = 0;

    public static void main(String[] args) {
        texts();
        runs();
        nights();
        smallNights();
        Check.end();
    }

    private static int any(int n) {
        seed = seed * 6364136223846793005L + 1442695040888963407L;
        return (int) ((seed >>> 33) % n);
    }

    private static boolean one(int in) {
        return any(in) == 0;
    }

    private static String blanks() {
        return one(6) ? " ".repeat(1 + any(3)) : "";
    }

    private static String ringer(int bells, int busy) {
        return "ringer" + blanks() + any(61) + " " + bells + " " + blanks() + busy + " " + any(10) + blanks() + ";" + blanks();
    }

    private static String parish(int hours, int ringers) {
        StringBuilder text = new StringBuilder();
        int strict = any(3);
        for (int h = 0; h < hours; h++) {
            text.append("hour").append(blanks()).append(strict == 0 ? 3 : 1 + any(3)).append(blanks()).append(";");
        }
        for (int r = 0; r < ringers; r++) {
            int bells = strict == 1 ? 7 : one(2) ? any(8) : 7;
            text.append(ringer(bells, one(2) ? 0 : one(2) ? 1 << any(4) : any(16)));
        }
        if (!one(4)) {
            text.append("tower").append(any(61)).append(";");
        }
        if (!one(4)) {
            text.append("times").append(1 + any(4)).append(";");
        }
        if (one(2)) {
            text.append("rest").append(any(4)).append(";");
        }
        return text.length() > 200 ? parish(hours, ringers - 1) : text.toString();
    }

    /** A text with a few bytes or tokens put in, left out or changed. */
    private static String spoilt(String text) {
        String[] parts = {"hour", "ringer", "tower", "times", "rest", ";", " ", "0", "00", "7", "61", "100", "hours", "x",
            "\u00e9", "A", "hour 1;", "rest 0;", "ringer 1 7 0 0;", "\n", "4", "16"};
        StringBuilder spoilt = new StringBuilder(text);
        for (int i = any(3); i >= 0; i--) {
            int at = any(spoilt.length() + 1);
            int kind = any(3);
            if (kind == 0) {
                spoilt.insert(at, parts[any(parts.length)]);
            } else if (at < spoilt.length() && kind == 1) {
                spoilt.deleteCharAt(at);
            } else {
                spoilt.setLength(at);
                spoilt.append(one(2) ? parts[any(parts.length)] : "");
            }
        }
        return spoilt.length() > 200 ? spoilt.substring(0, 200) : spoilt.toString();
    }

    private static void texts() {
        for (int i = 0; i < TEXTS; i++) {
            String text = parish(any(6), any(8));
            text = one(4) ? text : spoilt(text);
            HourRingers x = new HourRingers();
            Model m = new Model();
            type(x, m, text);
            Check.due("parish() of " + text, x.parish(), m.parish());
            told("parish() of " + text, x, m);
        }
    }

    private static void type(HourRingers x, Model m, String text) {
        Check.type(x, text);
        for (int i = 0; i < text.length(); i++) {
            m.type(text.charAt(i), 1);
        }
        calls += (text.length() + 7) / 8;
    }

    private static void told(String why, HourRingers x, Model m) {
        for (int i = -1; i < 7; i++) {
            Check.due(why + ": count(" + i + ")", x.count(i), m.count(i));
            Check.due(why + ": now(" + i + ")", x.now(i), m.now(i));
            for (int what = -1; what < 6; what++) {
                Check.due(why + ": ringer(" + i + ", " + what + ")", x.ringer(i, what), m.ringer(i, what));
                Check.due(why + ": hour(" + i + ", " + what + ")", x.hour(i, what), m.hour(i, what));
            }
        }
        calls += 8 * (2 + 7 * 2);
    }

    private static void runs() {
        for (int run = 0; run < RUNS; run++) {
            HourRingers x = new HourRingers();
            Model m = new Model();
            calls = 0;
            String text = parish(1 + any(4), 2 + any(5));
            type(x, m, text);
            Check.due("run " + run + ": parish()", x.parish(), m.parish());
            calls++;
            while (calls + STEP <= CALLS) {
                step("run " + run + ", call " + calls + " after " + text, x, m);
                calls += STEP;
            }
        }
    }

    private static int ringerNumber() {
        return one(25) ? wild() : any(6);
    }

    private static int hourNumber() {
        return one(25) ? wild() : any(4);
    }

    private static int wild() {
        int[] wild = {-1, 3, 4, 5, 6, 7, 31, 32, 61, 64, Integer.MIN_VALUE, Integer.MAX_VALUE};
        return wild[any(wild.length)];
    }

    private static int what(int most) {
        return one(25) ? wild() : any(most + 1);
    }

    private static void step(String why, HourRingers x, Model m) {
        int a = ringerNumber();
        int b = ringerNumber();
        int h = hourNumber();
        int w = what(3);
        int bell = what(2);
        int kind = any(100);
        if (kind < 30) {
            Check.due(why + ": put(" + a + ", " + h + ", " + bell + ")", x.put(a, h, bell), m.put(a, h, bell));
        } else if (kind < 38) {
            Check.due(why + ": take(" + a + ", " + h + ")", x.take(a, h), m.take(a, h));
        } else if (kind < 45) {
            Check.due(why + ": exchange(" + a + ", " + b + ")", x.exchange(a, b), m.exchange(a, b));
        } else if (kind < 50) {
            Check.due(why + ": rings(" + h + ", " + bell + ")", x.rings(h, bell), m.rings(h, bell));
        } else if (kind < 56) {
            Check.due(why + ": now(" + w + ")", x.now(w), m.now(w));
        } else if (kind < 60) {
            int place = one(5) ? wild() : any(61);
            Check.due(why + ": moves(" + place + ")", x.moves(place), m.moves(place));
        } else if (kind < 66) {
            Check.due(why + ": heard(" + h + ", " + w + ")", x.heard(h, w), m.heard(h, w));
        } else if (kind < 67) {
            Check.due(why + ": forget()", x.forget(), m.forget());
        } else if (kind < 75) {
            Check.due(why + ": away(" + bell + ")", x.away(bell), m.away(bell));
        } else if (kind < 80) {
            int of = what(5);
            Check.due(why + ": mark(" + of + ", " + a + ")", x.mark(of, a), m.mark(of, a));
            Check.due(why + ": trace()", x.trace(), m.trace());
        } else if (kind < 83) {
            Check.due(why + ": keep(" + bell + ")", x.keep(bell), m.keep(bell));
        } else if (kind < 86) {
            Check.due(why + ": back(" + bell + ")", x.back(bell), m.back(bell));
        } else if (kind < 89) {
            Check.due(why + ": stands(" + w + ")", x.stands(w), m.stands(w));
        } else if (kind < 92) {
            Check.due(why + ": hour(" + h + ", " + w + ")", x.hour(h, w), m.hour(h, w));
        } else if (kind < 94) {
            int of = what(4);
            Check.due(why + ": ringer(" + a + ", " + of + ")", x.ringer(a, of), m.ringer(a, of));
        } else if (kind < 96) {
            Check.due(why + ": crew(" + h + ")", x.crew(h), m.crew(h));
            Check.due(why + ": bars(" + h + ")", x.bars(h), m.bars(h));
            Check.due(why + ": odds(" + h + ", " + bell + ")", x.odds(h, bell), m.odds(h, bell));
        } else if (kind < 98) {
            typeAny(why, x, m);
        } else if (one(10)) {
            Check.due(why + ": night(" + w + ")", x.night(w), m.night(w));
            Check.due(why + ": best(" + a + ", " + h + ")", x.best(a, h), m.best(a, h));
        } else if (one(20) && calls + LONGEST_STEP <= CALLS) {
            Check.due(why + ": clear()", x.clear(), m.clear());
            type(x, m, parish(any(5), any(7)));
            Check.due(why + ": parish()", x.parish(), m.parish());
            told(why, x, m);
        }
    }

    private static void typeAny(String why, HourRingers x, Model m) {
        long v = seed ^ seed << 17;
        int n = any(11) - 1;
        Check.due(why + ": type(" + v + ", " + n + ")", x.type(v, n), m.type(v, n));
        if (one(3)) {
            Check.due(why + ": parish()", x.parish(), m.parish());
        }
        if (one(5)) {
            Check.due(why + ": clear()", x.clear(), m.clear());
        }
    }

    private static void night(String text, HourRingers x, Model m) {
        for (int what = 3; what >= 0; what--) {
            Check.due("night(" + what + ") of " + text, x.night(what), m.night(what));
        }
        Check.due("needed() of " + text, x.needed(), m.needed());
        int[][] best = new ModelNights(m).best();
        for (int r = 0; r < best.length; r++) {
            for (int h = 0; h < best[r].length; h++) {
                Check.due("best(" + r + ", " + h + ") of " + text, x.best(r, h), best[r][h]);
            }
        }
    }

    private static void nights() {
        for (int i = 0; i < NIGHTS; i++) {
            String text = parish(2 + any(3), 3 + any(4));
            HourRingers x = Check.told(text);
            Model m = new Model();
            type(new HourRingers(), m, text);
            m.parish();
            night(text, x, m);
            for (int h = 0; h < m.wants.size(); h++) {
                Check.due("crew(" + h + ") of " + text, x.crew(h), m.crew(h));
                Check.due("bars(" + h + ") of " + text, x.bars(h), m.bars(h));
                Check.due("odds(" + h + ", 0) of " + text, x.odds(h, 0), m.odds(h, 0));
                Check.due("odds(" + h + ", 1) of " + text, x.odds(h, 1), m.odds(h, 1));
            }
            int place = any(61);
            x.moves(place);
            m.moves(place);
            night("the tower at " + place + ", " + text, x, m);
        }
    }

    /** Every rota of a small parish, one by one and in the order of BEST: neither search is trusted here. */
    private static final class EveryRota {
        private final Model m;
        private final List<Integer> turns = new ArrayList<>();
        private List<Integer> best = new ArrayList<>();
        private int most = -1;
        private int walk = 0;
        private int fewest = 0;
        private int even = 0;
        private int without = 0;

        EveryRota(Model m) {
            this.m = m;
        }

        void from(int r, int h) {
            if (r == m.ringers.size()) {
                look();
                return;
            }
            int nextHour = h + 1 == m.wants.size() ? 0 : h + 1;
            int nextRinger = nextHour == 0 ? r + 1 : r;
            from(nextRinger, nextHour);
            for (int bell = 0; bell < m.wants.get(h); bell++) {
                turns.add(r * 100 + h * 10 + bell);
                if (m.isLawful(turns)) {
                    from(nextRinger, nextHour);
                }
                turns.remove(turns.size() - 1);
            }
        }

        private void look() {
            int[] rung = new int[6];
            int sum = 0;
            for (int turn : turns) {
                rung[turn / 100]++;
                sum += 2 * Math.abs(m.ringers.get(turn / 100)[0] - m.tower);
            }
            int ringing = 0;
            int often = 0;
            int idle = 0;
            for (int r = 0; r < 6; r++) {
                ringing += rung[r] > 0 ? 1 : 0;
                often = Math.max(often, rung[r]);
                idle |= rung[r] == 0 ? 1 << r : 0;
            }
            boolean isFirst = turns.size() > most;
            if (isFirst) {
                without = 0;
            }
            if (isFirst || turns.size() == most) {
                fewest = isFirst ? ringing : Math.min(fewest, ringing);
                even = isFirst ? often : Math.min(even, often);
                without |= idle;
                if (isFirst || sum < walk) {
                    walk = sum;
                    best = new ArrayList<>(turns);
                }
                most = turns.size();
            }
        }
    }

    private static void smallNights() {
        for (int i = 0; i < SMALL_NIGHTS; i++) {
            String text = parish(1 + any(i % 20 == 0 ? 3 : 2), 1 + any(i % 20 == 0 ? 3 : 4));
            HourRingers x = Check.told(text);
            Model m = new Model();
            type(new HourRingers(), m, text);
            m.parish();
            EveryRota every = new EveryRota(m);
            every.from(0, 0);
            int wanted = m.wants.stream().mapToInt(Integer::intValue).sum();
            Check.due("every: night(0) of " + text, x.night(0), wanted - every.most);
            Check.due("every: night(1) of " + text, x.night(1), every.walk);
            Check.due("every: night(2) of " + text, x.night(2), every.fewest);
            Check.due("every: night(3) of " + text, x.night(3), every.even);
            Check.due("every: needed() of " + text, x.needed(), (1 << m.ringers.size()) - 1 & ~every.without);
            for (int r = 0; r < m.ringers.size(); r++) {
                for (int h = 0; h < m.wants.size(); h++) {
                    int due = HourRingers.NONE;
                    for (int turn : every.best) {
                        due = turn / 10 == r * 10 + h ? turn % 10 : due;
                    }
                    Check.due("every: best(" + r + ", " + h + ") of " + text, x.best(r, h), due);
                }
            }
        }
    }
}
