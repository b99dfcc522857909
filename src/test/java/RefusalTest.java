import java.util.function.Supplier;
import java.util.function.ToIntFunction;

/**
 * All promises: every refused call alone, in every night below, with each number as told and beyond: what is refused is
 * the first of BAD, STATE, FULL, and nothing changes by it. What is due is told by the document's words alone.
 */
public final class RefusalTest {
    private static final int BAD = HourRingers.BAD, STATE = HourRingers.STATE, FULL = HourRingers.FULL, NO = HourRingers.NO;
    private static final int[] NUMBERS = {Integer.MIN_VALUE, -1, 0, 1, 2, 3, 4, 5, 6, 7, 61, Integer.MAX_VALUE};

    private static final String TOLD = "hour3;hour1;hour2;ringer10 7 0 1;ringer20 3 2 2;ringer30 5 4 3;tower25;times2;rest1;";
    private static final int[] WANTS = {3, 1, 2};
    private static final int RINGERS = 3;
    private static final int[] BELLS = {7, 3, 5};
    private static final int[] BUSY = {0, 2, 4};

    private static Supplier<HourRingers> night;
    /** Who rings the bells of each hour in it, -1: nobody; what is kept in it. */
    private static int[][] rota;
    private static boolean[] kept;
    private static int bytes;
    private static String answersDue;
    private static String endDue;
    private static String readDue;

    public static void main(String[] args) {
        in(RefusalTest::emptyNight, new int[][] {{-1, -1, -1}, {-1}, {-1, -1}}, new boolean[] {false, false}, 0);
        in(RefusalTest::busyNight, new int[][] {{0, -1, -1}, {-1}, {1, 0}}, new boolean[] {true, false}, 19);
        in(RefusalTest::fullText, new int[][] {{2, 1, 0}, {-1}, {-1, -1}}, new boolean[] {false, true}, 200);
        nothingTold();
        Check.end();
    }

    private static HourRingers emptyNight() {
        return Check.told(TOLD);
    }

    private static HourRingers busyNight() {
        HourRingers x = Check.told(TOLD);
        x.put(0, 0, 0);
        x.put(1, 0, 1);
        x.put(0, 2, 1);
        x.keep(0);
        x.take(1, 0);
        x.put(1, 2, 0);
        x.moves(40);
        x.heard(0, 1);
        x.heard(2, 0);
        x.mark(3, 1);
        Check.type(x, "hour2;ringer 1 7  0");
        return x;
    }

    private static HourRingers fullText() {
        HourRingers x = Check.told(TOLD);
        x.put(2, 0, 0);
        x.put(0, 0, 2);
        x.put(1, 0, 1);
        x.heard(1, 3);
        x.keep(1);
        x.heard(1, 2);
        Check.type(x, "hour1;" + " ".repeat(193) + "x");
        return x;
    }

    private static void in(Supplier<HourRingers> made, int[][] who, boolean[] images, int typed) {
        night = made;
        rota = who;
        kept = images;
        bytes = typed;
        for (int h = 0; h < WANTS.length; h++) {
            for (int bell = 0; bell < WANTS[h]; bell++) {
                int due = who[h][bell] < 0 ? HourRingers.NONE : who[h][bell];
                Check.due("8: rings(" + h + ", " + bell + ")", night.get().rings(h, bell), due);
            }
        }
        Check.due("26: count(4)", night.get().count(4), typed);
        answersDue = Answers.of(night.get());
        endDue = Answers.atTheEnd(night.get());
        readDue = Answers.read(night.get());
        texts();
        asked();
        puts();
        takes();
        exchanges();
        places();
        strokes();
        marks();
        images();
    }

    /** The answer of a call on such a night, and all that the night answers when it was refused. */
    private static void refused(String call, ToIntFunction<HourRingers> how, int due) {
        HourRingers x = night.get();
        Check.due(call, how.applyAsInt(x), due);
        Check.same("changed by " + call, Answers.of(x), answersDue);
        Check.same("changed by " + call, Answers.atTheEnd(x), endDue);
        HourRingers y = night.get();
        Answers.of(y);
        Check.due(call + " where all was asked", how.applyAsInt(y), due);
        Check.same("changed where all was asked by " + call, Answers.of(y), answersDue);
        Check.same("changed where all was asked by " + call, Answers.read(y), readDue);
    }

    private static void notRefused(String call, int answer) {
        Check.isTrue(call + " is not refused, " + answer, answer >= 0 || answer == HourRingers.NONE);
    }

    private static boolean isHour(int h) {
        return h >= 0 && h < WANTS.length;
    }

    private static boolean isRinger(int r) {
        return r >= 0 && r < RINGERS;
    }

    private static void texts() {
        for (int n : new int[] {Integer.MIN_VALUE, -1, 0, 1, 2, 7, 8, 9, 200, Integer.MAX_VALUE}) {
            String call = "2: type(.., " + n + ") behind " + bytes;
            if (n < 1 || n > 8) {
                refused(call, x -> x.type(0x203b203b203b203bL, n), BAD);
            } else if (bytes + n > 200) {
                refused(call, x -> x.type(0x203b203b203b203bL, n), FULL);
            } else {
                Check.due(call, night.get().type(0x203b203b203b203bL, n), bytes + n);
            }
        }
        if (bytes == 19) {
            refused("4: parish()", HourRingers::parish, -10 - 19);
        }
        if (bytes == 200) {
            refused("4: parish()", HourRingers::parish, -10 - 199);
        }
    }

    private static void asked() {
        for (int what : NUMBERS) {
            asked("11: now(" + what + ")", x -> x.now(what), what >= 0 && what <= 3);
            asked("15: night(" + what + ")", x -> x.night(what), what >= 0 && what <= 3);
            asked("19: stands(" + what + ")", x -> x.stands(what), what == 0 || what == 1);
            asked("22: away(" + what + ")", x -> x.away(what), what >= 0 && what <= 2);
            asked("26: count(" + what + ")", x -> x.count(what), what >= 0 && what <= 4);
            asked("13: crew(" + what + ")", x -> x.crew(what), isHour(what));
            asked("14: bars(" + what + ")", x -> x.bars(what), isHour(what));
            for (int of : NUMBERS) {
                asked("5: ringer(" + of + ", " + what + ")", x -> x.ringer(of, what), isRinger(of) && what >= 0 && what <= 4);
                asked("6: hour(" + of + ", " + what + ")", x -> x.hour(of, what), isHour(of) && what >= 0 && what <= 2);
                asked("16: best(" + of + ", " + what + ")", x -> x.best(of, what), isRinger(of) && isHour(what));
                asked("18: odds(" + of + ", " + what + ")", x -> x.odds(of, what), isHour(of) && (what == 0 || what == 1));
                asked("8: rings(" + of + ", " + what + ")", x -> x.rings(of, what), isHour(of) && what >= 0 && what < WANTS[of]);
            }
        }
    }

    private static void asked(String call, ToIntFunction<HourRingers> how, boolean isAsTold) {
        if (isAsTold) {
            notRefused(call, how.applyAsInt(night.get()));
        } else {
            refused(call, how, BAD);
        }
    }

    private static int bellOf(int r, int h) {
        for (int bell = 0; bell < WANTS[h]; bell++) {
            if (rota[h][bell] == r) {
                return bell;
            }
        }
        return -1;
    }

    private static boolean can(int r, int h, int bell) {
        return (BELLS[r] >> bell & 1) != 0 && (BUSY[r] >> h & 1) == 0;
    }

    private static boolean mayBePut(int r, int h, int bell) {
        int times = 0;
        for (int g = 0; g < WANTS.length; g++) {
            if (bellOf(r, g) >= 0) {
                times++;
                if (Math.abs(h - g) <= 1) {
                    return false;
                }
            }
        }
        return can(r, h, bell) && rota[h][bell] < 0 && times < 2;
    }

    private static void puts() {
        for (int r : NUMBERS) {
            for (int h : NUMBERS) {
                for (int bell : NUMBERS) {
                    String call = "7: put(" + r + ", " + h + ", " + bell + ")";
                    if (!isRinger(r) || !isHour(h) || bell < 0 || bell >= WANTS[h]) {
                        refused(call, x -> x.put(r, h, bell), BAD);
                    } else if (!mayBePut(r, h, bell)) {
                        refused(call, x -> x.put(r, h, bell), STATE);
                    } else {
                        HourRingers x = night.get();
                        int turns = x.now(2);
                        Check.due(call, x.put(r, h, bell), turns + 1);
                        Check.due(call + ", and then rings", x.rings(h, bell), r);
                    }
                }
            }
        }
    }

    private static void takes() {
        for (int r : NUMBERS) {
            for (int h : NUMBERS) {
                String call = "9: take(" + r + ", " + h + ")";
                if (!isRinger(r) || !isHour(h)) {
                    refused(call, x -> x.take(r, h), BAD);
                } else if (bellOf(r, h) < 0) {
                    refused(call, x -> x.take(r, h), STATE);
                } else {
                    Check.due(call, night.get().take(r, h), bellOf(r, h));
                }
            }
        }
    }

    private static boolean canTakeOver(int r, int from) {
        for (int h = 0; h < WANTS.length; h++) {
            if (bellOf(from, h) >= 0 && !can(r, h, bellOf(from, h))) {
                return false;
            }
        }
        return true;
    }

    private static void exchanges() {
        for (int r : NUMBERS) {
            for (int q : NUMBERS) {
                String call = "10: exchange(" + r + ", " + q + ")";
                if (!isRinger(r) || !isRinger(q) || r == q) {
                    refused(call, x -> x.exchange(r, q), BAD);
                } else if (!canTakeOver(r, q) || !canTakeOver(q, r)) {
                    refused(call, x -> x.exchange(r, q), STATE);
                } else {
                    notRefused(call, night.get().exchange(r, q));
                }
            }
        }
    }

    private static void places() {
        for (int place : NUMBERS) {
            String call = "12: moves(" + place + ")";
            if (place < 0 || place > 60) {
                refused(call, x -> x.moves(place), BAD);
            } else {
                notRefused(call, night.get().moves(place));
            }
        }
    }

    private static void strokes() {
        for (int h : NUMBERS) {
            for (int strokes : NUMBERS) {
                String call = "20: heard(" + h + ", " + strokes + ")";
                if (!isHour(h) || strokes < 0 || strokes > 3) {
                    refused(call, x -> x.heard(h, strokes), BAD);
                } else {
                    notRefused(call, night.get().heard(h, strokes));
                }
            }
        }
    }

    private static void marks() {
        for (int kind : NUMBERS) {
            for (int r : NUMBERS) {
                String call = "23: mark(" + kind + ", " + r + ")";
                if (!isRinger(r) || kind < 0 || kind > 5) {
                    refused(call, x -> x.mark(kind, r), NO);
                } else {
                    Check.isTrue(call + " is not refused", night.get().mark(kind, r) != NO);
                }
            }
        }
    }

    private static void images() {
        for (int image : NUMBERS) {
            boolean isImage = image == 0 || image == 1;
            if (!isImage) {
                refused("24: keep(" + image + ")", x -> x.keep(image), BAD);
                refused("25: back(" + image + ")", x -> x.back(image), BAD);
            } else if (!kept[image]) {
                refused("25: back(" + image + ")", x -> x.back(image), STATE);
            } else {
                notRefused("25: back(" + image + ")", night.get().back(image));
            }
        }
    }

    /** On a new object all that names an hour or a ringer is BAD. */
    private static void nothingTold() {
        for (int a : NUMBERS) {
            for (int b : NUMBERS) {
                HourRingers x = new HourRingers();
                Check.due("5: ringer(" + a + ", " + b + ")", x.ringer(a, b), BAD);
                Check.due("6: hour(" + a + ", " + b + ")", x.hour(a, b), BAD);
                Check.due("7: put(" + a + ", " + b + ", 0)", x.put(a, b, 0), BAD);
                Check.due("8: rings(" + a + ", " + b + ")", x.rings(a, b), BAD);
                Check.due("9: take(" + a + ", " + b + ")", x.take(a, b), BAD);
                Check.due("10: exchange(" + a + ", " + b + ")", x.exchange(a, b), BAD);
                Check.due("16: best(" + a + ", " + b + ")", x.best(a, b), BAD);
                Check.due("18: odds(" + a + ", " + b + ")", x.odds(a, b), BAD);
                Check.due("20: heard(" + a + ", " + b + ")", x.heard(a, b), BAD);
                Check.due("23: mark(" + a + ", " + b + ")", x.mark(a, b), NO);
                Check.same("1: nothing changed", Answers.of(x), Answers.of(new HourRingers()));
            }
        }
    }
}
