/** Promises 20 to 25 and 27 at their edges: each test is a sentence of the document. */
public final class HeardEdgesTest {
    private static final int BAD = HourRingers.BAD, STATE = HourRingers.STATE, NONE = HourRingers.NONE, NO = HourRingers.NO;
    private static final int LEAST = Integer.MIN_VALUE, MOST = Integer.MAX_VALUE;
    private static final String FOUR_HOURS = "hour3;hour3;hour3;hour3;";
    private static final String ABLE = "ringer0 7 0 0;";
    private static final String SIX_RINGERS = ABLE.repeat(6);

    public static void main(String[] args) {
        hearing();
        forgetting();
        away();
        marks();
        traces();
        keeping();
        bringingBack();
        lastCalls();
        Check.end();
    }

    // ---- 20: heard

    private static void hearing() {
        laterCounts();
        moreThanTheHourWants();
        heardNumbersNotAsTold();
    }

    private static void laterCounts() {
        HourRingers x = Check.told(FOUR_HOURS);
        for (int h = 0; h < 4; h++) {
            int ahead = NONE;
            for (int strokes : new int[] {3, 0, 0, 1, 2, 3}) {
                Check.due("20: heard ahead, hour " + h, x.heard(h, strokes), ahead);
                Check.due("20: the later counts, hour " + h, x.hour(h, 2), strokes);
                ahead = strokes;
            }
            for (int later = h + 1; later < 4; later++) {
                Check.due("20: not yet, hour " + later, x.hour(later, 2), NONE);
            }
        }
    }

    private static void moreThanTheHourWants() {
        HourRingers x = Check.told("hour1;" + ABLE);
        x.put(0, 0, 0);
        Check.due("20: three strokes of one bell", x.heard(0, 3), NONE);
        Check.due("20: it was told", x.hour(0, 2), 3);
        Check.due("22: but can't be", x.away(0), 0);
    }

    private static void heardNumbersNotAsTold() {
        HourRingers x = Check.told("hour3;hour1;");
        x.heard(0, 2);
        for (int strokes : new int[] {LEAST, NONE, -1, 4, 5, MOST}) {
            Check.due("20: strokes " + strokes, x.heard(0, strokes), BAD);
            Check.due("20: no such hour, strokes " + strokes, x.heard(2, strokes), BAD);
        }
        for (int h : new int[] {LEAST, -1, 2, 3, 4, 32, MOST}) {
            Check.due("20: no such hour of two, " + h, x.heard(h, 0), BAD);
        }
        Check.due("20: nothing changes", x.hour(0, 2), 2);
        Check.due("20: nothing changes", x.hour(1, 2), NONE);
        HourRingers four = Check.told(FOUR_HOURS);
        Check.due("20: the fourth", four.heard(3, 0), NONE);
        Check.due("20: a fifth", four.heard(4, 0), BAD);
        Check.due("20: in one hour", four.forget(), 1);
    }

    // ---- 21: forget

    private static void forgetting() {
        for (int heard = 0; heard < 16; heard++) {
            HourRingers x = Check.told(FOUR_HOURS);
            for (int h = 0; h < 4; h++) {
                if ((heard & 1 << h) != 0) {
                    x.heard(h, 0);
                    x.heard(h, h);
                }
            }
            Check.due("21: something was heard in " + heard, x.forget(), Integer.bitCount(heard));
            for (int h = 0; h < 4; h++) {
                Check.due("21: forgotten, hour " + h, x.hour(h, 2), NONE);
            }
            Check.due("21: nothing since", x.forget(), 0);
        }
        Check.due("21: no hours", Check.told(ABLE).forget(), 0);
        HourRingers x = Check.told("hour1;" + ABLE);
        x.put(0, 0, 0);
        x.heard(0, 0);
        x.forget();
        Check.due("21: nobody need be away any more", x.away(1), 0);
        Check.due("21: the rota stays", x.rings(0, 0), 0);
    }

    // ---- 22: away

    private static void away(String why, HourRingers x, int ways, int sure, int never) {
        Check.due("22: away(0), " + why, x.away(0), ways);
        Check.due("22: away(1), " + why, x.away(1), sure);
        Check.due("22: away(2), " + why, x.away(2), never);
    }

    private static void away() {
        nobodyInTheRota();
        nothingHeard();
        noneFits();
        eachOfThemAllNight();
        onlyThoseInTheRota();
        silenceInAnHour();
        mostWays();
        for (int what : new int[] {LEAST, -1, 3, 4, MOST}) {
            Check.due("22: what " + what, Check.told("hour1;" + ABLE).away(what), BAD);
        }
    }

    private static void nobodyInTheRota() {
        HourRingers x = Check.told("hour1;hour1;" + SIX_RINGERS);
        away("nothing heard", x, 1, 0, 0);
        x.heard(0, 0);
        away("silence", x, 1, 0, 0);
        x.heard(1, 1);
        away("a stroke", x, 0, 0, 0);
    }

    private static void nothingHeard() {
        HourRingers x = Check.told("hour3;hour3;" + SIX_RINGERS);
        for (int n = 0; n < 6; n++) {
            away(n + " in the rota", x, 1 << n, 0, 0);
            x.put(n, n / 3, n % 3);
        }
        away("six in the rota", x, 64, 0, 0);
    }

    private static void noneFits() {
        HourRingers x = Check.told("hour3;hour3;" + SIX_RINGERS + "times2;");
        x.put(1, 0, 0);
        x.put(4, 0, 1);
        x.put(5, 1, 2);
        x.heard(0, 3);
        away("more than are in the rota", x, 0, 0, 2 + 16 + 32);
        x.heard(0, 2);
        x.heard(1, 2);
        away("more in the other hour", x, 0, 0, 2 + 16 + 32);
        x.heard(1, 1);
        away("just so many", x, 1, 0, 2 + 16 + 32);
        HourRingers y = Check.told("hour1;hour1;" + ABLE + "times2;");
        y.put(0, 0, 0);
        y.put(0, 1, 0);
        y.heard(0, 1);
        y.heard(1, 0);
        away("he was there and was not", y, 0, 0, 1);
    }

    private static void eachOfThemAllNight() {
        HourRingers x = Check.told("hour2;hour1;" + ABLE.repeat(2) + "times2;");
        x.put(0, 0, 0);
        x.put(1, 0, 1);
        x.put(0, 1, 0);
        x.heard(0, 1);
        away("one of the two", x, 2, 0, 0);
        x.heard(1, 0);
        away("he who was not there later", x, 1, 1, 2);
        x.heard(1, 1);
        away("he who was there later", x, 1, 2, 1);
    }

    private static void onlyThoseInTheRota() {
        HourRingers x = Check.told("hour2;" + SIX_RINGERS);
        x.put(2, 0, 0);
        x.put(5, 0, 1);
        away("two of six", x, 4, 0, 0);
        x.heard(0, 0);
        away("both away", x, 1, 4 + 32, 0);
        x.heard(0, 2);
        away("both there", x, 1, 0, 4 + 32);
        x.take(5, 0);
        away("one has gone from the rota", x, 0, 0, 4);
        x.exchange(2, 0);
        x.heard(0, 1);
        away("another stands for him", x, 1, 0, 1);
    }

    private static void silenceInAnHour() {
        HourRingers x = Check.told("hour3;hour3;" + ABLE.repeat(3));
        for (int r = 0; r < 3; r++) {
            x.put(r, 0, r);
        }
        x.heard(1, 0);
        away("where nobody should ring", x, 8, 0, 0);
        int[] ways = {1, 3, 3, 1};
        int[] sure = {7, 0, 0, 0};
        int[] never = {0, 0, 0, 7};
        for (int strokes = 0; strokes <= 3; strokes++) {
            x.heard(0, strokes);
            away(strokes + " of three", x, ways[strokes], sure[strokes], never[strokes]);
        }
    }

    private static void mostWays() {
        HourRingers x = Check.told(FOUR_HOURS + SIX_RINGERS + "times4;");
        for (int i = 0; i < 12; i++) {
            x.put(i % 6, i / 3, i % 3);
        }
        away("twelve turns", x, 64, 0, 0);
        x.heard(0, 0);
        away("the first three away", x, 8, 7, 0);
        x.heard(3, 3);
        away("the others there", x, 1, 7, 56);
        x.heard(2, 1);
        away("the first three there again", x, 0, 0, 63);
    }

    // ---- 23: mark

    private static void marks() {
        smallestAndLargestMarks();
        busyInHoursThatWereTold();
        answersOf1Below0();
        markedNumbersNotAsTold();
    }

    private static void mark(String why, HourRingers x, int r, int... due) {
        for (int kind = 5; kind >= 0; kind--) {
            Check.due("23: mark(" + kind + ", " + r + "), " + why, x.mark(kind, r), due[kind]);
        }
    }

    private static void smallestAndLargestMarks() {
        HourRingers x = Check.told("hour1;hour1;hour1;hour1;ringer0 0 15 0;" + ABLE.repeat(4) + "ringer60 7 0 0;times4;");
        mark("nobody could ring less", x, 0, 0, 0, -4, 0, -4, 0);
        mark("he does not ring yet", x, 5, 0, 3, 0, 6, 5, 60);
        for (int h = 0; h < 4; h++) {
            x.put(5, h, 0);
        }
        mark("nobody can ring more", x, 5, 4, 7, 4, 14, 9, 64);
        x.moves(60);
        mark("he lives at the tower", x, 5, 4, 7, 4, 14, 9, 4);
        mark("he lives far off", x, 0, 0, 0, -4, 0, -4, 60);
        x.moves(59);
        mark("he lives above the tower", x, 5, 4, 7, 4, 14, 9, 5);
    }

    private static void busyInHoursThatWereTold() {
        for (int hours = 0; hours <= 4; hours++) {
            for (int busy = 0; busy < 16; busy++) {
                HourRingers x = Check.told("hour1;".repeat(hours) + "ringer0 0 " + busy + " 0;");
                int less = Integer.bitCount(busy & (1 << hours) - 1);
                mark(hours + " hours, busy " + busy, x, 0, 0, 0, -less, 0, -less, 0);
                Check.due("5: BUSY as told", x.ringer(0, 2), busy);
            }
        }
    }

    /** A mark below 0 is no refusal: NO is another number. */
    private static void answersOf1Below0() {
        HourRingers x = Check.told("hour1;hour1;ringer0 0 1 0;ringer0 0 3 0;");
        Check.due("23: one below 0", x.mark(2, 0), -1);
        Check.due("27: and traced", x.trace(), 101);
        Check.due("23: two below 0", x.mark(2, 1), -2);
        Check.due("27: and traced", x.trace(), 202);
        Check.due("23: a novice's number is added", x.mark(4, 1), -1);
        Check.due("27: and traced", x.trace(), 10303);
        Check.due("23: NO", NO, -1000000);
    }

    private static void markedNumbersNotAsTold() {
        HourRingers x = Check.told("hour1;" + ABLE.repeat(2));
        for (int kind : new int[] {LEAST, -1, 6, 7, MOST}) {
            Check.due("23: kind " + kind, x.mark(kind, 0), NO);
            Check.due("23: kind " + kind + " and no such ringer", x.mark(kind, 2), NO);
        }
        for (int kind = 0; kind < 6; kind++) {
            for (int r : new int[] {LEAST, -1, 2, 6, MOST}) {
                Check.due("23: no such ringer of two, kind " + kind + ", " + r, x.mark(kind, r), NO);
            }
        }
        Check.due("27: nothing was traced", x.trace(), 0);
        HourRingers six = Check.told(SIX_RINGERS);
        Check.due("23: the sixth", six.mark(0, 5), 0);
        Check.due("23: a seventh", six.mark(0, 6), NO);
    }

    // ---- 27: trace

    private static void traces() {
        long[] bodies = {1, 11, 101, 1011, 10101, 100001};
        for (int kind = 0; kind < 6; kind++) {
            HourRingers x = Check.told("hour1;" + ABLE);
            for (int n = 1; n <= 3; n++) {
                x.mark(kind, 0);
                Check.due("27: kind " + kind + " asked " + n + " times", x.trace(), bodies[kind] * n);
            }
        }
        HourRingers x = Check.told("hour1;" + ABLE);
        for (int kind = 0; kind < 6; kind++) {
            x.mark(kind, 0);
        }
        Check.due("27: of all calls together", x.trace(), 1 + 11 + 101 + 1011 + 10101 + 100001);
        Check.due("27: asking it adds nothing", x.trace(), 111226);
        x.ringer(0, 4);
        x.keep(0);
        x.mark(0, 0);
        x.back(0);
        Check.due("27: an image does not hold it", x.trace(), 111227);
        x.forget();
        x.clear();
        x.parish();
        Check.due("27: it stays when read anew", x.trace(), 111227);
        Check.due("27: none but mark() adds to it", new HourRingers().trace(), 0);
    }

    // ---- 24, 25: images

    private static void keeping() {
        emptyRotaIsKept();
        fullestRotaIsKept();
        keptAnew();
        imageNumbersNotAsTold();
    }

    private static void emptyRotaIsKept() {
        HourRingers x = Check.told("hour1;" + ABLE + "tower9;");
        Check.due("24: nobody in the rota", x.keep(0), 0);
        Check.due("25: image 1 was not kept", x.back(1), STATE);
        x.put(0, 0, 0);
        x.heard(0, 3);
        x.moves(60);
        Check.due("25: nobody in the rota", x.back(0), 0);
        Check.due("25: he does not ring", x.rings(0, 0), NONE);
        Check.due("25: nothing heard", x.hour(0, 2), NONE);
        Check.due("25: the tower", x.now(3), 9);
        Check.due("25: he can be put again", x.put(0, 0, 0), 1);
    }

    private static void fullestRotaIsKept() {
        HourRingers x = Check.told(FOUR_HOURS + SIX_RINGERS + "times4;");
        for (int i = 0; i < 12; i++) {
            x.put(i % 6, i / 3, i % 3);
        }
        for (int h = 0; h < 4; h++) {
            x.heard(h, 3 - h);
        }
        x.moves(60);
        Check.due("24: twelve", x.keep(1), 12);
        String due = Answers.of(x);
        for (int i = 0; i < 12; i++) {
            x.take(i % 6, i / 3);
        }
        x.forget();
        x.moves(0);
        Check.due("24: none", x.keep(0), 0);
        Check.due("25: twelve", x.back(1), 12);
        Check.same("25: all of that", Answers.of(x), due);
    }

    private static void keptAnew() {
        HourRingers x = Check.told("hour3;hour3;" + ABLE.repeat(2));
        x.put(0, 0, 0);
        Check.due("24: one", x.keep(0), 1);
        x.put(1, 1, 2);
        Check.due("24: two", x.keep(0), 2);
        x.take(0, 0);
        x.take(1, 1);
        Check.due("24: none", x.keep(1), 0);
        Check.due("25: the later counts", x.back(0), 2);
        Check.due("25: once more", x.back(0), 2);
        x.take(0, 0);
        Check.due("25: what came back is no image", x.back(0), 2);
        Check.due("25: the other is its own", x.back(1), 0);
    }

    private static void imageNumbersNotAsTold() {
        HourRingers x = Check.told("hour1;" + ABLE);
        for (int image : new int[] {LEAST, -1, 2, 3, MOST}) {
            Check.due("24: image " + image, x.keep(image), BAD);
            Check.due("25: image " + image + ", BAD ahead of STATE", x.back(image), BAD);
        }
        Check.due("24: none was kept", x.back(0), STATE);
        Check.due("24: none was kept", x.back(1), STATE);
    }

    private static void bringingBack() {
        noneWasKept();
        oneWasKept();
        goneWhenReadAnew();
        nothingElseIsKept();
        theNightIsAskedAnew();
    }

    private static void noneWasKept() {
        for (int image = 0; image < 2; image++) {
            HourRingers x = Check.told("hour1;" + ABLE + "tower5;");
            x.put(0, 0, 0);
            x.heard(0, 1);
            String due = Answers.of(x);
            Check.due("25: image " + image, x.back(image), STATE);
            Check.same("25: nothing changes", Answers.of(x), due);
        }
    }

    private static void oneWasKept() {
        for (int image = 0; image < 2; image++) {
            HourRingers x = Check.told("hour1;" + ABLE);
            x.keep(image);
            Check.due("25: image " + (1 - image), x.back(1 - image), STATE);
            Check.due("25: image " + image, x.back(image), 0);
        }
    }

    private static void goneWhenReadAnew() {
        String text = "hour1;" + ABLE;
        HourRingers x = Check.told(text);
        x.keep(0);
        x.keep(1);
        Check.type(x, text + "?");
        x.parish();
        Check.due("25: a fault leaves them", x.back(0), 0);
        Check.due("25: a fault leaves them", x.back(1), 0);
        x.clear();
        Check.type(x, text);
        x.parish();
        Check.due("25: image 0 is gone", x.back(0), STATE);
        Check.due("25: image 1 is gone", x.back(1), STATE);
        x.put(0, 0, 0);
        Check.due("24: kept anew", x.keep(1), 1);
        Check.due("25: image 0 is gone still", x.back(0), STATE);
    }

    private static void nothingElseIsKept() {
        HourRingers x = Check.told("hour2;" + ABLE + "times3;rest2;");
        Check.type(x, "abc");
        x.keep(0);
        x.mark(3, 0);
        Check.type(x, "def");
        x.keep(1);
        x.back(0);
        Check.due("25: the text", x.count(4), 6);
        Check.due("25: the trace", x.trace(), 1011);
        Check.due("25: image 1 is there still", x.back(1), 0);
        Check.due("25: times", x.count(2), 3);
        Check.due("25: rest", x.count(3), 2);
    }

    private static void theNightIsAskedAnew() {
        HourRingers x = Check.told("hour1;ringer0 1 0 0;ringer60 1 0 0;tower0;");
        x.keep(0);
        x.moves(50);
        Check.due("15: walk", x.night(1), 20);
        Check.due("16: the near one", x.best(1, 0), 0);
        x.back(0);
        Check.due("15: the tower came back", x.night(1), 0);
        Check.due("16: the tower came back", x.best(1, 0), NONE);
        Check.due("16: the near one", x.best(0, 0), 0);
        Check.due("23: the way", x.mark(5, 1), 60);
    }

    /** 512 calls, the dearest of each kind: the last answers as the first. */
    private static void lastCalls() {
        HourRingers x = new HourRingers();
        for (int call = 1; call < 512; call++) {
            x.type('?', 1);
        }
        Check.due("2: the 512th call", x.count(4), 200);
        HourRingers y = new HourRingers();
        y.type(0x72696e6765723020L, 8);
        y.type(0x37203020303bL, 6);
        Check.due("4: a ringer", y.parish(), 1);
        for (int call = 4; call < 512; call++) {
            y.mark(5, 0);
        }
        Check.due("27: the 512th call", y.trace(), 508L * 100001);
        HourRingers z = Check.told(FOUR_HOURS + "ringer9 7 0 1;".repeat(6) + "times3;rest1;");
        for (int place = 0; place < 160; place++) {
            z.moves(place % 61);
            Check.due("15: the tower at " + place, z.night(1), 6 * 2 * 2 * Math.abs(place % 61 - 9));
            Check.due("15: fewest", z.night(2), 6);
        }
    }
}
