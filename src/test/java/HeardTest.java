/** Promises 20 to 25 and 27: what was heard, who was away, kinds, the trace, images. */
public final class HeardTest {
    private static final int BAD = HourRingers.BAD, STATE = HourRingers.STATE, NONE = HourRingers.NONE, NO = HourRingers.NO;
    private static final int[] WILD = {Integer.MIN_VALUE, -1, Integer.MAX_VALUE};

    public static void main(String[] args) {
        hearing();
        forgetting();
        away();
        awayOfNone();
        marks();
        wrongMarks();
        images();
        wrongImages();
        Check.end();
    }

    private static void hearing() {
        HourRingers x = Check.told("hour 1;hour 3;");
        Check.due("20: ahead", x.heard(0, 0), NONE);
        Check.due("20: ahead", x.heard(0, 3), 0);
        Check.due("20: ahead", x.heard(0, 1), 3);
        Check.due("20: the other hour", x.heard(1, 2), NONE);
        Check.due("20: the later counts", x.hour(0, 2), 1);
        Check.due("20: strokes 4", x.heard(0, 4), BAD);
        Check.due("20: no such hour", x.heard(2, 0), BAD);
        for (int wild : WILD) {
            Check.due("20: hour " + wild, x.heard(wild, 0), BAD);
            Check.due("20: strokes " + wild, x.heard(0, wild), BAD);
        }
        Check.due("20: nothing changed", x.hour(0, 2), 1);
    }

    private static void forgetting() {
        HourRingers x = Check.told("hour 1;hour 3;hour 1;hour 1;");
        Check.due("21: nothing", x.forget(), 0);
        x.heard(0, 0);
        x.heard(3, 2);
        x.heard(3, 1);
        Check.due("21: two hours", x.forget(), 2);
        Check.due("21: nothing", x.hour(0, 2), NONE);
        Check.due("21: nothing", x.hour(3, 2), NONE);
        Check.due("21: nothing", x.forget(), 0);
        for (int h = 0; h < 4; h++) {
            x.heard(h, 0);
        }
        Check.due("21: all", x.forget(), 4);
    }

    private static void away(String why, HourRingers x, int ways, int sure, int never) {
        Check.due("22: away(0), " + why, x.away(0), ways);
        Check.due("22: away(1), " + why, x.away(1), sure);
        Check.due("22: away(2), " + why, x.away(2), never);
    }

    private static void away() {
        HourRingers x = Check.told("hour 3;hour 2;ringer 0 7 0 0;ringer 0 7 0 0;ringer 0 7 0 0;ringer 0 7 0 0;times 2;");
        away("an empty rota", x, 1, 0, 0);
        x.put(0, 0, 0);
        x.put(1, 0, 1);
        x.put(3, 0, 2);
        x.put(1, 1, 0);
        away("nothing heard", x, 8, 0, 0);
        x.heard(0, 3);
        away("all rang", x, 1, 0, 11);
        x.heard(0, 2);
        away("one was away", x, 3, 0, 0);
        x.heard(1, 1);
        away("ringer 1 was there", x, 2, 0, 2);
        x.heard(1, 0);
        away("ringer 1 was away", x, 1, 2, 9);
        x.heard(0, 0);
        away("all were away", x, 1, 11, 0);
        x.heard(0, 3);
        away("none fits", x, 0, 0, 11);
        x.heard(1, 3);
        away("more than the hour wants", x, 0, 0, 11);
        x.forget();
        x.take(3, 0);
        away("two in the rota", x, 4, 0, 0);
        for (int wild : new int[] {Integer.MIN_VALUE, -1, 3, Integer.MAX_VALUE}) {
            Check.due("22: what " + wild, x.away(wild), BAD);
        }
    }

    private static void awayOfNone() {
        HourRingers x = Check.told("hour 1;ringer 0 7 0 0;");
        x.heard(0, 0);
        away("an empty rota and silence", x, 1, 0, 0);
        x.heard(0, 1);
        away("an empty rota and a stroke", x, 0, 0, 0);
        HourRingers y = Check.told("hour 3;hour 3;" + "ringer 0 7 0 0;".repeat(6));
        for (int r = 0; r < 6; r++) {
            y.put(r, r / 3, r % 3);
        }
        away("all six", y, 64, 0, 0);
        y.heard(0, 1);
        y.heard(1, 2);
        away("all six", y, 9, 0, 0);
    }

    private static void marks() {
        HourRingers x = Check.told("hour 3;hour 3;hour 1;ringer 5 7 0 0;ringer 60 5 15 9;ringer 9 3 8 0;ringer 0 0 5 0;times 2;tower 20;");
        x.put(0, 0, 0);
        x.put(0, 1, 2);
        x.put(2, 2, 0);
        int[][] want = {{2, 5, 2, 10, 2, 17}, {0, 2, -3, 4, -2, 40}, {1, 3, 1, 6, 3, 12}, {0, 0, -2, 0, 1, 20}};
        long[] told = {1, 11, 101, 1011, 10101, 100001};
        long trace = 0;
        for (int r = 0; r < 4; r++) {
            for (int kind = 0; kind < 6; kind++) {
                Check.due("23: mark(" + kind + ", " + r + ")", x.mark(kind, r), want[r][kind]);
                trace += told[kind];
                Check.due("27: trace()", x.trace(), trace);
            }
        }
        x.moves(60);
        Check.due("23: the tower moved", x.mark(5, 1), 0);
        Check.due("27: asking adds nothing", x.trace(), x.trace());
        Check.due("27: trace()", x.trace(), trace + 100001);
    }

    private static void wrongMarks() {
        HourRingers x = Check.told("hour 1;ringer 5 7 0 0;");
        for (int wild : WILD) {
            Check.due("23: kind " + wild, x.mark(wild, 0), NO);
            Check.due("23: ringer " + wild, x.mark(0, wild), NO);
        }
        Check.due("23: kind 6", x.mark(6, 0), NO);
        Check.due("23: ringer 1", x.mark(3, 1), NO);
        Check.due("27: refused marks tell nothing", x.trace(), 0);
        x.mark(0, 0);
        x.parish();
        Check.due("23: nobody", x.mark(0, 0), NO);
        Check.due("27: the trace stays when read anew", x.trace(), 1);
    }

    private static void images() {
        HourRingers x = Check.told("hour 2;hour 2;ringer 5 7 0 0;ringer 9 7 0 0;times 2;tower 4;");
        Check.due("24: an empty rota", x.keep(1), 0);
        x.put(0, 0, 1);
        x.put(1, 1, 0);
        x.heard(1, 2);
        x.moves(7);
        Check.due("24: two", x.keep(0), 2);
        x.take(0, 0);
        x.put(1, 0, 0);
        x.put(0, 1, 1);
        x.heard(0, 1);
        x.heard(1, 0);
        x.moves(60);
        x.mark(0, 0);
        Check.type(x, "abc");
        Check.due("25: image 0", x.back(0), 2);
        Check.due("25: the rota", x.rings(0, 1), 0);
        Check.due("25: the rota", x.rings(0, 0), NONE);
        Check.due("25: the rota", x.rings(1, 0), 1);
        Check.due("25: the rota", x.rings(1, 1), NONE);
        Check.due("25: how many", x.now(2), 2);
        Check.due("25: the tower", x.now(3), 7);
        Check.due("25: heard", x.hour(0, 2), NONE);
        Check.due("25: heard", x.hour(1, 2), 2);
        Check.due("25: the text is not of it", x.count(4), 3);
        Check.due("25: the trace is not of it", x.trace(), 1);
        x.take(1, 1);
        Check.due("25: image 0 again", x.back(0), 2);
        Check.due("25: image 1", x.back(1), 0);
        Check.due("25: the tower", x.now(3), 4);
        Check.due("25: heard", x.hour(1, 2), NONE);
        x.put(1, 0, 0);
        Check.due("24: the later counts", x.keep(0), 1);
        x.take(1, 0);
        Check.due("25: the later counts", x.back(0), 1);
        Check.due("25: the later counts", x.rings(0, 0), 1);
    }

    private static void wrongImages() {
        HourRingers x = Check.told("hour 1;ringer 5 7 0 0;");
        x.put(0, 0, 0);
        Check.due("25: none was kept", x.back(0), STATE);
        Check.due("24: image 0", x.keep(0), 1);
        Check.due("25: none was kept", x.back(1), STATE);
        for (int wild : new int[] {Integer.MIN_VALUE, -1, 2, Integer.MAX_VALUE}) {
            Check.due("24: image " + wild, x.keep(wild), BAD);
            Check.due("25: image " + wild, x.back(wild), BAD);
        }
        Check.due("25: nothing changed", x.rings(0, 0), 0);
    }
}
