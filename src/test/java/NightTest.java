/** Promises 13 to 18: crews, bars, nights, the best of them, who is needed, odds. */
public final class NightTest {
    private static final int BAD = HourRingers.BAD, NONE = HourRingers.NONE;
    private static final int[] WILD = {Integer.MIN_VALUE, -1, 4, Integer.MAX_VALUE};
    private static final String FULL_NIGHT = "hour 3;hour 3;hour 3;hour 3;";

    public static void main(String[] args) {
        crews();
        bars();
        nights();
        fewestAndEven();
        best();
        needed();
        odds();
        wrong();
        nothingIsChanged();
        Check.end();
    }

    private static void crew(String text, int want, int bar) {
        HourRingers x = Check.told(text);
        Check.due("13: crew of " + text, x.crew(0), want);
        Check.due("14: bars of " + text, x.bars(0), bar);
    }

    private static void crews() {
        crew("hour 1;", 0, 1);
        crew("hour 3;", 0, 1);
        crew("hour 1;ringer 0 1 0 0;", 1, NONE);
        crew("hour 1;ringer 0 6 0 0;", 0, 1);
        crew("hour 1;ringer 0 1 1 0;", 0, 1);
        crew("hour 1;ringer 0 1 14 0;", 1, NONE);
        crew("hour 2;ringer 0 3 0 9;", 1, 3);
        crew("hour 2;ringer 0 1 0 0;ringer 0 3 0 0;", 2, NONE);
        crew("hour 3;ringer 0 1 0 0;ringer 0 1 0 0;ringer 0 1 0 0;", 1, 2);
        crew("hour 3;ringer 0 7 0 0;ringer 0 7 0 0;ringer 0 7 0 0;", 3, NONE);
        crew("hour 3;ringer 0 7 0 0;ringer 0 7 0 0;ringer 0 7 1 0;", 2, 7);
    }

    private static void bars() {
        crew("hour 3;ringer 0 1 0 0;ringer 0 1 0 0;ringer 0 6 0 0;", 2, 6);
        crew("hour 3;ringer 0 2 0 0;ringer 0 5 0 0;ringer 0 2 0 0;", 2, 5);
        crew("hour 3;ringer 0 4 0 0;ringer 0 3 0 0;ringer 0 4 0 0;", 2, 3);
        crew("hour 3;ringer 0 4 0 0;ringer 0 4 0 0;", 1, 1);
        crew("hour 3;ringer 0 3 0 0;ringer 0 3 0 0;ringer 0 3 0 0;", 2, 4);
        crew("hour 2;ringer 0 4 0 0;ringer 0 4 0 0;", 0, 1);
        HourRingers x = Check.told("hour 1;hour 3;ringer 0 1 2 0;ringer 0 7 0 0;");
        Check.due("13: as if it were alone", x.crew(0), 1);
        Check.due("13: as if it were alone", x.crew(1), 1);
        Check.due("14: bars of hour 1", x.bars(1), 3);
        x.put(1, 0, 0);
        Check.due("13: the rota is not asked", x.crew(1), 1);
        Check.due("14: the rota is not asked", x.bars(0), NONE);
    }

    private static void night(String text, int shortOf, int walk, int fewest, int even) {
        HourRingers x = Check.told(text);
        int[] want = {shortOf, walk, fewest, even};
        for (int what = 3; what >= 0; what--) {
            Check.due("15: night(" + what + ") of " + text, x.night(what), want[what]);
        }
    }

    private static void nights() {
        night("", 0, 0, 0, 0);
        night("ringer 9 7 0 0;", 0, 0, 0, 0);
        night(FULL_NIGHT, 12, 0, 0, 0);
        night(FULL_NIGHT + "ringer 60 7 15 0;times 4;", 12, 0, 0, 0);
        night(FULL_NIGHT + "ringer 60 7 0 0;times 4;", 8, 480, 1, 4);
        night(FULL_NIGHT + "ringer 60 7 0 0;ringer 60 7 0 0;ringer 60 7 0 0;times 4;", 0, 1440, 3, 4);
        night("hour 1;ringer 60 1 0 0;ringer 20 1 0 0;ringer 19 2 0 0;tower 40;", 0, 40, 1, 1);
        night("hour 1;hour 1;ringer 10 1 0 0;ringer 20 1 0 0;times 1;", 0, 60, 2, 1);
        night("hour 1;hour 1;ringer 10 1 0 0;ringer 20 1 0 0;times 2;", 0, 40, 1, 1);
        night("hour 1;hour 1;ringer 10 1 0 0;ringer 20 1 0 0;times 2;rest 1;", 0, 60, 2, 1);
        night("hour 1;hour 1;hour 1;ringer 10 1 0 0;ringer 20 1 0 0;times 2;rest 1;", 0, 80, 2, 2);
        night("hour 1;hour 1;hour 1;hour 1;ringer 9 1 0 0;times 4;rest 2;", 2, 36, 1, 2);
        night("hour 1;hour 1;hour 1;hour 1;ringer 9 1 0 0;times 3;rest 0;", 1, 54, 1, 3);
        night("hour 1;hour 1;hour 1;hour 1;ringer 9 1 0 0;times 2;rest 0;", 2, 36, 1, 2);
    }

    private static void fewestAndEven() {
        // The least walk takes four, the fewest ringers three who live far off.
        night("hour 2;hour 2;ringer 60 3 0 0;ringer 1 1 2 0;ringer 1 1 1 0;ringer 1 2 0 0;times 2;", 0, 8, 2, 1);
        night("hour 1;hour 1;hour 1;hour 1;ringer 1 1 0 0;ringer 60 1 0 0;times 4;", 0, 8, 1, 2);
        night("hour 1;hour 1;hour 1;hour 1;ringer 1 1 0 0;ringer 60 1 7 0;times 4;", 0, 8, 1, 3);
        night("hour 3;hour 3;ringer 1 7 0 0;ringer 1 7 0 0;ringer 1 7 0 0;ringer 1 7 0 0;ringer 1 7 0 0;ringer 1 7 0 0;", 0, 12, 6, 1);
    }

    private static void best(String text, int... want) {
        HourRingers x = Check.told(text);
        int hours = x.count(0);
        for (int i = 0; i < want.length; i++) {
            Check.due("16: best(" + i / hours + ", " + i % hours + ") of " + text, x.best(i / hours, i % hours), want[i]);
        }
    }

    private static void best() {
        best("hour 1;ringer 5 1 0 0;ringer 5 1 0 0;", NONE, 0);
        best("hour 2;ringer 5 3 0 0;ringer 5 3 0 0;", 0, 1);
        best("hour 2;ringer 5 3 0 0;ringer 5 1 0 0;", 1, 0);
        best("hour 3;ringer 5 6 0 0;ringer 5 7 0 0;ringer 5 6 0 0;", 1, 0, 2);
        best("hour 3;ringer 5 7 0 0;", 0);
        best("hour 1;hour 1;ringer 5 1 0 0;ringer 5 1 0 0;", NONE, 0, 0, NONE);
        best("hour 1;hour 1;ringer 4 1 0 0;ringer 5 1 0 0;times 2;", 0, 0, NONE, NONE);
        best("hour 1;hour 1;ringer 5 1 0 0;ringer 5 1 0 0;times 2;", NONE, NONE, 0, 0);
        best("hour 1;hour 1;hour 1;ringer 5 1 0 0;ringer 5 1 0 0;times 2;rest 1;", NONE, 0, NONE, 0, NONE, 0);
        HourRingers x = Check.told("hour 1;ringer 5 1 0 0;ringer 7 1 0 0;tower 5;");
        Check.due("16: the near one", x.best(0, 0), 0);
        x.moves(8);
        Check.due("16: the tower moved", x.best(0, 0), NONE);
        Check.due("16: the tower moved", x.best(1, 0), 0);
        x.keep(0);
        x.moves(5);
        Check.due("16: the tower moved", x.best(0, 0), 0);
        x.back(0);
        Check.due("16: an image came back", x.best(0, 0), NONE);
    }

    private static void needed(String text, int want) {
        Check.due("17: needed() of " + text, Check.told(text).needed(), want);
    }

    private static void needed() {
        needed("", 0);
        needed(FULL_NIGHT, 0);
        needed("hour 1;ringer 5 1 0 0;", 1);
        needed("hour 1;ringer 5 1 0 0;ringer 60 1 0 0;", 0);
        needed("hour 1;ringer 5 2 0 0;ringer 60 1 0 0;", 2);
        needed("hour 2;ringer 5 3 0 0;ringer 60 1 0 0;ringer 60 1 0 0;", 1);
        needed("hour 3;hour 3;" + "ringer 5 7 0 0;".repeat(6), 63);
        needed("hour 3;hour 2;" + "ringer 5 7 0 0;".repeat(6), 0);
        needed("hour 3;hour 3;" + "ringer 5 7 0 0;".repeat(6) + "times 2;", 0);
        needed("hour 1;hour 1;hour 1;ringer 1 1 0 0;ringer 2 1 5 0;times 2;rest 1;", 3);
        needed("hour 1;hour 1;ringer 1 1 0 0;ringer 1 1 0 0;times 2;rest 3;", 3);
    }

    private static void odds(String text, int upper, int lower) {
        HourRingers x = Check.told(text);
        Check.due("18: upper of " + text, x.odds(0, 0), upper);
        Check.due("18: lower of " + text, x.odds(0, 1), lower);
    }

    private static void odds() {
        odds("hour 1;", 0, 1);
        odds("hour 1;ringer 0 1 0 0;", 1, 1);
        odds("hour 1;ringer 0 1 0 9;", 1, 10);
        odds("hour 1;ringer 0 1 0 5;", 1, 2);
        odds("hour 1;ringer 0 2 0 5;", 0, 1);
        odds("hour 1;ringer 0 1 1 5;", 0, 1);
        odds("hour 1;ringer 0 1 0 5;ringer 0 1 0 5;", 3, 4);
        odds("hour 2;ringer 0 3 0 5;ringer 0 1 0 3;", 7, 20);
        odds("hour 3;" + "ringer 0 7 0 9;".repeat(6), 317, 20000);
        odds("hour 3;" + "ringer 0 7 0 0;".repeat(6), 1, 1);
        HourRingers x = Check.told("hour 3;hour 1;ringer 0 7 1 3;ringer 0 7 0 1;ringer 0 7 0 1;");
        Check.due("18: busy in hour 0", x.odds(0, 0), 0);
        Check.due("18: hour 1", x.odds(1, 0), 997);
        Check.due("18: hour 1", x.odds(1, 1), 1000);
    }

    private static void wrong() {
        HourRingers x = Check.told(FULL_NIGHT + "ringer 1 7 0 0;".repeat(4));
        for (int wild : WILD) {
            Check.due("13: hour " + wild, x.crew(wild), BAD);
            Check.due("14: hour " + wild, x.bars(wild), BAD);
            Check.due("15: what " + wild, x.night(wild), BAD);
            Check.due("16: ringer " + wild, x.best(wild, 0), BAD);
            Check.due("16: hour " + wild, x.best(0, wild), BAD);
            Check.due("18: hour " + wild, x.odds(wild, 0), BAD);
            Check.due("18: what " + wild, x.odds(0, wild), BAD);
        }
        Check.due("18: what 2", x.odds(0, 2), BAD);
        HourRingers y = Check.told("hour 1;ringer 1 7 0 0;");
        Check.due("13: no such hour", y.crew(1), BAD);
        Check.due("14: no such hour", y.bars(1), BAD);
        Check.due("16: no such ringer", y.best(1, 0), BAD);
        Check.due("16: no such hour", y.best(0, 1), BAD);
        Check.due("18: no such hour", y.odds(1, 0), BAD);
    }

    private static void nothingIsChanged() {
        HourRingers x = Check.told("hour 2;hour 1;ringer 5 7 0 2;ringer 9 3 0 4;times 2;tower 3;");
        x.put(1, 0, 1);
        x.heard(0, 1);
        for (int what = 0; what < 4; what++) {
            x.night(what);
        }
        x.best(0, 0);
        x.needed();
        x.crew(0);
        x.bars(0);
        x.odds(0, 0);
        x.stands(0);
        Check.due("15: the rota stays", x.now(2), 1);
        Check.due("15: the rota stays", x.rings(0, 1), 1);
        Check.due("15: the tower stays", x.now(3), 3);
        Check.due("15: what was heard stays", x.hour(0, 2), 1);
        Check.due("15: the rota is not asked", x.night(0), 0);
        Check.due("15: the rota is not asked", x.night(1), 4 + 4 + 12);
    }
}
