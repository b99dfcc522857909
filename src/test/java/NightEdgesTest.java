/** Promises 13 to 18 at their edges: each test is a sentence of the document. */
public final class NightEdgesTest {
    private static final int BAD = HourRingers.BAD, NONE = HourRingers.NONE;
    private static final int LEAST = Integer.MIN_VALUE, MOST = Integer.MAX_VALUE;
    private static final String FOUR_HOURS = "hour3;hour3;hour3;hour3;";
    private static final String FOUR_SMALL = "hour1;hour1;hour1;hour1;";
    private static final String ABLE = "ringer0 7 0 0;";
    private static final String SIX_RINGERS = ABLE.repeat(6);

    public static void main(String[] args) {
        crews();
        bars();
        nights();
        best();
        needed();
        odds();
        numbersNotAsTold();
        theRotaIsNotAsked();
        nothingIsChanged();
        Check.end();
    }

    // ---- 13, 14: crew and bars

    private static void crews() {
        fromNoneToThree();
        nobodyForACrew();
        busyOnesAreOfNoCrew();
        asIfItWereAlone();
    }

    private static void fromNoneToThree() {
        for (int want = 1; want <= 3; want++) {
            for (int n = 0; n <= 6; n++) {
                HourRingers x = Check.told("hour" + want + ";" + ABLE.repeat(n));
                Check.due("13: want " + want + " of " + n, x.crew(0), Math.min(want, n));
                Check.due("14: want " + want + " of " + n, x.bars(0), n >= want ? NONE : (1 << n + 1) - 1);
            }
        }
    }

    private static void nobodyForACrew() {
        HourRingers x = Check.told(FOUR_HOURS);
        HourRingers y = Check.told(FOUR_HOURS + "ringer0 0 0 0;".repeat(6));
        for (int h = 0; h < 4; h++) {
            Check.due("13: nobody", x.crew(h), 0);
            Check.due("14: nobody", x.bars(h), 1);
            Check.due("13: none who can", y.crew(h), 0);
            Check.due("14: none who can", y.bars(h), 1);
        }
    }

    private static void busyOnesAreOfNoCrew() {
        for (int busy = 0; busy < 16; busy++) {
            HourRingers x = Check.told(FOUR_SMALL + "ringer0 1 " + busy + " 0;");
            for (int h = 0; h < 4; h++) {
                boolean isFree = (busy & 1 << h) == 0;
                Check.due("13: busy " + busy + ", hour " + h, x.crew(h), isFree ? 1 : 0);
                Check.due("14: busy " + busy + ", hour " + h, x.bars(h), isFree ? NONE : 1);
            }
        }
    }

    private static void asIfItWereAlone() {
        HourRingers x = Check.told(FOUR_HOURS + ABLE.repeat(3) + "times1;rest3;");
        for (int h = 0; h < 4; h++) {
            Check.due("13: times and rest do not bar, hour " + h, x.crew(h), 3);
            Check.due("14: times and rest do not bar, hour " + h, x.bars(h), NONE);
        }
    }

    private static void bars() {
        String[] texts = {"ringer0 6 0 0;ringer0 6 0 0;ringer0 6 0 0;", "ringer0 5 0 0;ringer0 5 0 0;ringer0 5 0 0;",
            "ringer0 3 0 0;ringer0 4 0 0;ringer0 4 0 0;", "ringer0 3 0 0;ringer0 3 0 0;ringer0 3 0 0;",
            "ringer0 5 0 0;ringer0 2 0 0;ringer0 2 0 0;", "ringer0 1 0 0;ringer0 1 0 0;ringer0 6 0 0;",
            "ringer0 7 0 0;ringer0 7 0 0;"};
        for (int i = 0; i < texts.length; i++) {
            HourRingers x = Check.told("hour3;" + texts[i]);
            Check.due("14: bars " + (i + 1) + ", " + texts[i], x.bars(0), i + 1);
            Check.due("13: the crew of " + texts[i], x.crew(0), 2);
        }
        Check.due("14: nothing bars", Check.told("hour3;ringer0 1 0 0;ringer0 2 0 0;ringer0 4 0 0;").bars(0), NONE);
        Check.due("14: the least by its bits, not the smallest", Check.told("hour3;ringer0 3 0 0;").bars(0), 3);
        Check.due("14: a bell that is not wanted bars nothing", Check.told("hour2;ringer0 1 0 0;ringer0 2 0 0;").bars(0), NONE);
        Check.due("13: a bell that is not wanted is of no crew", Check.told("hour2;ringer0 1 0 0;ringer0 4 0 0;").crew(0), 1);
        Check.due("14: who can ring none of them", Check.told("hour2;ringer0 1 0 0;ringer0 4 0 0;").bars(0), 2);
    }

    // ---- 15: night

    private static void nights() {
        nothingTold();
        fromNoneToAllShort();
        fewestShortAheadOfLeastWalk();
        leastAndMostWalk();
        fromNoneToSixRingers();
        fewestWhateverTheWalk();
        fromNobodyToFourTimes();
        evenWhateverTheWalk();
        timesBound();
        restBounds();
        towersPlace();
    }

    private static void night(String text, int shortOf, int walk, int fewest, int even) {
        int[] due = {shortOf, walk, fewest, even};
        HourRingers x = Check.told(text);
        for (int what = 0; what < 4; what++) {
            Check.due("15: night(" + what + ") of " + text, x.night(what), due[what]);
            // Each is asked of an object that was asked nothing ahead, too.
            Check.due("15: night(" + what + ") first, of " + text, Check.told(text).night(what), due[what]);
        }
    }

    private static void nothingTold() {
        night("", 0, 0, 0, 0);
        night("tower60;times4;rest3;", 0, 0, 0, 0);
        night(SIX_RINGERS, 0, 0, 0, 0);
        night("hour1;", 1, 0, 0, 0);
        night(FOUR_HOURS, 12, 0, 0, 0);
    }

    private static void fromNoneToAllShort() {
        for (int n = 0; n <= 6; n++) {
            int fewest = Math.min(n, 6);
            night(FOUR_HOURS + ABLE.repeat(n), 12 - n, 0, fewest, n == 0 ? 0 : 1);
        }
        night(FOUR_HOURS + "ringer60 0 0 0;ringer60 7 15 0;times4;", 12, 0, 0, 0);
        night(FOUR_HOURS + SIX_RINGERS + "times2;", 0, 0, 6, 2);
        night(FOUR_HOURS + SIX_RINGERS + "times4;", 0, 0, 3, 2);
        night(FOUR_HOURS + SIX_RINGERS + "times3;", 0, 0, 4, 2);
    }

    private static void fewestShortAheadOfLeastWalk() {
        night("hour2;ringer0 1 0 0;ringer60 2 0 0;", 0, 120, 2, 1);
        night("hour2;ringer0 3 0 0;ringer60 1 0 0;", 0, 120, 2, 1);
        night("hour1;ringer60 1 0 0;", 0, 120, 1, 1);
        night("hour1;ringer60 1 0 0;ringer59 1 0 0;", 0, 118, 1, 1);
        night("hour1;ringer60 1 0 0;ringer59 1 1 0;", 0, 120, 1, 1);
    }

    private static void leastAndMostWalk() {
        night(FOUR_HOURS + "ringer60 7 0 0;".repeat(3) + "times4;", 0, 1440, 3, 4);
        night(FOUR_HOURS + "ringer60 7 0 0;".repeat(6) + "times4;", 0, 1440, 3, 2);
        night(FOUR_HOURS + "ringer60 7 0 0;".repeat(3) + "times4;tower60;", 0, 0, 3, 4);
        night(FOUR_HOURS + "ringer0 7 0 0;".repeat(3) + "times4;tower60;", 0, 1440, 3, 4);
    }

    private static void fromNoneToSixRingers() {
        for (int n = 0; n <= 6; n++) {
            night("hour3;hour3;" + ABLE.repeat(n) + "times1;", 6 - n, 0, n, n == 0 ? 0 : 1);
        }
        night("hour3;" + SIX_RINGERS, 0, 0, 3, 1);
        night("hour1;" + SIX_RINGERS, 0, 0, 1, 1);
    }

    private static void fewestWhateverTheWalk() {
        night("hour1;hour1;ringer60 1 0 0;ringer0 1 1 0;ringer0 1 2 0;times2;", 0, 0, 1, 1);
        night("hour1;hour1;hour1;ringer60 1 0 0;ringer0 1 6 0;ringer0 1 5 0;ringer0 1 3 0;times3;", 0, 0, 1, 1);
        night("hour1;hour1;hour1;ringer60 1 0 0;ringer0 1 6 0;ringer0 1 5 0;ringer0 1 3 0;times2;", 0, 0, 2, 1);
    }

    private static void fromNobodyToFourTimes() {
        night(FOUR_SMALL + "ringer0 1 0 0;times4;", 0, 0, 1, 4);
        night(FOUR_SMALL + "ringer0 1 0 0;ringer0 1 14 0;times4;", 0, 0, 1, 3);
        night(FOUR_SMALL + "ringer0 1 0 0;ringer0 1 0 0;times4;", 0, 0, 1, 2);
        night(FOUR_SMALL + "ringer0 1 0 0;".repeat(4) + "times4;", 0, 0, 1, 1);
        night(FOUR_SMALL + "ringer0 1 15 0;".repeat(4) + "times4;", 4, 0, 0, 0);
    }

    private static void evenWhateverTheWalk() {
        night(FOUR_SMALL + "ringer60 1 0 0;".repeat(3) + "ringer0 1 0 0;times4;", 0, 0, 1, 1);
        night(FOUR_SMALL + "ringer60 1 0 0;ringer0 1 0 0;times3;", 0, 120, 2, 2);
    }

    private static void timesBound() {
        for (int times = 1; times <= 4; times++) {
            night(FOUR_SMALL + "ringer10 1 0 0;times" + times + ";", 4 - times, 20 * times, 1, times);
        }
    }

    private static void restBounds() {
        int[] rung = {4, 2, 2, 1};
        for (int rest = 0; rest <= 3; rest++) {
            night(FOUR_SMALL + "ringer10 1 0 0;times4;rest" + rest + ";", 4 - rung[rest], 20 * rung[rest], 1, rung[rest]);
        }
        night("hour1;hour1;ringer10 1 0 0;times4;rest1;", 1, 20, 1, 1);
        night("hour1;hour1;hour1;ringer10 1 0 0;times4;rest1;", 1, 40, 1, 2);
        night("hour1;hour1;hour1;ringer10 1 0 0;times4;rest2;", 2, 20, 1, 1);
        night(FOUR_SMALL + "ringer10 1 6 0;times4;rest2;", 2, 40, 1, 2);
        night(FOUR_SMALL + "ringer10 1 6 0;times4;rest3;", 3, 20, 1, 1);
    }

    private static void towersPlace() {
        HourRingers x = Check.told("hour1;ringer0 1 0 0;ringer60 1 0 0;tower0;");
        for (int place = 0; place <= 60; place++) {
            x.moves(place);
            Check.due("15: the tower at " + place, x.night(1), 2 * Math.min(place, 60 - place));
            Check.due("16: the tower at " + place, x.best(0, 0), place < 30 ? 0 : NONE);
            Check.due("16: the tower at " + place, x.best(1, 0), place < 30 ? NONE : 0);
        }
    }

    // ---- 16: best

    private static void best(String text, int... due) {
        int hours = Check.told(text).count(0);
        HourRingers x = Check.told(text);
        for (int i = due.length - 1; i >= 0; i--) {
            Check.due("16: best(" + i / hours + ", " + i % hours + ") of " + text, x.best(i / hours, i % hours), due[i]);
        }
    }

    private static void best() {
        noBellComesFirst();
        lowerBellsComeFirst();
        ringer0ComesFirst();
        hour0ComesFirst();
        ofThoseOfNightAlone();
        mostOfAll();
    }

    private static void noBellComesFirst() {
        best("hour1;" + SIX_RINGERS, NONE, NONE, NONE, NONE, NONE, 0);
        best("hour1;ringer0 7 0 0;", 0);
        best("hour1;ringer0 6 0 0;", NONE);
        best("hour1;ringer0 7 1 0;", NONE);
    }

    private static void lowerBellsComeFirst() {
        best("hour3;ringer0 7 0 0;", 0);
        best("hour3;ringer0 6 0 0;", 1);
        best("hour3;ringer0 4 0 0;", 2);
        best("hour2;ringer0 3 0 0;ringer0 3 0 0;", 0, 1);
        best("hour2;ringer0 3 0 0;ringer0 1 0 0;", 1, 0);
        best("hour3;" + ABLE.repeat(3), 0, 1, 2);
        best("hour3;ringer0 7 0 0;ringer0 7 0 0;ringer0 3 0 0;", 0, 2, 1);
        best("hour3;ringer0 7 0 0;ringer0 5 0 0;ringer0 1 0 0;", 1, 2, 0);
    }

    private static void ringer0ComesFirst() {
        best("hour1;ringer0 1 0 0;ringer0 1 0 0;", NONE, 0);
        best("hour2;ringer0 3 0 0;ringer0 3 0 0;ringer0 2 0 0;", NONE, 0, 1);
        best("hour1;hour1;ringer0 1 0 0;ringer0 1 0 0;ringer0 1 1 0;", NONE, NONE, 0, NONE, NONE, 0);
    }

    private static void hour0ComesFirst() {
        best("hour1;hour1;ringer0 1 0 0;", NONE, 0);
        best("hour1;hour1;ringer0 1 2 0;", 0, NONE);
        best(FOUR_SMALL + "ringer0 1 0 0;times2;", NONE, NONE, 0, 0);
        best(FOUR_SMALL + "ringer0 1 0 0;times2;rest1;", NONE, 0, NONE, 0);
        best(FOUR_SMALL + "ringer0 1 0 0;times2;rest2;", 0, NONE, NONE, 0);
        best(FOUR_SMALL + "ringer0 1 0 0;times2;rest3;", NONE, NONE, NONE, 0);
    }

    private static void ofThoseOfNightAlone() {
        best("hour1;ringer0 1 0 0;ringer1 1 0 0;", 0, NONE);
        best("hour1;hour1;ringer0 1 0 0;ringer1 1 0 0;", NONE, 0, 0, NONE);
        best("hour1;hour1;ringer0 1 0 0;ringer1 1 0 0;times2;", 0, 0, NONE, NONE);
        best("hour2;ringer60 1 0 0;ringer60 2 0 0;ringer59 2 0 0;", 0, NONE, 1);
    }

    private static void mostOfAll() {
        best(FOUR_HOURS + SIX_RINGERS + "times4;", NONE, NONE, NONE, NONE, NONE, NONE, NONE, NONE, NONE, NONE, NONE, NONE,
                0, 0, 0, 0, 1, 1, 1, 1, 2, 2, 2, 2);
        best(FOUR_HOURS + SIX_RINGERS + "times2;", NONE, NONE, 0, 0, NONE, NONE, 1, 1, NONE, NONE, 2, 2,
                0, 0, NONE, NONE, 1, 1, NONE, NONE, 2, 2, NONE, NONE);
    }

    // ---- 17: needed

    private static void needed(String text, int due) {
        Check.due("17: needed() of " + text, Check.told(text).needed(), due);
    }

    private static void needed() {
        needed("", 0);
        needed(FOUR_HOURS, 0);
        needed(SIX_RINGERS, 0);
        needed("hour1;ringer0 0 0 0;", 0);
        needed("hour1;ringer0 7 1 0;", 0);
        for (int r = 0; r < 6; r++) {
            needed("hour1;" + "ringer0 6 0 0;".repeat(r) + "ringer60 1 0 9;" + "ringer0 1 1 0;".repeat(5 - r), 1 << r);
        }
        for (int n = 1; n <= 6; n++) {
            needed(FOUR_HOURS + ABLE.repeat(n), (1 << n) - 1);
        }
        needed("hour3;hour2;" + SIX_RINGERS, 0);
        needed("hour3;hour3;" + SIX_RINGERS, 63);
        needed(FOUR_HOURS + SIX_RINGERS + "times2;", 63);
        needed(FOUR_HOURS + SIX_RINGERS + "times3;", 0);
        needed(FOUR_HOURS + ABLE.repeat(3) + "times4;", 7);
        needed(FOUR_HOURS + ABLE.repeat(4) + "times4;", 0);
        // Near or far is one: without the near one nobody is short.
        needed("hour1;ringer0 1 0 0;ringer60 1 0 0;", 0);
    }

    // ---- 18: odds

    private static void odds(String text, int upper, int lower) {
        HourRingers x = Check.told(text);
        Check.due("18: upper of " + text, x.odds(0, 0), upper);
        Check.due("18: lower of " + text, x.odds(0, 1), lower);
    }

    private static void odds() {
        neverAndAlways();
        illFrom0To9();
        leastTerms();
        largestLowerNumber();
        busyAndUnableOnesDoNotHelp();
    }

    private static void neverAndAlways() {
        odds("hour1;", 0, 1);
        odds("hour3;ringer0 7 0 0;ringer0 7 0 0;", 0, 1);
        odds("hour3;ringer0 7 0 9;ringer0 7 0 9;", 0, 1);
        odds("hour1;ringer0 7 0 0;", 1, 1);
        odds("hour1;ringer0 7 0 0;ringer0 7 0 9;", 1, 1);
        odds("hour3;" + SIX_RINGERS, 1, 1);
    }

    private static void illFrom0To9() {
        int[] uppers = {1, 9, 4, 7, 3, 1, 2, 3, 1, 1};
        int[] lowers = {1, 10, 5, 10, 5, 2, 5, 10, 5, 10};
        for (int ill = 0; ill <= 9; ill++) {
            odds("hour1;ringer0 1 0 " + ill + ";", uppers[ill], lowers[ill]);
        }
    }

    private static void leastTerms() {
        odds("hour2;ringer0 1 0 5;ringer0 2 0 5;", 1, 4);
        odds("hour2;ringer0 1 0 5;ringer0 2 0 6;", 1, 5);
        odds("hour2;ringer0 3 0 5;ringer0 3 0 5;ringer0 3 0 5;", 1, 2);
        odds("hour1;ringer0 1 0 5;ringer0 1 0 8;", 3, 5);
    }

    private static void largestLowerNumber() {
        odds("hour1;" + "ringer0 1 0 9;".repeat(6), 468559, 1000000);
        odds("hour1;" + "ringer0 1 0 1;".repeat(6), 999999, 1000000);
        odds("hour3;ringer0 1 0 9;ringer0 2 0 9;ringer0 4 0 9;", 1, 1000);
    }

    private static void busyAndUnableOnesDoNotHelp() {
        odds("hour1;ringer0 1 0 5;ringer0 1 1 0;", 1, 2);
        odds("hour1;ringer0 1 0 5;ringer0 6 0 0;", 1, 2);
        odds("hour1;ringer0 1 14 5;", 1, 2);
        HourRingers x = Check.told(FOUR_SMALL + "ringer0 1 5 5;ringer0 1 2 2;times1;rest3;");
        int[] uppers = {4, 1, 4, 9};
        int[] lowers = {5, 2, 5, 10};
        for (int h = 0; h < 4; h++) {
            Check.due("18: upper of hour " + h, x.odds(h, 0), uppers[h]);
            Check.due("18: lower of hour " + h, x.odds(h, 1), lowers[h]);
        }
    }

    // ---- 13 to 18: refusals, and what is not asked or changed

    private static void numbersNotAsTold() {
        HourRingers x = Check.told("hour3;hour3;" + ABLE.repeat(2));
        for (int h : new int[] {LEAST, -1, 2, 3, 4, 32, MOST}) {
            Check.due("13: no such hour of two, " + h, x.crew(h), BAD);
            Check.due("14: no such hour of two, " + h, x.bars(h), BAD);
            Check.due("16: no such hour of two, " + h, x.best(0, h), BAD);
            Check.due("18: no such hour of two, " + h, x.odds(h, 0), BAD);
            Check.due("18: no such hour of two, " + h, x.odds(h, 1), BAD);
        }
        for (int r : new int[] {LEAST, -1, 2, 5, 6, 32, MOST}) {
            Check.due("16: no such ringer of two, " + r, x.best(r, 0), BAD);
        }
        for (int what : new int[] {LEAST, -1, 4, 5, MOST}) {
            Check.due("15: what " + what, x.night(what), BAD);
        }
        for (int what : new int[] {LEAST, -1, 2, 3, MOST}) {
            Check.due("18: what " + what, x.odds(0, what), BAD);
            Check.due("18: no such hour and what " + what, x.odds(2, what), BAD);
        }
        HourRingers most = Check.told(FOUR_HOURS + SIX_RINGERS);
        Check.due("13: the fourth", most.crew(3), 3);
        Check.due("13: a fifth", most.crew(4), BAD);
        Check.due("14: the fourth", most.bars(3), NONE);
        Check.due("14: a fifth", most.bars(4), BAD);
        Check.due("16: the last of each", most.best(5, 3), NONE);
        Check.due("16: a fifth hour", most.best(5, 4), BAD);
        Check.due("16: a seventh ringer", most.best(6, 3), BAD);
        Check.due("18: the fourth", most.odds(3, 0), 1);
        Check.due("18: a fifth", most.odds(4, 0), BAD);
    }

    private static final String SOME_NIGHT = "hour3;hour1;hour2;ringer10 7 0 1;ringer20 3 2 2;ringer30 5 4 3;tower25;times2;rest1;";

    private static String asked(HourRingers x) {
        StringBuilder answers = new StringBuilder();
        for (int h = 0; h < 3; h++) {
            answers.append(x.crew(h)).append(' ').append(x.bars(h)).append(' ');
            answers.append(x.odds(h, 0)).append(' ').append(x.odds(h, 1)).append('\n');
            for (int r = 0; r < 3; r++) {
                answers.append(x.best(r, h)).append('\n');
            }
        }
        for (int what = 0; what < 4; what++) {
            answers.append(x.night(what)).append('\n');
        }
        return answers.append(x.needed()).toString();
    }

    private static void theRotaIsNotAsked() {
        String due = asked(Check.told(SOME_NIGHT));
        HourRingers x = Check.told(SOME_NIGHT);
        int[][] turns = {{0, 0, 0}, {1, 0, 1}, {2, 0, 2}, {0, 2, 1}, {1, 2, 0}};
        for (int[] turn : turns) {
            x.put(turn[0], turn[1], turn[2]);
            Check.same("15: the rota is not asked", asked(x), due);
        }
        x.heard(0, 0);
        Check.same("15: what was heard is not asked", asked(x), due);
    }

    private static void nothingIsChanged() {
        HourRingers x = Check.told(SOME_NIGHT);
        HourRingers y = Check.told(SOME_NIGHT);
        for (HourRingers one : new HourRingers[] {x, y}) {
            one.put(2, 0, 2);
            one.keep(0);
            one.put(0, 0, 0);
            one.heard(0, 2);
            one.moves(40);
            Check.type(one, "hour 1;");
        }
        asked(x);
        asked(x);
        Check.same("15: nothing is changed", Answers.of(x), Answers.of(y));
        Check.same("15: nor images and the text", Answers.atTheEnd(x), Answers.atTheEnd(y));
    }
}
