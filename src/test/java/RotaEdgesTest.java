/** Promises 7 to 12 and 19 at their edges: each test is a sentence of the document. */
public final class RotaEdgesTest {
    private static final int BAD = HourRingers.BAD, STATE = HourRingers.STATE, NONE = HourRingers.NONE;
    private static final int LEAST = Integer.MIN_VALUE, MOST = Integer.MAX_VALUE;
    private static final int[] NO_BELLS = {LEAST, -1, 3, 4, 32, 64, MOST};
    private static final String FOUR_HOURS = "hour3;hour3;hour3;hour3;";
    private static final String SIX_RINGERS = "ringer0 7 0 0;".repeat(6);

    public static void main(String[] args) {
        putting();
        ringing();
        taking();
        exchanging();
        nows();
        moving();
        standing();
        Check.end();
    }

    // ---- 7: put

    private static void putting() {
        oneAtABellAtMost();
        oneBellInAnHour();
        oneThatHeCan();
        notBusy();
        timesAtMost();
        hoursBetween();
        bellThatIsNotWanted();
        numbersNotAsTold();
        badAheadOfState();
        fullestRota();
        nobodyAtAll();
    }

    private static void oneAtABellAtMost() {
        HourRingers x = Check.told("hour2;ringer0 7 0 0;ringer0 7 0 0;");
        Check.due("7: the first at the bell", x.put(0, 0, 1), 1);
        Check.due("7: a second at the bell", x.put(1, 0, 1), STATE);
        Check.due("7: the first is there still", x.rings(0, 1), 0);
        Check.due("7: a second at another", x.put(1, 0, 0), 2);
    }

    private static void oneBellInAnHour() {
        HourRingers x = Check.told("hour3;ringer0 7 0 0;times4;");
        Check.due("7: his bell", x.put(0, 0, 1), 1);
        for (int bell = 0; bell < 3; bell++) {
            Check.due("7: another in the hour, " + bell, x.put(0, 0, bell), STATE);
        }
        Check.due("7: one bell still", x.now(2), 1);
        Check.due("7: his bell still", x.take(0, 0), 1);
    }

    private static void oneThatHeCan() {
        for (int bells = 0; bells < 8; bells++) {
            for (int bell = 0; bell < 3; bell++) {
                HourRingers x = Check.told("hour3;ringer0 " + bells + " 0 0;");
                boolean can = (bells & 1 << bell) != 0;
                Check.due("7: who can ring " + bells + ", put to " + bell, x.put(0, 0, bell), can ? 1 : STATE);
                Check.due("7: so many are in the rota", x.now(2), can ? 1 : 0);
            }
        }
    }

    private static void notBusy() {
        for (int busy = 0; busy < 16; busy++) {
            for (int h = 0; h < 4; h++) {
                HourRingers x = Check.told(FOUR_HOURS + "ringer0 7 " + busy + " 0;");
                boolean isFree = (busy & 1 << h) == 0;
                Check.due("7: busy " + busy + ", put in hour " + h, x.put(0, h, 0), isFree ? 1 : STATE);
                Check.due("7: so many are in the rota", x.now(2), isFree ? 1 : 0);
            }
        }
    }

    private static void timesAtMost() {
        for (int times = 1; times <= 4; times++) {
            HourRingers x = Check.told(FOUR_HOURS + "ringer0 7 0 0;ringer0 7 0 0;times" + times + ";");
            for (int h = 3; h >= 0; h--) {
                boolean mayRing = 3 - h < times;
                Check.due("7: times " + times + ", hour " + h, x.put(0, h, 2), mayRing ? 4 - h : STATE);
            }
            Check.due("7: the other's times are his own", x.put(1, 0, 0), times + 1);
        }
    }

    /** h is more than g and REST together: REST + 1 hours on he may ring, REST hours on he may not. */
    private static void hoursBetween() {
        for (int rest = 0; rest <= 3; rest++) {
            for (int g = 0; g < 4; g++) {
                for (int h = g + 1; h < 4; h++) {
                    int due = h > g + rest ? 2 : STATE;
                    String text = FOUR_HOURS + "ringer0 7 0 0;ringer0 7 0 0;times4;rest" + rest + ";";
                    HourRingers x = Check.told(text);
                    x.put(0, g, 0);
                    Check.due("7: rest " + rest + ", " + g + " and then " + h, x.put(0, h, 0), due);
                    HourRingers y = Check.told(text);
                    y.put(0, h, 0);
                    Check.due("7: rest " + rest + ", " + h + " and then " + g, y.put(0, g, 0), due);
                    HourRingers z = Check.told(text);
                    z.put(0, g, 0);
                    Check.due("7: another need not rest, " + rest, z.put(1, h, 0), 2);
                }
            }
        }
        HourRingers x = Check.told(FOUR_HOURS + "ringer0 7 0 0;times4;rest1;");
        x.put(0, 0, 0);
        x.put(0, 3, 0);
        Check.due("7: too near the one ahead", x.put(0, 1, 0), STATE);
        Check.due("7: too near the one behind", x.put(0, 2, 0), STATE);
    }

    private static void bellThatIsNotWanted() {
        for (int want = 1; want <= 3; want++) {
            for (int bell = 0; bell < 3; bell++) {
                HourRingers x = Check.told("hour" + want + ";ringer0 7 0 0;");
                Check.due("7: want " + want + ", bell " + bell, x.put(0, 0, bell), bell < want ? 1 : BAD);
            }
        }
    }

    private static void numbersNotAsTold() {
        HourRingers x = Check.told("hour3;hour3;ringer0 7 0 0;ringer0 7 0 0;");
        for (int bell : NO_BELLS) {
            Check.due("7: no such bell, " + bell, x.put(0, 0, bell), BAD);
        }
        for (int r : new int[] {LEAST, -1, 2, 6, 32, MOST}) {
            Check.due("7: no such ringer of two, " + r, x.put(r, 0, 0), BAD);
        }
        for (int h : new int[] {LEAST, -1, 2, 4, 32, MOST}) {
            Check.due("7: no such hour of two, " + h, x.put(0, h, 0), BAD);
        }
        Check.due("7: nobody was put", x.now(2), 0);
        HourRingers y = Check.told(FOUR_HOURS + SIX_RINGERS);
        Check.due("7: the seventh", y.put(6, 3, 2), BAD);
        Check.due("7: the fifth hour", y.put(5, 4, 2), BAD);
        Check.due("7: the fourth bell", y.put(5, 3, 3), BAD);
        Check.due("7: the last of each", y.put(5, 3, 2), 1);
        Check.due("7: the first of each", y.put(0, 0, 0), 2);
    }

    private static void badAheadOfState() {
        HourRingers x = Check.told("hour2;hour1;ringer0 0 15 0;ringer0 7 0 0;");
        x.put(1, 0, 0);
        Check.due("7: he can't, is busy", x.put(0, 0, 0), STATE);
        Check.due("7: he can't, is busy, and no such bell", x.put(0, 0, 3), BAD);
        Check.due("7: he can't, is busy, and not wanted", x.put(0, 1, 1), BAD);
        Check.due("7: rings already, and not wanted", x.put(1, 0, 2), BAD);
        Check.due("7: has rung his times, and not wanted", x.put(1, 1, 2), BAD);
        Check.due("7: has rung his times", x.put(1, 1, 0), STATE);
    }

    private static void fullestRota() {
        HourRingers x = Check.told(FOUR_HOURS + SIX_RINGERS + "times4;");
        for (int i = 0; i < 12; i++) {
            Check.due("7: turn " + i, x.put(5 - i % 3, i / 3, i % 3), i + 1);
        }
        for (int i = 0; i < 12; i++) {
            Check.due("7: no room at turn " + i, x.put(0, i / 3, i % 3), STATE);
        }
        Check.due("7: twelve", x.now(2), 12);
    }

    private static void nobodyAtAll() {
        Check.due("7: hours and nobody", Check.told("hour1;").put(0, 0, 0), BAD);
        Check.due("7: ringers and no hours", Check.told("ringer0 7 0 0;").put(0, 0, 0), BAD);
    }

    // ---- 8: rings

    private static void ringing() {
        nobodyRings();
        noSuchBellOrHour();
        bellThatTheHourHasNot();
    }

    private static void nobodyRings() {
        HourRingers x = Check.told("hour3;hour3;" + SIX_RINGERS);
        for (int i = 0; i < 6; i++) {
            Check.due("8: nobody yet", x.rings(i / 3, i % 3), NONE);
            x.put(5 - i, i / 3, i % 3);
            Check.due("8: who", x.rings(i / 3, i % 3), 5 - i);
        }
        x.take(5, 0);
        Check.due("8: nobody any more", x.rings(0, 0), NONE);
        Check.due("8: hours and nobody", Check.told(FOUR_HOURS).rings(3, 2), NONE);
    }

    private static void noSuchBellOrHour() {
        HourRingers x = Check.told("hour3;hour3;" + SIX_RINGERS);
        for (int bell : NO_BELLS) {
            Check.due("8: no such bell, " + bell, x.rings(0, bell), BAD);
        }
        for (int h : new int[] {LEAST, -1, 2, 4, MOST}) {
            Check.due("8: no such hour, " + h, x.rings(h, 0), BAD);
        }
        Check.due("8: the fifth hour", Check.told(FOUR_HOURS).rings(4, 0), BAD);
    }

    /** BELLS of an hour are 0, 1, .. so many as it wants: of others there is no such thing in it (NOTES.md). */
    private static void bellThatTheHourHasNot() {
        for (int want = 1; want <= 3; want++) {
            for (int bell = 0; bell < 3; bell++) {
                int due = bell < want ? NONE : BAD;
                Check.due("8: want " + want + ", bell " + bell, Check.told("hour" + want + ";").rings(0, bell), due);
            }
        }
    }

    // ---- 9: take

    private static void taking() {
        whoDoesNotRingThen();
        takenNumbersNotAsTold();
        takenTurnIsFree();
    }

    private static void whoDoesNotRingThen() {
        HourRingers x = Check.told("hour3;hour3;ringer0 7 0 0;ringer0 7 0 0;");
        Check.due("9: an empty rota", x.take(0, 0), STATE);
        x.put(0, 0, 2);
        Check.due("9: in another hour", x.take(0, 1), STATE);
        Check.due("9: another", x.take(1, 0), STATE);
        Check.due("9: his bell", x.take(0, 0), 2);
        Check.due("9: a second time", x.take(0, 0), STATE);
        Check.due("9: nobody is left", x.now(2), 0);
    }

    private static void takenNumbersNotAsTold() {
        HourRingers x = Check.told("hour1;hour1;ringer0 7 0 0;ringer0 7 0 0;");
        x.put(0, 0, 0);
        for (int wild : new int[] {LEAST, -1, 2, 6, MOST}) {
            Check.due("9: no such ringer, " + wild, x.take(wild, 0), BAD);
            Check.due("9: no such hour, " + wild, x.take(0, wild), BAD);
            Check.due("9: neither, BAD ahead of STATE, " + wild, x.take(wild, wild), BAD);
            Check.due("9: who does not ring, BAD ahead of STATE, " + wild, x.take(1, wild), BAD);
        }
        Check.due("9: he rings still", x.rings(0, 0), 0);
        HourRingers y = Check.told(FOUR_HOURS + SIX_RINGERS);
        y.put(5, 3, 2);
        Check.due("9: the seventh", y.take(6, 3), BAD);
        Check.due("9: the fifth hour", y.take(5, 4), BAD);
        Check.due("9: the last of each", y.take(5, 3), 2);
    }

    private static void takenTurnIsFree() {
        HourRingers x = Check.told("hour3;hour3;ringer0 7 0 0;ringer0 7 0 0;times1;rest3;");
        for (int bell = 0; bell < 3; bell++) {
            x.put(0, 0, bell);
            Check.due("9: bell " + bell, x.take(0, 0), bell);
            Check.due("9: he may ring elsewhere", x.put(0, 1, bell), 1);
            Check.due("9: another may ring it", x.put(1, 0, bell), 2);
            Check.due("9: bell " + bell, x.take(1, 0), bell);
            Check.due("9: bell " + bell, x.take(0, 1), bell);
        }
    }

    // ---- 10: exchange

    private static void exchanging() {
        oneAndTheSame();
        exchangedNumbersNotAsTold();
        bothHaveNone();
        mostTurns();
        inOneHour();
        onlyOneOfThemCanNot();
        onlyOneOfThemIsBusy();
        exchangeBadAheadOfState();
        timesAndRestGoAlong();
    }

    private static void oneAndTheSame() {
        HourRingers x = Check.told("hour1;" + SIX_RINGERS);
        x.put(0, 0, 0);
        for (int r = 0; r < 6; r++) {
            Check.due("10: one and the same, " + r, x.exchange(r, r), BAD);
        }
        Check.due("10: he rings still", x.rings(0, 0), 0);
    }

    private static void exchangedNumbersNotAsTold() {
        HourRingers x = Check.told("hour1;ringer0 7 0 0;ringer0 7 0 0;");
        for (int wild : new int[] {LEAST, -1, 2, 6, MOST}) {
            Check.due("10: no such first, " + wild, x.exchange(wild, 1), BAD);
            Check.due("10: no such second, " + wild, x.exchange(0, wild), BAD);
            Check.due("10: no such two, " + wild, x.exchange(wild, wild), BAD);
        }
        HourRingers y = Check.told("hour1;" + SIX_RINGERS);
        y.put(5, 0, 0);
        Check.due("10: the seventh", y.exchange(5, 6), BAD);
        Check.due("10: the seventh first", y.exchange(6, 5), BAD);
        Check.due("10: the sixth", y.exchange(0, 5), 1);
        Check.due("10: he rings now", y.rings(0, 0), 0);
    }

    private static void bothHaveNone() {
        HourRingers x = Check.told("hour1;ringer0 0 15 0;ringer0 7 0 0;ringer0 7 0 0;");
        Check.due("10: an empty rota", x.exchange(0, 1), 0);
        x.put(2, 0, 0);
        Check.due("10: the others ring alone", x.exchange(0, 1), 0);
        Check.due("10: one has none", x.exchange(1, 2), 1);
        Check.due("10: and the other now", x.rings(0, 0), 1);
    }

    private static void mostTurns() {
        HourRingers x = Check.told(FOUR_HOURS + SIX_RINGERS + "times4;");
        for (int h = 0; h < 4; h++) {
            x.put(1, h, h % 3);
            x.put(4, h, (h + 1) % 3);
            x.put(2, h, (h + 2) % 3);
        }
        Check.due("10: eight turns", x.exchange(4, 1), 8);
        for (int h = 0; h < 4; h++) {
            Check.due("10: hour " + h, x.rings(h, h % 3), 4);
            Check.due("10: hour " + h, x.rings(h, (h + 1) % 3), 1);
            Check.due("10: the third rings as ahead, hour " + h, x.rings(h, (h + 2) % 3), 2);
        }
        Check.due("10: four turns", x.exchange(0, 1), 4);
        Check.due("10: none are lost", x.now(2), 12);
    }

    private static void inOneHour() {
        HourRingers x = Check.told("hour2;ringer0 3 0 0;ringer0 3 0 0;");
        x.put(0, 0, 0);
        x.put(1, 0, 1);
        Check.due("10: two turns", x.exchange(0, 1), 2);
        Check.due("10: bell 0", x.rings(0, 0), 1);
        Check.due("10: bell 1", x.rings(0, 1), 0);
        Check.due("10: and back", x.exchange(0, 1), 2);
        Check.due("10: bell 0", x.rings(0, 0), 0);
    }

    private static void onlyOneOfThemCanNot() {
        HourRingers x = Check.told("hour3;hour3;ringer0 7 0 0;ringer0 1 0 0;");
        x.put(0, 0, 0);
        x.put(1, 1, 0);
        Check.due("10: both can", x.exchange(0, 1), 2);
        x.take(0, 1);
        x.put(0, 1, 2);
        String ahead = Answers.of(x);
        Check.due("10: the second can't", x.exchange(0, 1), STATE);
        Check.due("10: the first can't", x.exchange(1, 0), STATE);
        Check.same("10: nothing changes", Answers.of(x), ahead);
    }

    private static void onlyOneOfThemIsBusy() {
        for (int h = 0; h < 4; h++) {
            HourRingers x = Check.told(FOUR_HOURS + "ringer0 7 0 0;ringer0 7 " + (1 << h) + " 0;times2;");
            x.put(0, h, 0);
            x.put(1, (h + 1) % 4, 0);
            Check.due("10: the second is busy in hour " + h, x.exchange(0, 1), STATE);
            Check.due("10: the first is busy in hour " + h, x.exchange(1, 0), STATE);
            Check.due("10: nothing changes", x.rings(h, 0), 0);
            Check.due("10: nothing changes", x.rings((h + 1) % 4, 0), 1);
            x.take(0, h);
            Check.due("10: in no other hour", x.exchange(0, 1), 1);
        }
    }

    private static void exchangeBadAheadOfState() {
        HourRingers x = Check.told("hour1;ringer0 7 0 0;ringer0 0 15 0;");
        x.put(0, 0, 0);
        Check.due("10: it would not be lawful", x.exchange(0, 1), STATE);
        Check.due("10: one and the same", x.exchange(0, 0), BAD);
        Check.due("10: no such ringer", x.exchange(0, 2), BAD);
        Check.due("10: no such ringer", x.exchange(-1, 0), BAD);
    }

    /** All his turns go: who rang as often as he may gives them all away, and rests as the other rested. */
    private static void timesAndRestGoAlong() {
        HourRingers x = Check.told(FOUR_HOURS + "ringer0 7 0 0;ringer0 7 0 0;times2;rest1;");
        x.put(0, 0, 0);
        x.put(0, 2, 0);
        x.put(1, 1, 0);
        x.put(1, 3, 0);
        Check.due("10: both as often as they may", x.exchange(0, 1), 4);
        Check.due("10: hour 0", x.rings(0, 0), 1);
        Check.due("10: hour 1", x.rings(1, 0), 0);
        Check.due("10: no more for either", x.put(0, 3, 1), STATE);
        Check.due("10: no more for either", x.put(1, 3, 1), STATE);
    }

    // ---- 11: now

    private static void nows() {
        fromNobodyToTwelve();
        twiceTheWayOfEachTurn();
        nobodyOrNoHours();
        for (int what : new int[] {LEAST, -1, 4, 5, MOST}) {
            Check.due("11: what " + what, Check.told("hour1;").now(what), BAD);
        }
    }

    private static void fromNobodyToTwelve() {
        HourRingers x = Check.told(FOUR_HOURS + "ringer60 7 0 0;".repeat(3) + "times4;");
        for (int n = 0; n <= 12; n++) {
            Check.due("11: short with " + n, x.now(0), 12 - n);
            Check.due("11: walk with " + n, x.now(1), 120 * n);
            Check.due("11: so many with " + n, x.now(2), n);
            if (n < 12) {
                x.put(n % 3, n / 3, n % 3);
            }
        }
        Check.due("11: the tower", x.now(3), 0);
        x.moves(60);
        Check.due("11: nobody walks", x.now(1), 0);
        Check.due("11: the tower", x.now(3), 60);
    }

    private static void twiceTheWayOfEachTurn() {
        HourRingers x = Check.told("hour2;ringer0 1 0 0;ringer1 2 0 0;tower60;");
        x.put(0, 0, 0);
        Check.due("11: from below, twice the way", x.now(1), 120);
        x.put(1, 0, 1);
        Check.due("11: added", x.now(1), 120 + 118);
    }

    private static void nobodyOrNoHours() {
        HourRingers nobody = Check.told(FOUR_HOURS);
        HourRingers noHours = Check.told(SIX_RINGERS + "tower60;");
        int[] nobodyDue = {12, 0, 0, 0};
        int[] noHoursDue = {0, 0, 0, 60};
        for (int what = 0; what < 4; what++) {
            Check.due("11: hours and nobody, now(" + what + ")", nobody.now(what), nobodyDue[what]);
            Check.due("11: ringers and no hours, now(" + what + ")", noHours.now(what), noHoursDue[what]);
        }
    }

    // ---- 12: moves

    private static void moving() {
        fromThe0ToThe60();
        placesBeyond();
    }

    private static void fromThe0ToThe60() {
        HourRingers x = Check.told("hour1;ringer30 1 0 0;tower60;");
        x.put(0, 0, 0);
        int was = 60;
        for (int place : new int[] {0, 0, 1, 30, 59, 60, 60}) {
            Check.due("12: to " + place, x.moves(place), was);
            Check.due("12: it is there", x.now(3), place);
            Check.due("12: the way is another", x.now(1), 2 * Math.abs(place - 30));
            Check.due("12: of the night, too", x.night(1), 2 * Math.abs(place - 30));
            was = place;
        }
    }

    private static void placesBeyond() {
        HourRingers x = Check.told("hour1;ringer30 1 0 0;tower59;");
        for (int place : new int[] {LEAST, -60, -1, 61, 64, 100, MOST}) {
            Check.due("12: to " + place, x.moves(place), BAD);
            Check.due("12: it stays", x.now(3), 59);
        }
    }

    // ---- 19: stands

    private static void standing() {
        leastOfSeveral();
        everyPlace();
        asManyTurnsAtBothEnds();
        emptyRota();
        rotaIsAsked();
        for (int what : new int[] {LEAST, -1, 2, 3, MOST}) {
            Check.due("19: what " + what, new HourRingers().stands(what), BAD);
        }
    }

    private static void leastOfSeveral() {
        for (int a = 0; a <= 60; a += 12) {
            for (int b = 0; b <= 60; b += 12) {
                HourRingers x = Check.told("hour2;ringer" + a + " 1 0 0;ringer" + b + " 2 0 0;tower7;");
                x.put(0, 0, 0);
                x.put(1, 0, 1);
                Check.due("19: the least between " + a + " and " + b, x.stands(0), Math.min(a, b));
                Check.due("19: walk there", x.stands(1), 2 * Math.abs(a - b));
                Check.due("19: the tower stays", x.now(3), 7);
            }
        }
    }

    private static void everyPlace() {
        for (int home = 0; home <= 60; home++) {
            HourRingers x = Check.told("hour1;ringer" + home + " 1 0 0;tower30;");
            x.put(0, 0, 0);
            Check.due("19: at his home " + home, x.stands(0), home);
            Check.due("19: he walks no more, home " + home, x.stands(1), 0);
        }
    }

    private static void asManyTurnsAtBothEnds() {
        HourRingers x = Check.told("hour3;hour3;ringer0 7 0 0;ringer60 7 0 0;times2;");
        x.put(0, 0, 0);
        x.put(0, 1, 0);
        x.put(1, 0, 1);
        Check.due("19: at 0", x.stands(0), 0);
        Check.due("19: walk", x.stands(1), 120);
        x.put(1, 1, 1);
        Check.due("19: of several the least", x.stands(0), 0);
        Check.due("19: walk", x.stands(1), 240);
        x.take(0, 0);
        Check.due("19: at 60", x.stands(0), 60);
        Check.due("19: walk", x.stands(1), 120);
    }

    private static void emptyRota() {
        HourRingers x = Check.told("hour1;ringer60 7 0 0;tower60;");
        Check.due("19: an empty rota", x.stands(0), 0);
        Check.due("19: nobody walks", x.stands(1), 0);
    }

    private static void rotaIsAsked() {
        HourRingers x = Check.told("hour1;ringer60 1 0 0;ringer20 1 0 0;tower20;");
        x.put(0, 0, 0);
        Check.due("19: who rings", x.stands(0), 60);
        x.take(0, 0);
        x.put(1, 0, 0);
        Check.due("19: who rings now", x.stands(0), 20);
        x.exchange(0, 1);
        Check.due("19: who rings then", x.stands(0), 60);
    }
}
