/** Promises 7 to 12 and 19: the rota, the tower and where it would stand best. */
public final class RotaTest {
    private static final int BAD = HourRingers.BAD, STATE = HourRingers.STATE, NONE = HourRingers.NONE;
    private static final int[] WILD = {Integer.MIN_VALUE, -1, Integer.MAX_VALUE};

    public static void main(String[] args) {
        putting();
        wrongPuts();
        times();
        rest();
        ringing();
        taking();
        exchanging();
        nows();
        moving();
        standing();
        Check.end();
    }

    private static void putting() {
        HourRingers x = Check.told("hour 3;hour 2;ringer 5 7 0 0;ringer 9 3 2 0;ringer 9 4 0 0;times 2;");
        Check.due("7: first", x.put(0, 0, 0), 1);
        Check.due("7: one bell in an hour", x.put(0, 0, 1), STATE);
        Check.due("7: the same again", x.put(0, 0, 0), STATE);
        Check.due("7: one at a bell", x.put(1, 0, 0), STATE);
        Check.due("7: one that he can", x.put(1, 0, 2), STATE);
        Check.due("7: refused puts change nothing", x.now(2), 1);
        Check.due("7: second", x.put(1, 0, 1), 2);
        Check.due("7: busy", x.put(1, 1, 0), STATE);
        Check.due("7: a bell that is not wanted", x.put(2, 1, 2), BAD);
        Check.due("7: third", x.put(2, 0, 2), 3);
        Check.due("7: fourth", x.put(0, 1, 1), 4);
        Check.due("7: now(2)", x.now(2), 4);
        Check.due("7: ringer(0, 4)", x.ringer(0, 4), 2);
    }

    private static void wrongPuts() {
        HourRingers x = Check.told("hour 1;ringer 5 0 15 0;");
        Check.due("7: STATE", x.put(0, 0, 0), STATE);
        Check.due("7: BAD ahead of STATE", x.put(0, 0, 1), BAD);
        Check.due("7: BAD ahead of STATE", x.put(0, 0, 3), BAD);
        Check.due("7: no such ringer", x.put(1, 0, 0), BAD);
        Check.due("7: no such hour", x.put(0, 1, 0), BAD);
        for (int wild : WILD) {
            Check.due("7: ringer " + wild, x.put(wild, 0, 0), BAD);
            Check.due("7: hour " + wild, x.put(0, wild, 0), BAD);
            Check.due("7: bell " + wild, x.put(0, 0, wild), BAD);
        }
        Check.due("7: nothing changed", x.now(2), 0);
    }

    private static void times() {
        for (int times = 1; times <= 4; times++) {
            HourRingers x = Check.told("hour 1;hour 1;hour 1;hour 1;ringer 5 1 0 0;times " + times + ";");
            for (int h = 0; h < 4; h++) {
                Check.due("7: times " + times + ", hour " + h, x.put(0, h, 0), h < times ? h + 1 : STATE);
            }
            x.take(0, 0);
            Check.due("7: times " + times + ", after one was taken", x.put(0, 3, 0), times == 4 ? STATE : times);
        }
    }

    private static void rest() {
        for (int rest = 0; rest <= 3; rest++) {
            for (int g = 0; g < 4; g++) {
                for (int h = 0; h < 4; h++) {
                    HourRingers x = Check.told("hour 1;hour 1;hour 1;hour 1;ringer 5 1 0 0;times 4;rest " + rest + ";");
                    x.put(0, g, 0);
                    int want = g != h && Math.abs(g - h) > rest ? 2 : STATE;
                    Check.due("7: rest " + rest + ", " + g + " and " + h, x.put(0, h, 0), want);
                }
            }
        }
    }

    private static void ringing() {
        HourRingers x = Check.told("hour 3;hour 2;ringer 5 7 0 0;ringer 9 7 0 0;");
        Check.due("8: nobody", x.rings(0, 2), NONE);
        x.put(1, 0, 2);
        x.put(0, 1, 0);
        Check.due("8: who", x.rings(0, 2), 1);
        Check.due("8: who", x.rings(1, 0), 0);
        Check.due("8: nobody", x.rings(0, 0), NONE);
        Check.due("8: nobody", x.rings(1, 1), NONE);
        Check.due("8: not a bell of the hour", x.rings(1, 2), BAD);
        Check.due("8: no such bell", x.rings(0, 3), BAD);
        Check.due("8: no such hour", x.rings(2, 0), BAD);
        for (int wild : WILD) {
            Check.due("8: hour " + wild, x.rings(wild, 0), BAD);
            Check.due("8: bell " + wild, x.rings(0, wild), BAD);
        }
    }

    private static void taking() {
        HourRingers x = Check.told("hour 3;hour 3;ringer 5 7 0 0;ringer 9 7 0 0;times 2;");
        x.put(0, 0, 2);
        x.put(0, 1, 1);
        x.put(1, 1, 0);
        Check.due("9: does not ring then", x.take(1, 0), STATE);
        Check.due("9: the bell", x.take(0, 0), 2);
        Check.due("9: no more", x.take(0, 0), STATE);
        Check.due("9: the other stays", x.rings(1, 1), 0);
        Check.due("9: how many", x.now(2), 2);
        Check.due("9: the bell is free", x.put(1, 0, 2), 3);
        Check.due("9: no such ringer", x.take(2, 0), BAD);
        Check.due("9: no such hour", x.take(0, 2), BAD);
        for (int wild : WILD) {
            Check.due("9: ringer " + wild, x.take(wild, 0), BAD);
            Check.due("9: hour " + wild, x.take(0, wild), BAD);
        }
        Check.due("9: how many", x.now(2), 3);
    }

    private static void exchanging() {
        HourRingers x = Check.told("hour 3;hour 3;ringer 5 7 0 0;ringer 9 3 0 0;ringer 1 7 2 0;ringer 2 7 0 0;times 2;");
        x.put(0, 0, 1);
        x.put(0, 1, 0);
        x.put(1, 0, 0);
        Check.due("10: how many both have", x.exchange(0, 1), 3);
        Check.due("10: bell 0 of hour 0", x.rings(0, 0), 0);
        Check.due("10: bell 1 of hour 0", x.rings(0, 1), 1);
        Check.due("10: bell 0 of hour 1", x.rings(1, 0), 1);
        Check.due("10: busy for the other's turn", x.exchange(1, 2), STATE);
        Check.due("10: so it is the other way, too", x.exchange(2, 1), STATE);
        Check.due("10: nothing changed", x.rings(1, 0), 1);
        Check.due("10: one has none", x.exchange(0, 3), 1);
        Check.due("10: one has none", x.rings(0, 0), 3);
        Check.due("10: both have none", x.exchange(0, 2), 0);
        x.put(0, 0, 2);
        Check.due("10: a bell that he can't ring", x.exchange(0, 1), STATE);
        Check.due("10: a bell that he can't ring", x.exchange(1, 0), STATE);
        Check.due("10: nothing changed", x.rings(0, 2), 0);
        Check.due("10: one and the same", x.exchange(0, 0), BAD);
        Check.due("10: no such ringer", x.exchange(0, 4), BAD);
        Check.due("10: no such ringer", x.exchange(4, 0), BAD);
        Check.due("10: no such two", x.exchange(4, 4), BAD);
        for (int wild : WILD) {
            Check.due("10: ringer " + wild, x.exchange(wild, 0), BAD);
            Check.due("10: ringer " + wild, x.exchange(0, wild), BAD);
        }
        Check.due("10: how many", x.now(2), 4);
    }

    private static void nows() {
        HourRingers x = Check.told("hour 3;hour 2;ringer 5 7 0 0;ringer 60 7 0 0;times 2;tower 10;");
        Check.due("11: short", x.now(0), 5);
        Check.due("11: walk", x.now(1), 0);
        x.put(0, 0, 0);
        x.put(1, 0, 1);
        x.put(1, 1, 1);
        Check.due("11: short", x.now(0), 2);
        Check.due("11: walk", x.now(1), 10 + 100 + 100);
        Check.due("11: how many", x.now(2), 3);
        Check.due("11: tower", x.now(3), 10);
        for (int what : new int[] {-1, 4, Integer.MIN_VALUE, Integer.MAX_VALUE}) {
            Check.due("11: what " + what, x.now(what), BAD);
        }
        HourRingers y = Check.told("hour 3;hour 3;hour 3;hour 3;ringer 60 1 0 0;ringer 60 2 0 0;ringer 60 4 0 0;times 4;");
        for (int i = 0; i < 12; i++) {
            Check.due("11: the most", y.put(i % 3, i / 3, i % 3), i + 1);
        }
        Check.due("11: the most walk", y.now(1), 1440);
        Check.due("11: the most short", y.now(0), 0);
    }

    private static void moving() {
        HourRingers x = Check.told("hour 1;ringer 5 7 0 0;tower 60;");
        x.put(0, 0, 0);
        Check.due("12: where it was", x.moves(0), 60);
        Check.due("12: walk", x.now(1), 10);
        Check.due("12: where it was", x.moves(60), 0);
        Check.due("12: walk", x.now(1), 110);
        for (int place : new int[] {-1, 61, Integer.MIN_VALUE, Integer.MAX_VALUE}) {
            Check.due("12: to " + place, x.moves(place), BAD);
        }
        Check.due("12: it stays", x.now(3), 60);
        Check.due("12: the night's walk", x.night(1), 110);
        x.moves(6);
        Check.due("12: the night's walk", x.night(1), 2);
    }

    private static void standing() {
        HourRingers x = Check.told("hour 3;hour 3;ringer 40 7 0 0;ringer 60 7 0 0;ringer 50 7 0 0;times 2;tower 5;");
        Check.due("19: an empty rota", x.stands(0), 0);
        Check.due("19: an empty rota", x.stands(1), 0);
        x.put(0, 0, 0);
        Check.due("19: his home", x.stands(0), 40);
        Check.due("19: his home", x.stands(1), 0);
        x.put(1, 0, 1);
        Check.due("19: of several the least", x.stands(0), 40);
        Check.due("19: walk then", x.stands(1), 40);
        x.put(1, 1, 1);
        Check.due("19: turns count, not ringers", x.stands(0), 60);
        Check.due("19: walk then", x.stands(1), 40);
        x.put(2, 0, 2);
        Check.due("19: of several the least", x.stands(0), 50);
        Check.due("19: walk then", x.stands(1), 60);
        for (int home : new int[] {0, 1, 2, 59, 60}) {
            HourRingers y = Check.told("hour 1;ringer " + home + " 1 0 0;tower 30;");
            y.put(0, 0, 0);
            Check.due("19: home " + home, y.stands(0), home);
            Check.due("19: home " + home, y.stands(1), 0);
        }
        Check.due("19: nothing is changed", x.now(3), 5);
        for (int what : new int[] {-1, 2, Integer.MIN_VALUE, Integer.MAX_VALUE}) {
            Check.due("19: what " + what, x.stands(what), BAD);
        }
    }
}
