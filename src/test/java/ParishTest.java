/** Promises 1 to 6 and 26: a new object, the text, ringers and hours. */
public final class ParishTest {
    private static final String FULL_NIGHT = "hour 3;hour 3;hour 3;hour 3;";

    public static void main(String[] args) {
        newObject();
        typing();
        clearing();
        reading();
        blanks();
        faultsOfWords();
        faultsOfNumbers();
        faultsOfPlaces();
        tooEarly();
        olderBytes();
        faultChangesNothing();
        readAnew();
        readThrice();
        ringers();
        hours();
        counts();
        Check.end();
    }

    private static void newObject() {
        HourRingers x = new HourRingers();
        int[] counts = {0, 0, 1, 0, 0};
        for (int what = 0; what < 5; what++) {
            Check.due("1: count(" + what + ")", x.count(what), counts[what]);
        }
        for (int what = 0; what < 4; what++) {
            Check.due("1: now(" + what + ")", x.now(what), 0);
            Check.due("1: night(" + what + ")", x.night(what), 0);
        }
        Check.due("1: ringer(0, 0)", x.ringer(0, 0), HourRingers.BAD);
        Check.due("1: hour(0, 0)", x.hour(0, 0), HourRingers.BAD);
        Check.due("1: back(0)", x.back(0), HourRingers.STATE);
        Check.due("1: trace()", x.trace(), 0);
        Check.due("1: needed()", x.needed(), 0);
        Check.due("1: forget()", x.forget(), 0);
        Check.due("1: away(0)", x.away(0), 1);
        Check.due("1: away(1)", x.away(1), 0);
        Check.due("1: away(2)", x.away(2), 0);
        Check.due("1: stands(0)", x.stands(0), 0);
        Check.due("1: stands(1)", x.stands(1), 0);
    }

    private static void typing() {
        HourRingers x = new HourRingers();
        Check.due("2: n 0", x.type('h', 0), HourRingers.BAD);
        Check.due("2: n -1", x.type('h', -1), HourRingers.BAD);
        Check.due("2: n 9", x.type('h', 9), HourRingers.BAD);
        Check.due("2: n least", x.type('h', Integer.MIN_VALUE), HourRingers.BAD);
        Check.due("2: n most", x.type('h', Integer.MAX_VALUE), HourRingers.BAD);
        Check.due("2: refused typing adds nothing", x.count(4), 0);
        long hour = 0x686f7572L;
        Check.due("2: the lowest bytes, the highest first", x.type(0x7a7a7a7a00000000L | hour, 4), 4);
        Check.due("2: one byte of -1 less 206", x.type(-206, 1), 5);
        Check.due("2: two bytes", x.type(0x313bL, 2), 7);
        Check.due("2: count(4)", x.count(4), 7);
        x.clear();
        x.type(0xffffffff00000000L | hour, 4);
        x.type(0xffff203bL | 0x3100L << 0, 2);
        Check.due("2: bytes above 127 are typed", x.count(4), 6);
        x.clear();
        Check.due("2: eight bytes", x.type(0x686f75722032203bL, 8), 8);
        Check.due("2: read as typed", x.parish(), 1);
        Check.due("2: read as typed", x.hour(0, 0), 2);
        for (int i = 0; i < 24; i++) {
            x.type(0x2020202020202020L, 8);
        }
        Check.due("2: 199 of 200", x.type(0x20202020202020L, 7), 199);
        Check.due("2: full by two", x.type(0x2020L, 2), HourRingers.FULL);
        Check.due("2: BAD ahead of FULL", x.type(0x2020L, 9), HourRingers.BAD);
        Check.due("2: full typing adds nothing", x.count(4), 199);
        Check.due("2: the 200th", x.type(0x20L, 1), 200);
        Check.due("2: full by one", x.type(0x20L, 1), HourRingers.FULL);
        Check.due("2: count(4)", x.count(4), 200);
        Check.due("4: 200 blanks", x.parish(), 0);
    }

    private static void clearing() {
        HourRingers x = Check.told("hour 1;");
        Check.due("3: empty", x.clear(), 0);
        Check.type(x, "hour 3;ringer");
        Check.due("3: had", x.clear(), 13);
        Check.due("3: none left", x.count(4), 0);
        Check.due("3: none left", x.clear(), 0);
        Check.due("3: the parish stays", x.hour(0, 0), 1);
        Check.type(x, "hour 2;");
        Check.due("3: the text begins anew", x.parish(), 1);
        Check.due("3: the text begins anew", x.hour(0, 0), 2);
    }

    private static void reading() {
        HourRingers x = new HourRingers();
        Check.type(x, "rest 2;ringer 60 7 15 9;hour 3;tower 60;ringer 0 0 0 0;times 4;hour 1;");
        Check.due("4: items in any order", x.parish(), 7);
        Check.due("4: the text is empty", x.count(4), 0);
        Check.due("4: hours", x.count(0), 2);
        Check.due("4: ringers", x.count(1), 2);
        Check.due("4: times", x.count(2), 4);
        Check.due("4: rest", x.count(3), 2);
        Check.due("4: tower", x.now(3), 60);
        Check.due("4: read with an empty text", x.parish(), 0);
        Check.due("4: an empty text tells no hours", x.count(0), 0);
        Check.due("4: an empty text tells no ringers", x.count(1), 0);
        Check.due("4: an empty text: times", x.count(2), 1);
        Check.due("4: an empty text: rest", x.count(3), 0);
        Check.due("4: an empty text: tower", x.now(3), 0);
        Check.due("4: the most of all", Check.read(FULL_NIGHT + sixRingers("ringer 60 7 15 9;") + "tower60;times4;rest3;"), 13);
        Check.due("4: the least of all", Check.read("hour 1;" + sixRingers("ringer 0 0 0 0;") + "tower 0;times 1;rest 0;"), 10);
        String items = "hour 3;ringer 1 1 1 1;";
        Check.due("4: 200 bytes", Check.read(items + " ".repeat(200 - items.length())), 2);
        Check.due("4: 200 bytes, the last a fault", Check.read(items + " ".repeat(199 - items.length()) + "?"), -10 - 199);
        Check.due("4: 200 bytes that end too early", Check.read(" ".repeat(196) + "hour"), -10 - 200);
    }

    private static String sixRingers(String one) {
        return one.repeat(6);
    }

    private static void blanks() {
        Check.due("4: no blanks", Check.read("hour3;ringer10 7 0 1;tower9;times2;rest1;"), 5);
        Check.due("4: many blanks", Check.read("   hour   3   ;  ringer  10  7  0  1  ;   "), 2);
        Check.due("4: blanks alone", Check.read("   "), 0);
        Check.due("4: a tabulator is none", Check.read("hour\t3;"), -14);
        Check.due("4: a line's end is none", Check.read("hour 3;\n"), -17);
        Check.due("4: byte 0 is none", Check.read("\0hour 3;"), -10);
        Check.due("4: byte 160 is none", Check.read("hour\u00a03;"), -14);
        HourRingers x = Check.told(" hour3 ; ringer10 7 0 1;");
        Check.due("4: hour3", x.hour(0, 0), 3);
        Check.due("4: ringer10", x.ringer(0, 0), 10);
        Check.due("4: ringer10 7", x.ringer(0, 1), 7);
    }

    private static void faultsOfWords() {
        Check.due("4: hours", Check.read("hours 1;"), -10);
        Check.due("4: hou", Check.read("hou 1;"), -10);
        Check.due("4: hou and no more", Check.read("hou"), -10);
        Check.due("4: hourhour", Check.read("hourhour 1;"), -10);
        Check.due("4: hourz", Check.read("hourz 1;"), -10);
        Check.due("4: houra", Check.read("houra 1;"), -10);
        Check.due("4: xour", Check.read("xour 1;"), -10);
        Check.due("4: sour", Check.read("tower 1; sour 1;"), -19);
        Check.due("4: towed", Check.read("towed 1;"), -10);
        Check.due("4: Hour", Check.read("Hour 1;"), -10);
        Check.due("4: hoUr", Check.read("hoUr 1;"), -10);
        Check.due("4: bell", Check.read("hour 1; bell 2;"), -18);
        Check.due("4: resting", Check.read("resting 1;"), -10);
        Check.due("4: a number first", Check.read(" 7;"), -11);
        Check.due("4: a ; first", Check.read("hour 1;;"), -17);
        Check.due("4: a byte that begins none", Check.read("hour 1;-"), -17);
        Check.due("4: a byte above 127", Check.read("hour 1;\u00e8"), -17);
        Check.due("4: the bytes around a to z", Check.read("hour 1;`"), -17);
        Check.due("4: the bytes around a to z", Check.read("hour 1;{"), -17);
        Check.due("4: a word for a number", Check.read("hour one;"), -15);
        Check.due("4: a word of these for a number", Check.read("hour hour;"), -15);
        Check.due("4: a word for a ;", Check.read("hour 1 hour 1;"), -17);
    }

    private static void faultsOfNumbers() {
        String[] first = {"hour ", "tower ", "times ", "rest ", "ringer ", "ringer 0 ", "ringer 0 0 ", "ringer 0 0 0 "};
        int[] least = {1, 0, 1, 0, 0, 0, 0, 0};
        int[] most = {3, 60, 4, 3, 60, 7, 15, 9};
        for (int i = 0; i < first.length; i++) {
            String last = i < 4 ? "" : " 0".repeat(7 - i);
            int fault = -10 - first[i].length();
            for (int n = 0; n <= 110; n++) {
                int want = n >= least[i] && n <= most[i] ? 1 : fault;
                Check.due("4: " + first[i] + n, Check.read(first[i] + n + last + ";"), want);
            }
            Check.due("4: " + first[i] + "00", Check.read(first[i] + "00" + last + ";"), fault);
            Check.due("4: " + first[i] + "01", Check.read(first[i] + "01" + last + ";"), fault);
            Check.due("4: " + first[i] + "4294967297", Check.read(first[i] + "4294967297" + last + ";"), fault);
            Check.due("4: " + first[i] + "2^64+1", Check.read(first[i] + "18446744073709551617" + last + ";"), fault);
            Check.due("4: " + first[i] + "-1", Check.read(first[i] + "-1" + last + ";"), fault);
            Check.due("4: " + first[i] + ";", Check.read(first[i] + ";"), fault);
        }
        Check.due("4: one number too many", Check.read("hour 1 1;"), -17);
        Check.due("4: one number too many", Check.read("ringer 1 1 1 1 1;"), -25);
        Check.due("4: one number too few", Check.read("ringer 1 1 1;"), -22);
        Check.due("4: / is below 0", Check.read("hour /;"), -15);
        Check.due("4: : is above 9", Check.read("hour :;"), -15);
    }

    private static void faultsOfPlaces() {
        Check.due("4: a fifth hour", Check.read(FULL_NIGHT + " hour 3;"), -10 - 29);
        Check.due("4: a fifth hour that is no text", Check.read(FULL_NIGHT + "hour ?"), -10 - 28);
        Check.due("4: a seventh ringer", Check.read(sixRingers("ringer 1 1 1 1;") + "ringer 1 1 1 1;"), -10 - 90);
        Check.due("4: tower again", Check.read("tower 1;hour 1; tower 1;"), -10 - 16);
        Check.due("4: times again", Check.read("times 1;times 2;"), -18);
        Check.due("4: rest again", Check.read("rest 1;rest 1;"), -17);
        Check.due("4: the first fault counts", Check.read("hour 9;hours?"), -15);
        HourRingers x = Check.told("tower 1;times 2;rest 3;");
        Check.type(x, "tower 2;times 3;rest 0;");
        Check.due("4: once in each text", x.parish(), 3);
    }

    private static void tooEarly() {
        String text = "ringer 1 2 3 4";
        for (int n : new int[] {6, 7, 8, 9, 10, 11, 12, 13, 14}) {
            Check.due("4: " + text.substring(0, n), Check.read(text.substring(0, n)), -10 - n);
        }
        Check.due("4: hour", Check.read("hour"), -14);
        Check.due("4: hour and blanks", Check.read("hour   "), -17);
        Check.due("4: hour 1", Check.read("hour 1"), -16);
        Check.due("4: hour 1 and blanks", Check.read("hour 1  "), -18);
        Check.due("4: hour 9", Check.read("hour 9"), -15);
        Check.due("4: rest 3", Check.read("hour 1;rest 3"), -23);
    }

    /** What was typed and cleared is not of the text, wherever the text ends. */
    private static void olderBytes() {
        String older = "ringer 11 7 10 1;hour 2;";
        String text = "ringer 1 7 1 1";
        for (int n = 1; n <= text.length(); n++) {
            HourRingers x = new HourRingers();
            Check.type(x, older);
            x.clear();
            Check.type(x, text.substring(0, n));
            Check.due("4: " + text.substring(0, n) + " after a longer text", x.parish(), n < 6 ? -10 : -10 - n);
        }
        HourRingers y = new HourRingers();
        Check.type(y, older);
        y.clear();
        Check.due("4: an empty text after a longer one", y.parish(), 0);
        Check.due("4: no hours", y.count(0), 0);
        for (String end : new String[] {"hour", "hour ", "hour 1", "hour 1 ", "ringer 1 1 1 1"}) {
            Check.due("4: 200 bytes that end with " + end, Check.read(" ".repeat(200 - end.length()) + end), -10 - 200);
        }
        Check.due("4: 200 bytes that end with hour1;", Check.read(" ".repeat(194) + "hour1;"), 1);
        Check.due("4: 200 bytes that end with hou", Check.read(" ".repeat(197) + "hou"), -10 - 197);
    }

    private static void faultChangesNothing() {
        HourRingers x = Check.told("hour 2;hour 1;ringer 5 7 0 3;tower 8;times 2;rest 0;");
        x.put(0, 0, 1);
        x.heard(1, 3);
        x.keep(1);
        x.moves(9);
        Check.type(x, "hour 3;ringer 1 1 1 1;tower 2;times 4;rest 3;hour 4;");
        Check.due("4: a fault", x.parish(), -10 - 50);
        Check.due("4: the text stays", x.count(4), 52);
        Check.due("4: a fault again", x.parish(), -10 - 50);
        Check.due("4: hours stay", x.count(0), 2);
        Check.due("4: wants stay", x.hour(0, 0), 2);
        Check.due("4: ringers stay", x.count(1), 1);
        Check.due("4: homes stay", x.ringer(0, 0), 5);
        Check.due("4: times stay", x.count(2), 2);
        Check.due("4: rest stays", x.count(3), 0);
        Check.due("4: the tower stays", x.now(3), 9);
        Check.due("4: the rota stays", x.rings(0, 1), 0);
        Check.due("4: what was heard stays", x.hour(1, 2), 3);
        Check.due("4: the night stays", x.night(1), 16);
        Check.due("4: images stay", x.back(1), 1);
        Check.due("4: the image's tower", x.now(3), 8);
    }

    private static void readAnew() {
        HourRingers x = Check.told("hour 2;ringer 5 7 0 3;tower 8;times 2;rest 1;");
        x.put(0, 0, 1);
        x.heard(0, 1);
        x.keep(0);
        x.keep(1);
        x.mark(0, 0);
        x.moves(30);
        Check.due("4: night of the first", x.night(1), 50);
        Check.type(x, "hour 2;hour 1;ringer 9 7 0 3;");
        Check.due("4: read anew", x.parish(), 3);
        Check.due("4: the rota is empty", x.now(2), 0);
        Check.due("4: the rota is empty", x.rings(0, 1), HourRingers.NONE);
        Check.due("4: nothing heard", x.hour(0, 2), HourRingers.NONE);
        Check.due("4: nothing heard", x.forget(), 0);
        Check.due("4: image 0 is gone", x.back(0), HourRingers.STATE);
        Check.due("4: image 1 is gone", x.back(1), HourRingers.STATE);
        Check.due("4: the tower as at first", x.now(3), 0);
        Check.due("4: times as at first", x.count(2), 1);
        Check.due("4: rest as at first", x.count(3), 0);
        Check.due("4: the trace stays", x.trace(), 1);
        Check.due("4: night of the second", x.night(1), 18);
    }

    /** Nothing of an earlier text, told or faulty, is left in a later one. */
    private static void readThrice() {
        HourRingers x = Check.told("hour 3;hour 1;ringer 5 7 0 3;ringer 6 7 0 3;tower 8;times 2;rest 1;");
        Check.due("15: fewest of the first", x.night(2), 2);
        Check.due("15: even of the first", x.night(3), 1);
        Check.due("17: needed of the first", x.needed(), 3);
        Check.type(x, "hour 2;tower 9;times 3;rest 2;ringer 1 1 1 1;hours");
        Check.due("4: a fault", x.parish(), -10 - 45);
        x.clear();
        Check.type(x, "hour 1;hour 1;hour 1;hour 1;ringer 1 7 0 0;ringer 1 7 0 0;times 4;");
        Check.due("4: the second", x.parish(), 7);
        Check.due("15: fewest of the second", x.night(2), 1);
        Check.due("15: even of the second", x.night(3), 2);
        Check.due("17: needed of the second", x.needed(), 0);
        Check.due("4: rest of the second", x.count(3), 0);
        Check.type(x, "hour 2;ringer 7 2 0 0;");
        Check.due("4: the third", x.parish(), 2);
        int[] counts = {1, 1, 1, 0, 0};
        for (int what = 0; what < 5; what++) {
            Check.due("4: count(" + what + ") of the third", x.count(what), counts[what]);
        }
        Check.due("4: tower of the third", x.now(3), 0);
        Check.due("15: short of the third", x.night(0), 1);
        Check.due("15: fewest of the third", x.night(2), 1);
        Check.due("15: even of the third", x.night(3), 1);
        Check.due("17: needed of the third", x.needed(), 1);
    }

    private static void ringers() {
        HourRingers x = Check.told("hour 3;hour 3;ringer 60 7 15 9;ringer 0 0 0 0;ringer 21 5 2 7;times 2;");
        int[][] want = {{60, 7, 15, 9, 0}, {0, 0, 0, 0, 0}, {21, 5, 2, 7, 0}};
        for (int r = 0; r < 3; r++) {
            for (int what = 0; what < 5; what++) {
                Check.due("5: ringer(" + r + ", " + what + ")", x.ringer(r, what), want[r][what]);
            }
        }
        x.put(2, 0, 2);
        Check.due("5: rings once", x.ringer(2, 4), 1);
        Check.due("5: busy in hour 1", x.put(2, 1, 0), HourRingers.STATE);
        Check.due("5: rings once", x.ringer(2, 4), 1);
        x.take(2, 0);
        Check.due("5: rings no more", x.ringer(2, 4), 0);
        for (int what : new int[] {-1, 5, Integer.MIN_VALUE, Integer.MAX_VALUE}) {
            Check.due("5: what " + what, x.ringer(0, what), HourRingers.BAD);
        }
        for (int r : new int[] {-1, 3, 6, Integer.MIN_VALUE, Integer.MAX_VALUE}) {
            Check.due("5: ringer " + r, x.ringer(r, 0), HourRingers.BAD);
        }
    }

    private static void hours() {
        HourRingers x = Check.told("hour 3;hour 1;ringer 6 7 0 0;ringer 7 7 0 0;times 4;");
        Check.due("6: wants", x.hour(0, 0), 3);
        Check.due("6: wants", x.hour(1, 0), 1);
        Check.due("6: short", x.hour(0, 1), 3);
        x.put(0, 0, 2);
        x.put(1, 0, 0);
        x.put(1, 1, 0);
        Check.due("6: short", x.hour(0, 1), 1);
        Check.due("6: short", x.hour(1, 1), 0);
        Check.due("6: wants still", x.hour(0, 0), 3);
        Check.due("6: nothing heard", x.hour(0, 2), HourRingers.NONE);
        x.heard(0, 0);
        Check.due("6: heard 0", x.hour(0, 2), 0);
        Check.due("6: nothing heard", x.hour(1, 2), HourRingers.NONE);
        for (int what : new int[] {-1, 3, Integer.MIN_VALUE, Integer.MAX_VALUE}) {
            Check.due("6: what " + what, x.hour(0, what), HourRingers.BAD);
        }
        for (int h : new int[] {-1, 2, 4, Integer.MIN_VALUE, Integer.MAX_VALUE}) {
            Check.due("6: hour " + h, x.hour(h, 0), HourRingers.BAD);
        }
    }

    private static void counts() {
        HourRingers x = Check.told(FULL_NIGHT + sixRingers("ringer 1 1 1 1;") + "times 3;rest 2;");
        Check.type(x, "abc");
        int[] want = {4, 6, 3, 2, 3};
        for (int what = 0; what < 5; what++) {
            Check.due("26: count(" + what + ")", x.count(what), want[what]);
        }
        for (int what : new int[] {-1, 5, Integer.MIN_VALUE, Integer.MAX_VALUE}) {
            Check.due("26: what " + what, x.count(what), HourRingers.BAD);
        }
    }
}
