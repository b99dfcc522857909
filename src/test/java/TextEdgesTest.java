/** Promises 1 to 6 and 26 at their edges: each test is a sentence of the document. */
public final class TextEdgesTest {
    private static final int BAD = HourRingers.BAD, STATE = HourRingers.STATE, FULL = HourRingers.FULL;
    private static final int NONE = HourRingers.NONE, NO = HourRingers.NO;
    private static final int LEAST = Integer.MIN_VALUE, MOST = Integer.MAX_VALUE;
    private static final String FOUR_HOURS = "hour3;hour3;hour3;hour3;";
    private static final String SIX_RINGERS = "ringer60 7 15 9;".repeat(6);
    /** What stands ahead of each number that a text tells, what behind it, and between which numbers it lies. */
    private static final String[] AHEAD = {"hour ", "ringer ", "ringer 0 ", "ringer 0 0 ", "ringer 0 0 0 ", "tower ", "times ", "rest "};
    private static final String[] BEHIND = {";", " 0 0 0;", " 0 0;", " 0;", ";", ";", ";", ";"};
    private static final int[] SMALLEST = {1, 0, 0, 0, 0, 0, 1, 0};
    private static final int[] LARGEST = {3, 60, 7, 15, 9, 60, 4, 3};

    public static void main(String[] args) {
        newObjects();
        typing();
        clearing();
        items();
        numbers();
        words();
        bytes();
        endsTooEarly();
        faults();
        readAnew();
        ringers();
        hours();
        counts();
        Check.end();
    }

    // ---- 1: a new object

    private static void newObjects() {
        noHoursAtFirst();
        nobodyAtFirst();
        towerTimesRestAtFirst();
        rotaIsEmptyAtFirst();
        nothingHeardAtFirst();
        noImagesAtFirst();
        textIsEmptyAtFirst();
        nightOfNothing();
        movesWithNothingTold();
        objectsAreApart();
    }

    private static void noHoursAtFirst() {
        HourRingers x = new HourRingers();
        Check.due("1: no hours, count(0)", x.count(0), 0);
        for (int h : new int[] {LEAST, -1, 0, 1, 3, MOST}) {
            Check.due("1: no hours, hour(" + h + ", 0)", x.hour(h, 0), BAD);
            Check.due("1: no hours, rings(" + h + ", 0)", x.rings(h, 0), BAD);
            Check.due("1: no hours, crew(" + h + ")", x.crew(h), BAD);
            Check.due("1: no hours, bars(" + h + ")", x.bars(h), BAD);
            Check.due("1: no hours, odds(" + h + ", 0)", x.odds(h, 0), BAD);
            Check.due("1: no hours, odds(" + h + ", 1)", x.odds(h, 1), BAD);
            Check.due("1: no hours, heard(" + h + ", 0)", x.heard(h, 0), BAD);
        }
    }

    private static void nobodyAtFirst() {
        HourRingers x = new HourRingers();
        Check.due("1: nobody, count(1)", x.count(1), 0);
        for (int r : new int[] {LEAST, -1, 0, 1, 5, MOST}) {
            Check.due("1: nobody, ringer(" + r + ", 0)", x.ringer(r, 0), BAD);
            Check.due("1: nobody, put(" + r + ", 0, 0)", x.put(r, 0, 0), BAD);
            Check.due("1: nobody, take(" + r + ", 0)", x.take(r, 0), BAD);
            Check.due("1: nobody, exchange(" + r + ", 1)", x.exchange(r, 1), BAD);
            Check.due("1: nobody, best(" + r + ", 0)", x.best(r, 0), BAD);
            Check.due("1: nobody, mark(0, " + r + ")", x.mark(0, r), NO);
        }
        Check.due("1: nobody is needed", x.needed(), 0);
    }

    private static void towerTimesRestAtFirst() {
        HourRingers x = new HourRingers();
        Check.due("1: TOWER 0 at first", x.now(3), 0);
        Check.due("1: TIMES 1 at first", x.count(2), 1);
        Check.due("1: REST 0 at first", x.count(3), 0);
    }

    private static void rotaIsEmptyAtFirst() {
        HourRingers x = new HourRingers();
        Check.due("1: nothing is short", x.now(0), 0);
        Check.due("1: nobody walks", x.now(1), 0);
        Check.due("1: nobody is in the rota", x.now(2), 0);
        Check.due("1: the tower stands at 0 as well as anywhere", x.stands(0), 0);
        Check.due("1: nobody walks there", x.stands(1), 0);
    }

    private static void nothingHeardAtFirst() {
        HourRingers x = new HourRingers();
        Check.due("1: one way that nobody is away", x.away(0), 1);
        Check.due("1: nobody must be away", x.away(1), 0);
        Check.due("1: nobody is there who can not", x.away(2), 0);
        Check.due("1: nothing was heard", x.forget(), 0);
    }

    private static void noImagesAtFirst() {
        HourRingers x = new HourRingers();
        Check.due("1: image 0", x.back(0), STATE);
        Check.due("1: image 1", x.back(1), STATE);
        Check.due("1: an empty rota is kept", x.keep(0), 0);
        Check.due("1: and comes back", x.back(0), 0);
        Check.due("1: image 1 still", x.back(1), STATE);
    }

    private static void textIsEmptyAtFirst() {
        Check.due("1: no bytes", new HourRingers().count(4), 0);
        Check.due("1: had no bytes", new HourRingers().clear(), 0);
        Check.due("1: no items", new HourRingers().parish(), 0);
        Check.due("1: the trace is 0", new HourRingers().trace(), 0);
    }

    private static void nightOfNothing() {
        for (int what = 3; what >= 0; what--) {
            Check.due("1: night(" + what + ")", new HourRingers().night(what), 0);
        }
        Check.due("1: what 4", new HourRingers().night(4), BAD);
    }

    private static void movesWithNothingTold() {
        HourRingers x = new HourRingers();
        Check.due("1: it was at 0", x.moves(60), 0);
        Check.due("1: it was at 60", x.moves(1), 60);
        Check.due("1: it is at 1", x.now(3), 1);
        Check.due("1: nobody walks", x.now(1), 0);
    }

    private static void objectsAreApart() {
        HourRingers x = Check.told("hour 2;ringer 5 7 0 0;tower 9;times 2;rest 1;");
        HourRingers y = new HourRingers();
        String first = Answers.of(y);
        x.put(0, 0, 0);
        x.heard(0, 1);
        x.keep(0);
        x.mark(0, 0);
        x.type('h', 1);
        Check.same("1: another object", Answers.of(y), first);
        Check.due("1: another object's image", y.back(0), STATE);
        Check.same("1: a later object", Answers.of(new HourRingers()), first);
    }

    // ---- 2: type

    private static void typing() {
        lowestBytesTheHighestFirst();
        smallestAndLargestValues();
        fewerThanOneByte();
        moreThanEightBytes();
        twoHundredBytesAtMost();
        badAheadOfFull();
        refusedTypingChangesNothing();
        smallerOnesStillFit();
    }

    private static void lowestBytesTheHighestFirst() {
        String text = "hour2;hour 3;ringer12 5 10 7;tower 33;times 3;rest 2;";
        for (int n = 1; n <= 8; n++) {
            String padded = text + " ".repeat((n - text.length() % n) % n);
            HourRingers x = new HourRingers();
            for (int at = 0; at < padded.length(); at += n) {
                long v = -1;
                for (int i = 0; i < n; i++) {
                    v = v << 8 | padded.charAt(at + i);
                }
                Check.due("2: " + n + " bytes at " + at, x.type(v, n), at + n);
            }
            Check.due("2: " + n + " bytes at a time, items", x.parish(), 6);
            Check.due("2: " + n + " bytes at a time, hour 0", x.hour(0, 0), 2);
            Check.due("2: " + n + " bytes at a time, hour 1", x.hour(1, 0), 3);
            int[] ringer = {12, 5, 10, 7};
            for (int what = 0; what < 4; what++) {
                Check.due("2: " + n + " bytes at a time, ringer(0, " + what + ")", x.ringer(0, what), ringer[what]);
            }
            Check.due("2: " + n + " bytes at a time, tower", x.now(3), 33);
            Check.due("2: " + n + " bytes at a time, times", x.count(2), 3);
            Check.due("2: " + n + " bytes at a time, rest", x.count(3), 2);
        }
    }

    /** Blanks stand ahead, so the FAULT tells which byte was the first that is none. */
    private static void smallestAndLargestValues() {
        long blanks = 0x2020202020202020L;
        long[] values = {Long.MIN_VALUE, Long.MAX_VALUE, -1, 0, 1, 255, 256};
        for (long v : values) {
            for (int n = 1; n <= 8; n++) {
                HourRingers x = new HourRingers();
                Check.due("2: blanks", x.type(blanks, 8), 8);
                Check.due("2: type(" + v + ", " + n + ")", x.type(v, n), 8 + n);
                Check.due("2: a byte of " + v + " is no blank", x.parish(), -18);
            }
        }
        for (int first = 0; first < 8; first++) {
            HourRingers x = new HourRingers();
            Check.due("2: type", x.type(blanks ^ 1L << 63 - 8 * first, 8), 8);
            Check.due("2: byte " + first + " of eight is none", x.parish(), -10 - first);
        }
    }

    private static void fewerThanOneByte() {
        for (int n : new int[] {0, -1, -8, LEAST}) {
            Check.due("2: n " + n, new HourRingers().type('h', n), BAD);
        }
        Check.due("2: n 1", new HourRingers().type('h', 1), 1);
    }

    private static void moreThanEightBytes() {
        for (int n : new int[] {9, 16, 200, 201, MOST}) {
            Check.due("2: n " + n, new HourRingers().type('h', n), BAD);
        }
        Check.due("2: n 8", new HourRingers().type('h', 8), 8);
    }

    private static HourRingers typedBlanks(int bytes) {
        HourRingers x = new HourRingers();
        Check.type(x, " ".repeat(bytes));
        Check.due("2: " + bytes + " blanks", x.count(4), bytes);
        return x;
    }

    private static void twoHundredBytesAtMost() {
        for (int n = 1; n <= 8; n++) {
            Check.due("2: the last " + n + " of 200", typedBlanks(200 - n).type(0x2020202020202020L, n), 200);
            Check.due("2: " + n + " more, the last the 201st", typedBlanks(201 - n).type(0x2020202020202020L, n), FULL);
            Check.due("2: " + n + " more than 200", typedBlanks(200).type(0x2020202020202020L, n), FULL);
        }
    }

    private static void badAheadOfFull() {
        for (int n : new int[] {0, 9, -1, LEAST, MOST}) {
            Check.due("2: n " + n + " with 200 bytes", typedBlanks(200).type(32, n), BAD);
        }
    }

    private static void refusedTypingChangesNothing() {
        String items = "hour 3;ringer 1 2 3 4;";
        HourRingers x = new HourRingers();
        Check.type(x, items + " ".repeat(197 - items.length()));
        Check.due("2: full", x.type(0x3f3f3f3fL, 4), FULL);
        Check.due("2: bad", x.type(0x3f3f3f3fL, 0), BAD);
        Check.due("2: bad", x.type(0x3f3f3f3fL, 9), BAD);
        Check.due("2: 197 bytes still", x.count(4), 197);
        Check.due("2: two items still", x.parish(), 2);
    }

    private static void smallerOnesStillFit() {
        HourRingers x = typedBlanks(192);
        Check.due("2: seven", x.type(0x686f75722031203bL >>> 8, 7), 199);
        Check.due("2: two are too many", x.type(0x2020L, 2), FULL);
        Check.due("2: one", x.type(0x3bL, 1), 200);
        Check.due("2: what was typed last is of the text", x.parish(), 1);
    }

    // ---- 3: clear

    private static void clearing() {
        nothingToClear();
        fullTextIsCleared();
        clearedTextIsNotRead();
        clearChangesNothingElse();
        faultyTextIsCleared();
    }

    private static void nothingToClear() {
        HourRingers x = new HourRingers();
        Check.due("3: nothing typed", x.clear(), 0);
        Check.due("3: nothing typed still", x.clear(), 0);
        x.type('h', 1);
        Check.due("3: one byte", x.clear(), 1);
        Check.due("3: nothing since", x.clear(), 0);
        Check.type(x, "hour 1;");
        x.parish();
        Check.due("3: nothing since it was read", x.clear(), 0);
    }

    private static void fullTextIsCleared() {
        HourRingers x = typedBlanks(200);
        Check.due("3: had 200", x.clear(), 200);
        Check.due("3: none now", x.count(4), 0);
        Check.type(x, "hour 1;" + " ".repeat(193));
        Check.due("3: 200 again", x.count(4), 200);
        Check.due("3: one is too many", x.type(32, 1), FULL);
        Check.due("3: read as any", x.parish(), 1);
    }

    private static void clearedTextIsNotRead() {
        HourRingers x = new HourRingers();
        Check.type(x, "hour 1;ringer 5 7 0 0;");
        x.clear();
        Check.due("3: no items", x.parish(), 0);
        Check.due("3: no hours", x.count(0), 0);
        Check.due("3: nobody", x.count(1), 0);
    }

    private static void clearChangesNothingElse() {
        HourRingers x = busyNight();
        HourRingers y = busyNight();
        Check.type(x, "hour 3;");
        Check.due("3: had", x.clear(), 7);
        Check.same("3: all else", Answers.of(x), Answers.of(y));
        Check.same("3: images, too", Answers.atTheEnd(x), Answers.atTheEnd(y));
    }

    private static void faultyTextIsCleared() {
        HourRingers x = new HourRingers();
        Check.type(x, "hour 1;?");
        Check.due("3: a fault", x.parish(), -17);
        Check.due("3: had", x.clear(), 8);
        Check.due("3: no fault is left", x.parish(), 0);
    }

    /** A night in which all is told: a rota, an image of another, something heard, a trace. */
    private static HourRingers busyNight() {
        HourRingers x = Check.told("hour 3;hour 1;ringer 5 7 0 3;ringer 9 3 1 0;tower 8;times 2;rest 0;");
        x.put(0, 0, 1);
        x.keep(1);
        x.put(0, 1, 0);
        x.moves(20);
        x.heard(1, 2);
        x.mark(2, 1);
        return x;
    }

    // ---- 4: parish

    private static void items() {
        noItems();
        mostItems();
        fifthHour();
        seventhRinger();
        onceEach();
        onceEachInEveryText();
        longestText();
    }

    private static void noItems() {
        Check.due("4: nothing typed", Check.read(""), 0);
        Check.due("4: a blank", Check.read(" "), 0);
        Check.due("4: 200 blanks", Check.read(" ".repeat(200)), 0);
        Check.due("4: a ; is no item", Check.read(";"), -10);
        Check.due("4: two ; are none", Check.read("hour 1; ;"), -18);
    }

    private static void mostItems() {
        String most = FOUR_HOURS + SIX_RINGERS + "tower60;times4;rest3;";
        HourRingers x = new HourRingers();
        Check.type(x, most);
        Check.due("4: 13 items", x.parish(), 13);
        counts("the most, read", x, 4, 6, 4, 3, 0);
        Check.due("4: the most, blanks to byte 200", Check.read(most + " ".repeat(200 - most.length())), 13);
        Check.due("4: the most, the other way round", Check.read("rest3;times4;tower60;" + SIX_RINGERS + FOUR_HOURS), 13);
    }

    private static void fifthHour() {
        String[] ahead = {FOUR_HOURS, "hour1;ringer0 0 0 0;hour1;tower1;hour1;times1;hour1;", FOUR_HOURS + "  "};
        for (String text : ahead) {
            Check.due("4: four hours, " + text, Check.read(text) > 0 ? 1 : 0, 1);
            for (String fifth : new String[] {"hour 3;", "hour", "hour ?", "hour 9;", "hour3;hour3;"}) {
                Check.due("4: a fifth, " + text + fifth, Check.read(text + fifth), -10 - text.length());
            }
        }
    }

    private static void seventhRinger() {
        String six = "ringer0 0 0 0;".repeat(6);
        Check.due("4: six ringers", Check.read(six), 6);
        Check.due("4: six ringers and hours", Check.read("hour1;" + six + "hour1;"), 8);
        for (String seventh : new String[] {"ringer0 0 0 0;", "ringer", "ringer ?", "ringer 61"}) {
            Check.due("4: a seventh, " + seventh, Check.read(six + seventh), -10 - six.length());
            Check.due("4: a seventh behind a blank, " + seventh, Check.read(six + " " + seventh), -11 - six.length());
        }
    }

    private static void onceEach() {
        String[] words = {"tower", "times", "rest"};
        for (String word : words) {
            String one = word + " 1;";
            for (String again : new String[] {one, word, word + "?", word + " 2;"}) {
                Check.due("4: again, " + one + again, Check.read(one + again), -10 - one.length());
                Check.due("4: again, behind another", Check.read(one + "hour 1; " + again), -18 - one.length());
            }
            for (String other : words) {
                if (!other.equals(word)) {
                    Check.due("4: another, " + word + " and " + other, Check.read(one + other + " 1;"), 2);
                }
            }
        }
    }

    private static void onceEachInEveryText() {
        HourRingers x = new HourRingers();
        for (int i = 1; i <= 3; i++) {
            Check.type(x, "rest " + i + ";tower " + i + ";times " + i + ";");
            Check.due("4: told once in text " + i, x.parish(), 3);
            Check.due("4: times of text " + i, x.count(2), i);
            Check.due("4: rest of text " + i, x.count(3), i);
            Check.due("4: tower of text " + i, x.now(3), i);
        }
    }

    private static void longestText() {
        String item = "hour 1;";
        Check.due("4: its last byte ends an item", Check.read(" ".repeat(200 - item.length()) + item), 1);
        Check.due("4: its last byte is a fault", Check.read(" ".repeat(199) + "?"), -10 - 199);
        Check.due("4: its last byte begins a word that is none", Check.read(" ".repeat(199) + "h"), -10 - 199);
        Check.due("4: it ends too early", Check.read(" ".repeat(196) + "hour"), -10 - 200);
        Check.due("4: its last byte is a number", Check.read(" ".repeat(195) + "hour1"), -10 - 200);
        Check.due("4: a word of 200 bytes", Check.read("hour".repeat(50)), -10);
        Check.due("4: a number of 195 digits", Check.read("hour " + "1".repeat(195)), -15);
    }

    private static void numbers() {
        smallestAndLargestNumbers();
        numbersThatAreNone();
        numbersThatWouldWrapAround();
        oneNumberTooManyOrTooFew();
    }

    private static int oneNumber(int place, String number) {
        return Check.read(AHEAD[place] + number + BEHIND[place]);
    }

    private static void smallestAndLargestNumbers() {
        for (int place = 0; place < AHEAD.length; place++) {
            int fault = -10 - AHEAD[place].length();
            Check.due("4: the smallest, " + AHEAD[place], oneNumber(place, "" + SMALLEST[place]), 1);
            Check.due("4: the largest, " + AHEAD[place], oneNumber(place, "" + LARGEST[place]), 1);
            Check.due("4: one beyond, " + AHEAD[place], oneNumber(place, "" + (LARGEST[place] + 1)), fault);
            if (SMALLEST[place] == 1) {
                Check.due("4: one below, " + AHEAD[place], oneNumber(place, "0"), fault);
            }
            Check.due("4: below 0, " + AHEAD[place], oneNumber(place, "-1"), fault);
        }
    }

    private static void numbersThatAreNone() {
        for (int place = 0; place < AHEAD.length; place++) {
            int fault = -10 - AHEAD[place].length();
            for (String number : new String[] {"99", "100", "101", "999", "00", "01", "000", "001", "0100", "010", "06"}) {
                Check.due("4: " + AHEAD[place] + number, oneNumber(place, number), fault);
            }
        }
        Check.due("4: 10 is a number", Check.read("tower 10;"), 1);
        Check.due("4: 60 is a number", Check.read("tower 60;"), 1);
    }

    private static void numbersThatWouldWrapAround() {
        String[] ones = {"257", "65537", "4294967297", "8589934593", "18446744073709551617", "1" + "0".repeat(64) + "1"};
        for (int place = 0; place < AHEAD.length; place++) {
            for (String number : ones) {
                Check.due("4: " + AHEAD[place] + number, oneNumber(place, number), -10 - AHEAD[place].length());
            }
            for (String number : new String[] {"256", "4294967296", "2147483648", "18446744073709551616"}) {
                Check.due("4: " + AHEAD[place] + number, oneNumber(place, number), -10 - AHEAD[place].length());
            }
        }
    }

    private static void oneNumberTooManyOrTooFew() {
        String[] items = {"hour 1", "tower 1", "times 1", "rest 1", "ringer 1 1 1 1"};
        for (String item : items) {
            Check.due("4: one too many, " + item, Check.read(item + " 1;"), -11 - item.length());
            String fewer = item.substring(0, item.length() - 2);
            Check.due("4: one too few, " + item, Check.read(fewer + ";"), -10 - fewer.length());
            Check.due("4: one too few and blanks, " + item, Check.read(fewer + "  ;"), -12 - fewer.length());
        }
    }

    private static void words() {
        String[] words = {"hour", "ringer", "tower", "times", "rest"};
        String[] numbers = {" 1;", " 1 1 1 1;", " 1;", " 1;", " 1;"};
        for (int i = 0; i < words.length; i++) {
            String word = words[i];
            Check.due("4: " + word, Check.read(word + numbers[i]), 1);
            Check.due("4: a letter less, " + word, Check.read(word.substring(0, word.length() - 1) + numbers[i]), -10);
            Check.due("4: its first letter less, " + word, Check.read(word.substring(1) + numbers[i]), -10);
            Check.due("4: a letter more, " + word, Check.read(word + "s" + numbers[i]), -10);
            Check.due("4: twice without a blank, " + word, Check.read(word + word + numbers[i]), -10);
            Check.due("4: a great letter first, " + word, Check.read((char) (word.charAt(0) - 32) + word.substring(1) + numbers[i]), -10);
            for (int at = 0; at < word.length(); at++) {
                String other = word.substring(0, at) + (char) (word.charAt(at) ^ 1) + word.substring(at + 1);
                Check.due("4: " + other, Check.read("  " + other + numbers[i]), -12);
            }
            Check.due("4: a word that ends with the text", Check.read(word.substring(0, 2)), -10);
            Check.due("4: a word for a number, " + word, Check.read("hour " + word), -15);
            Check.due("4: a word for a ;, " + word, Check.read("hour 1 " + word), -17);
            Check.due("4: a word behind a number without a blank, " + word, Check.read("hour 1" + word), -16);
        }
        Check.due("4: a number where a word is due", Check.read("hour 1; 1;"), -18);
    }

    private static void bytes() {
        everyByteBetweenItems();
        everyByteForABlank();
        everyByteBehindANumber();
        blanksWhereverTheyMayBe();
    }

    private static void everyByteBetweenItems() {
        for (int b = 0; b < 256; b++) {
            Check.due("4: byte " + b + " alone", Check.read("" + (char) b), b == ' ' ? 0 : -10);
            Check.due("4: byte " + b + " between items", Check.read("rest 1;" + (char) b + "hour 1;"), b == ' ' ? 2 : -17);
        }
    }

    private static void everyByteForABlank() {
        for (int b = 0; b < 256; b++) {
            boolean isLetter = b >= 'a' && b <= 'z';
            boolean isDigit = b >= '0' && b <= '9';
            Check.due("4: byte " + b + " behind hour", Check.read("hour" + (char) b + "2;"), b == ' ' ? 1 : isLetter ? -10 : -14);
            if (b != ' ' && b != ';') {
                // Another digit behind a 2 makes a place of the tower, 20 to 29.
                Check.due("4: byte " + b + " behind a 2", Check.read("tower 2" + (char) b + ";"), isDigit ? 1 : -17);
            }
        }
        Check.due("4: a blank between two numbers", Check.read("tower 2 2;"), -18);
        Check.due("4: a ; between two numbers", Check.read("tower 2;2;"), -18);
    }

    private static void everyByteBehindANumber() {
        for (int b = 0; b < 256; b++) {
            boolean isDigit = b >= '0' && b <= '9';
            int due = b == ';' ? 1 : b == ' ' ? -17 : isDigit ? -15 : -16;
            Check.due("4: byte " + b + " behind hour 1", Check.read("hour 1" + (char) b), due);
            int number = b >= '1' && b <= '3' ? 1 : -15;
            Check.due("4: byte " + b + " for a number", Check.read("hour " + (char) b + ";"), b == ' ' ? -16 : number);
        }
    }

    private static void blanksWhereverTheyMayBe() {
        String[] tokens = {"hour", "1", ";", "ringer", "60", "7", "15", "9", ";", "tower", "60", ";", "times", "4", ";", "rest", "3", ";"};
        for (int more = 0; more <= tokens.length; more++) {
            StringBuilder text = new StringBuilder();
            for (int i = 0; i <= tokens.length; i++) {
                text.append(i == more ? "   " : "");
                boolean twoNumbers = i > 4 && i < 8;
                text.append(i < tokens.length && twoNumbers && i != more ? " " : "").append(i < tokens.length ? tokens[i] : "");
            }
            Check.due("4: blanks ahead of token " + more, Check.read(text.toString()), 5);
        }
        Check.due("4: none within a word", Check.read("ho ur 1;"), -10);
        Check.due("4: none within a number", Check.read("tower 1 0;"), -18);
        Check.due("4: needed between numbers", Check.read("ringer 1111;"), -17);
    }

    private static void endsTooEarly() {
        String[] items = {"hour 1", "ringer 10 1 10 1", "tower 10", "times 1", "rest 1"};
        for (String item : items) {
            int word = item.indexOf(' ');
            for (int n = 1; n <= item.length(); n++) {
                String text = item.substring(0, n);
                Check.due("4: " + text, Check.read(text), n < word ? -10 : -10 - n);
                Check.due("4: behind an item, " + text, Check.read("hour 1;" + text), n < word ? -17 : -17 - n);
                Check.due("4: blanks count, " + text, Check.read(text + "   "), n < word ? -10 : -13 - n);
            }
        }
        Check.due("4: an earlier fault counts", Check.read("hour 4"), -15);
        Check.due("4: an earlier fault counts", Check.read("ringer 0 8"), -19);
        Check.due("4: a number above 99 counts", Check.read("tower 100"), -16);
        Check.due("4: a 0 ahead counts", Check.read("tower 00"), -16);
    }

    private static void faults() {
        firstByteOfTheToken();
        firstFaultCounts();
        faultChangesNothing();
        textStaysAndGoesOn();
    }

    private static void firstByteOfTheToken() {
        Check.due("4: of a word", Check.read("   hours 1;"), -13);
        Check.due("4: of a word that can't stand there", Check.read("hour   ringer"), -17);
        Check.due("4: of a number beyond", Check.read("tower    61;"), -19);
        Check.due("4: of a number above 99", Check.read("tower    600;"), -19);
        Check.due("4: of a number with a 0 ahead", Check.read("tower    06;"), -19);
        Check.due("4: of a number where a ; is due", Check.read("tower 6    12"), -21);
        Check.due("4: of a byte", Check.read("tower 6    !!"), -21);
    }

    private static void firstFaultCounts() {
        Check.due("4: a number, then a word", Check.read("hour 4;hours 1;"), -15);
        Check.due("4: a word, then a number", Check.read("hours 1;hour 4;"), -10);
        Check.due("4: a byte, then a number", Check.read("hour 1;# hour 00;"), -17);
        Check.due("4: what can't stand there, then a byte", Check.read("hour hour #"), -15);
        Check.due("4: the first number of a ringer", Check.read("ringer 61 8 16 10;"), -17);
        Check.due("4: the second", Check.read("ringer 60 8 16 10;"), -20);
        Check.due("4: the third", Check.read("ringer 60 7 16 10;"), -22);
        Check.due("4: the fourth", Check.read("ringer 60 7 15 10;"), -25);
    }

    private static void faultChangesNothing() {
        String[] texts = {"?", "hour", "hour 3;ringer 1 1 1 1;tower 2;times 4;rest 3;hour 4;", "hour 1;hour 1;hour 1;hour 1;hour 1;"};
        for (String text : texts) {
            HourRingers x = busyNight();
            HourRingers y = busyNight();
            Check.type(x, text);
            Check.type(y, text);
            int fault = x.parish();
            Check.isTrue("4: a fault, " + text, fault <= -10);
            Check.same("4: nothing changes, " + text, Answers.of(x), Answers.of(y));
            Check.due("4: the same fault again, " + text, x.parish(), fault);
            Check.same("4: images and the text stay, " + text, Answers.atTheEnd(x), Answers.atTheEnd(y));
        }
    }

    private static void textStaysAndGoesOn() {
        HourRingers x = new HourRingers();
        String text = "hour 2;ringer 10 7 1 5;times 3;";
        for (int n = 1; n <= text.length(); n++) {
            x.type(text.charAt(n - 1), 1);
            Check.due("4: typed on, byte " + n, x.count(4), n);
            if (text.charAt(n - 1) != ';') {
                Check.isTrue("4: not yet, byte " + n, x.parish() <= -10);
            }
        }
        Check.due("4: typed to its end", x.parish(), 3);
        Check.due("4: times", x.count(2), 3);
    }

    private static void readAnew() {
        nothingIsLeftOfTheOlder();
        nothingIsLeftOfThoseBefore();
        theTextIsEmptyThen();
        emptyTextTellsAnEmptyParish();
        onlyTheTraceStays();
    }

    private static void nothingIsLeftOfTheOlder() {
        String[] later = {"", "hour 1;", "ringer 2 2 2 2;", "hour 2;hour 1;ringer 3 7 0 1;times 2;", "tower 5;", "times 4;", "rest 3;"};
        for (String text : later) {
            HourRingers x = busyNight();
            x.night(0);
            x.night(2);
            x.night(3);
            x.needed();
            Check.type(x, text);
            x.parish();
            HourRingers y = new HourRingers();
            y.mark(0, 0);
            Check.type(y, text);
            y.parish();
            String got = Answers.of(x).replace("trace() -> 101", "trace() -> 0");
            Check.same("4: read anew as on a new object, " + text, got, Answers.of(y));
            Check.same("4: no images, " + text, Answers.atTheEnd(x), Answers.atTheEnd(y));
        }
    }

    /** What a text does not tell is as at first, also when the text ahead did not tell it either. */
    private static void nothingIsLeftOfThoseBefore() {
        String[] texts = {"hour 3;hour 2;ringer 60 7 15 9;tower 60;times 4;rest 3;", "hour 1;", "ringer 1 1 1 1;", "", "hour 2;"};
        HourRingers x = new HourRingers();
        for (String text : texts) {
            Check.type(x, text);
            x.parish();
            Check.same("4: as on a new object, " + text, Answers.of(x), Answers.of(Check.told(text)));
        }
    }

    private static void theTextIsEmptyThen() {
        HourRingers x = new HourRingers();
        Check.type(x, "hour 1;" + " ".repeat(193));
        x.parish();
        Check.due("4: no bytes", x.count(4), 0);
        Check.type(x, "hour 2;hour 2;" + " ".repeat(186));
        Check.due("4: 200 more", x.count(4), 200);
        Check.due("4: of the second text alone", x.parish(), 2);
        Check.due("4: hours of the second", x.count(0), 2);
    }

    private static void emptyTextTellsAnEmptyParish() {
        HourRingers x = busyNight();
        Check.due("4: no items", x.parish(), 0);
        Check.due("4: no hours", x.count(0), 0);
        Check.due("4: nobody", x.count(1), 0);
        Check.due("4: TIMES 1", x.count(2), 1);
        Check.due("4: REST 0", x.count(3), 0);
        Check.due("4: TOWER 0", x.now(3), 0);
        Check.due("4: nothing short", x.now(0), 0);
        Check.due("4: nobody walks", x.now(1), 0);
        Check.due("4: hour 0", x.hour(0, 0), BAD);
        Check.due("4: ringer 0", x.ringer(0, 0), BAD);
    }

    private static void onlyTheTraceStays() {
        HourRingers x = busyNight();
        Check.due("4: the trace ahead", x.trace(), 101);
        Check.type(x, "hour 3;hour 1;ringer 5 7 0 3;ringer 9 3 1 0;tower 8;times 2;rest 0;");
        x.parish();
        Check.due("4: the rota is empty", x.now(2), 0);
        Check.due("4: nobody rings", x.rings(0, 1), NONE);
        Check.due("4: nothing heard", x.hour(1, 2), NONE);
        Check.due("4: the tower as told", x.now(3), 8);
        Check.due("4: image 1 is gone", x.back(1), STATE);
        Check.due("4: the trace", x.trace(), 101);
    }

    // ---- 5, 6, 26: what is asked of all that was told

    private static void ringers() {
        smallestAndLargestRinger();
        whatOfARinger();
        noSuchRinger();
        howOftenHeRings();
    }

    private static void smallestAndLargestRinger() {
        HourRingers x = Check.told("ringer 0 0 0 0;ringer 60 7 15 9;");
        int[][] due = {{0, 0, 0, 0, 0}, {60, 7, 15, 9, 0}};
        for (int r = 0; r < 2; r++) {
            for (int what = 0; what < 5; what++) {
                Check.due("5: ringer(" + r + ", " + what + ")", x.ringer(r, what), due[r][what]);
            }
        }
    }

    private static void whatOfARinger() {
        HourRingers x = Check.told("ringer 60 7 15 9;");
        Check.due("5: the last what", x.ringer(0, 4), 0);
        for (int what : new int[] {LEAST, -1, 5, 6, MOST}) {
            Check.due("5: ringer(0, " + what + ")", x.ringer(0, what), BAD);
        }
    }

    private static void noSuchRinger() {
        HourRingers one = Check.told("ringer 60 7 15 9;");
        HourRingers six = Check.told(SIX_RINGERS);
        Check.due("5: the sixth", six.ringer(5, 0), 60);
        for (int what = 0; what < 5; what++) {
            for (int r : new int[] {LEAST, -1, 1, 2, 5, MOST}) {
                Check.due("5: no such ringer of one, " + r, one.ringer(r, what), BAD);
            }
            for (int r : new int[] {LEAST, -1, 6, 7, 64, MOST}) {
                Check.due("5: no such ringer of six, " + r, six.ringer(r, what), BAD);
            }
        }
    }

    private static void howOftenHeRings() {
        HourRingers x = Check.told("hour 1;hour 1;hour 1;hour 1;ringer 0 1 0 0;ringer 0 1 0 0;times 4;");
        for (int h = 0; h < 4; h++) {
            Check.due("5: he rings " + h + " times", x.ringer(0, 4), h);
            x.put(0, h, 0);
        }
        Check.due("5: he rings four times", x.ringer(0, 4), 4);
        Check.due("5: the other none", x.ringer(1, 4), 0);
        x.take(0, 0);
        Check.due("5: he rings three times", x.ringer(0, 4), 3);
    }

    private static void hours() {
        smallestAndLargestWant();
        shortFromAllToNone();
        heardInAnHour();
        whatOfAnHour();
        noSuchHour();
    }

    private static void smallestAndLargestWant() {
        HourRingers x = Check.told("hour 1;hour 3;hour 2;");
        Check.due("6: wants 1", x.hour(0, 0), 1);
        Check.due("6: wants 3", x.hour(1, 0), 3);
        Check.due("6: wants 2", x.hour(2, 0), 2);
    }

    private static void shortFromAllToNone() {
        HourRingers x = Check.told("hour 1;hour 3;ringer 0 7 0 0;ringer 0 7 0 0;ringer 0 7 0 0;");
        for (int n = 0; n < 3; n++) {
            Check.due("6: short with " + n, x.hour(1, 1), 3 - n);
            x.put(n, 1, 2 - n);
        }
        Check.due("6: short of none", x.hour(1, 1), 0);
        Check.due("6: the other is short still", x.hour(0, 1), 1);
    }

    private static void heardInAnHour() {
        HourRingers x = Check.told("hour 1;hour 3;");
        Check.due("6: heard NONE", x.hour(1, 2), NONE);
        for (int strokes : new int[] {0, 3}) {
            x.heard(1, strokes);
            Check.due("6: heard " + strokes, x.hour(1, 2), strokes);
            Check.due("6: the other's", x.hour(0, 2), NONE);
        }
        x.forget();
        Check.due("6: heard NONE again", x.hour(1, 2), NONE);
    }

    private static void whatOfAnHour() {
        HourRingers x = Check.told("hour 1;");
        for (int what : new int[] {LEAST, -1, 3, 4, MOST}) {
            Check.due("6: what " + what, x.hour(0, what), BAD);
        }
    }

    private static void noSuchHour() {
        HourRingers two = Check.told("hour 1;hour 3;");
        HourRingers four = Check.told(FOUR_HOURS);
        Check.due("6: the fourth", four.hour(3, 0), 3);
        for (int what = 0; what < 3; what++) {
            for (int h : new int[] {LEAST, -1, 2, 3, 4, MOST}) {
                Check.due("6: no such hour of two, " + h, two.hour(h, what), BAD);
            }
            for (int h : new int[] {LEAST, -1, 4, 5, 32, MOST}) {
                Check.due("6: no such hour of four, " + h, four.hour(h, what), BAD);
            }
        }
    }

    private static void counts() {
        mostOfEach();
        leastOfEach();
        for (int what : new int[] {LEAST, -1, 5, 6, MOST}) {
            Check.due("26: count(" + what + ")", Check.told(FOUR_HOURS).count(what), BAD);
        }
    }

    private static void counts(String why, HourRingers x, int... due) {
        for (int what = 0; what < 5; what++) {
            Check.due("26: " + why + ", count(" + what + ")", x.count(what), due[what]);
        }
    }

    private static void mostOfEach() {
        HourRingers x = Check.told(FOUR_HOURS + SIX_RINGERS + "times 4;rest 3;");
        Check.type(x, " ".repeat(200));
        counts("the most", x, 4, 6, 4, 3, 200);
    }

    private static void leastOfEach() {
        counts("the least", Check.told("times 1;rest 0;"), 0, 0, 1, 0, 0);
        counts("nothing told", new HourRingers(), 0, 0, 1, 0, 0);
    }
}
