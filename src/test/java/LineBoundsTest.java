/** A line (promises 22 and 23, Terms 4 and 6): each sentence that names a bound, by the calls around it. */
public final class LineBoundsTest {
    private static final String[] NO_SHEET = {"-1", "6", "7", "min", "max"};
    private static final String[] NO_MANY = {"0", "-1", "65", "66", "min", "max"};
    private static final String[] NO_TICKS = {"0", "-1", "101", "102", "min", "max"};

    public static void main(String[] args) {
        lineRefused();
        lineFirstOfTwo();
        lineTooFew();
        numbers("line(%s, 1, 1, 0)", 22);
        numbers("hands(%s, 1, 10000)", 23);
        lineNumbersLast();
        firstNumbers();
        noneComes();
        whats();
        oneBehindTheOther();
        freeAtThatTick();
        hasCome();
        mostHands();
        mostTicks();
        theMost();
        handsRefused();
        handsFirstOfTwo();
        handsFewest();
        handsMost();
        handsWaits();
        Runs.end("LineBoundsTest");
    }

    private static void refuse(String call, String[] each, int status) {
        for (String number : each) {
            Runs.refuses(call.replace("%s", number), status);
        }
    }

    // ---- promise 22: refused

    private static void lineRefused() {
        Runs.at(22, "1: no such SHEET");
        Runs.fill(0, 0, 1);
        Runs.fill(5, 0, 2);
        refuse("line(%s, 1, 1, 1, 0)", NO_SHEET, 1);
        Runs.gives("line(0, 1, 1, 1, 2)", 1);
        Runs.gives("line(5, 1, 1, 1, 2)", 2);
        Runs.at(22, "so many (1 to 64)");
        Runs.does("sheet(0, 0, 64)", "write(0, 0, 3)", "write(0, 63, 2)");
        refuse("line(0, %s, 1, 1, 0)", NO_MANY, 1);
        Runs.gives("line(0, 1, 1, 1, 2)", 3);
        Runs.gives("line(0, 63, 1, 1, 2)", 3);
        Runs.gives("line(0, 64, 1, 1, 2)", 5);
        Runs.at(22, "HANDS (1 to 20)");
        Runs.fill(0, 0, 60);
        refuse("line(0, 1, %s, 1, 0)", new String[] {"0", "-1", "21", "22", "min", "max"}, 1);
        Runs.gives("line(0, 1, 1, 1, 0)", 59);
        Runs.gives("line(0, 1, 20, 1, 0)", 2);
        Runs.at(22, "ticks (1 to 100)");
        Runs.fill(0, 0, 2);
        refuse("line(0, 1, 1, %s, 0)", NO_TICKS, 1);
        Runs.gives("line(0, 1, 1, 1, 0)", 1);
        Runs.gives("line(0, 1, 1, 100, 0)", 100);
        Runs.at(22, "what 0 to 4");
        Runs.fill(0, 0, 4, 1);
        refuse("line(0, 2, 2, 3, %s)", new String[] {"-1", "5", "6", "min", "max"}, 1);
        // 0-3, 0-3, 3-6, 3-6, 6-9
        long[] due = {5, 3 + 3 + 5, 5, 3, 9};
        for (int what = 0; what < 5; what++) {
            Runs.gives("line(0, 2, 2, 3, " + what + ")", due[what]);
        }
    }

    private static void lineFirstOfTwo() {
        Runs.at(22, "2: the SHEET is MISSING");
        for (int s = 0; s < 6; s++) {
            Runs.refuses("line(" + s + ", 1, 1, 1, 0)", 2);
        }
        Runs.does("sheet(0, 0, 64)", "drop(0)");
        Runs.refuses("line(0, 1, 1, 1, 0)", 2);
        Runs.refuses("line(0, 64, 20, 100, 4)", 2);
        Runs.at(22, "1 ahead of 2");
        refuse("line(0, %s, 1, 1, 0)", NO_MANY, 1);
        refuse("line(0, 1, %s, 1, 0)", new String[] {"0", "21"}, 1);
        refuse("line(0, 1, 1, %s, 0)", new String[] {"0", "101"}, 1);
        refuse("line(0, 1, 1, 1, %s)", new String[] {"-1", "5"}, 1);
        Runs.at(22, "1 ahead of 3");
        Runs.does("sheet(0, 0, 1)");
        refuse("line(0, %s, 1, 1, 0)", NO_MANY, 1);
        refuse("line(0, 2, %s, 1, 0)", new String[] {"0", "21"}, 1);
        refuse("line(0, 2, 1, %s, 0)", new String[] {"0", "101"}, 1);
        refuse("line(0, 2, 1, 1, %s)", new String[] {"-1", "5"}, 1);
        Runs.refuses("line(0, 2, 1, 1, 0)", 3);
    }

    private static void lineTooFew() {
        for (int many : new int[] {0, 1, 2, 12, 63}) {
            Runs.at(22, "3: too few numbers in a SHEET of " + many);
            Runs.does("sheet(0, 0, 64)", "sheet(0, 0, " + many + ")");
            Runs.refuses("line(0, " + (many + 1) + ", 1, 1, 0)", 3);
            Runs.refuses("line(0, 64, 1, 1, 0)", 3);
            Runs.refuses("hands(0, " + (many + 1) + ", 1, 0)", 3);
            Runs.refuses("hands(0, 64, 1, 0)", 3);
            if (many > 0) {
                Runs.gives("line(0, " + many + ", 1, 1, 0)", 0);
                Runs.gives("hands(0, " + many + ", 1, 0)", 1);
            }
        }
    }

    /** A call for which %s is the sheet and how many numbers, and which gives something for 0 to 100. */
    private static void numbers(String call, int promise) {
        Runs.at(promise, "1: the numbers: each 0 to 100, in 8 bits");
        Runs.does("sheet(0, 0, 3)");
        for (long bad : new long[] {-1, 101, 102, 127, -128}) {
            badAt(call, bad);
        }
        Runs.at(promise, "1: the numbers: each 0 to 100, in 16 bits");
        Runs.does("sheet(0, 1, 3)");
        for (long bad : new long[] {-1, 101, 256, 32767, -32768}) {
            badAt(call, bad);
        }
        Runs.at(promise, "1: the numbers: each 0 to 100, in 32 bits");
        Runs.does("sheet(0, 2, 3)");
        for (long bad : new long[] {-1, 101, 65536, Integer.MAX_VALUE, Integer.MIN_VALUE}) {
            badAt(call, bad);
        }
        Runs.at(promise, "1: the numbers: each 0 to 100, in 64 bits");
        Runs.does("sheet(0, 3, 3)");
        for (long bad : new long[] {-1, 101, 1L << 32, (1L << 32) + 1, Long.MAX_VALUE, Long.MIN_VALUE}) {
            badAt(call, bad);
        }
        for (int sort = 0; sort < 4; sort++) {
            Runs.at(promise, "the numbers: 0 and 100 can be");
            Runs.fill(0, sort, 0, 100, 0);
            Runs.does(call.replace("%s", "0, 1"), call.replace("%s", "0, 2"), call.replace("%s", "0, 3"));
        }
    }

    private static void badAt(String call, long bad) {
        for (int place = 0; place < 3; place++) {
            Runs.does("write(0, " + place + ", " + bad + ")");
            for (int many = 1; many <= 3; many++) {
                if (many > place) {
                    Runs.refuses(call.replace("%s", "0, " + many), 1);
                } else {
                    Runs.does(call.replace("%s", "0, " + many));
                }
            }
            Runs.does("write(0, " + place + ", 0)");
        }
    }

    private static void lineNumbersLast() {
        Runs.at(22, "1: the numbers, asked last: 3 ahead of them");
        Runs.fill(0, 0, 101, -1);
        Runs.refuses("line(0, 3, 1, 1, 0)", 3);
        Runs.refuses("line(0, 2, 1, 1, 0)", 1);
        Runs.refuses("hands(0, 3, 1, 0)", 3);
        Runs.refuses("hands(0, 2, 1, 0)", 1);
        Runs.at(22, "1: the numbers, also those of the last place of 64");
        Runs.does("sheet(1, 1, 64)", "write(1, 63, 101)");
        Runs.refuses("line(1, 64, 1, 1, 0)", 1);
        Runs.refuses("hands(1, 64, 1, 0)", 1);
        Runs.gives("line(1, 63, 1, 1, 2)", 0);
        Runs.does("write(1, 63, 100)");
        Runs.gives("line(1, 64, 1, 1, 2)", 100);
    }

    // ---- promise 22: the line

    private static void firstNumbers() {
        Runs.at(22, "the first numbers of a SHEET, so many: how many come at ticks 0, 1 and so on");
        Runs.fill(2, 2, 1, 2, 0, 4, 5);
        long[] come = {1, 3, 3, 7, 12};
        long[] end = {1, 2, 2, 4, 5};
        for (int many = 1; many <= 5; many++) {
            Runs.gives("line(2, " + many + ", 20, 1, 2)", come[many - 1]);
            Runs.gives("line(2, " + many + ", 20, 1, 4)", end[many - 1]);
            Runs.gives("line(2, " + many + ", 20, 1, 0)", 0);
        }
        Runs.at(22, "a SHEET is read as it is now");
        Runs.fill(2, 2, 1, 0);
        Runs.gives("line(2, 2, 1, 1, 2)", 1);
        Runs.does("write(2, 1, 6)");
        Runs.gives("line(2, 2, 1, 1, 2)", 7);
        Runs.does("sheet(2, 0, 2)");
        Runs.gives("line(2, 2, 1, 1, 2)", 0);
        Runs.gives("line(2, 2, 1, 1, 4)", 0);
    }

    private static void noneComes() {
        for (int many : new int[] {1, 64}) {
            Runs.at(22, "0 if none comes: " + many + " numbers");
            Runs.does("sheet(0, 0, " + many + ")");
            for (int what = 0; what < 5; what++) {
                Runs.gives("line(0, " + many + ", 1, 1, " + what + ")", 0);
                Runs.gives("line(0, " + many + ", 20, 100, " + what + ")", 0);
            }
        }
        Runs.at(22, "0 if none comes, also behind a line in which some came");
        Runs.fill(0, 0, 50, 50);
        Runs.does("sheet(1, 0, 2)");
        for (int what = 0; what < 5; what++) {
            Runs.does("line(0, 2, 3, 9, " + what + ")");
            Runs.gives("line(1, 2, 3, 9, " + what + ")", 0);
        }
        Runs.at(22, "one comes");
        Runs.fill(0, 0, 0, 0, 1, 0);
        long[] due = {0, 0, 1, 0, 2 + 7};
        for (int what = 0; what < 5; what++) {
            Runs.gives("line(0, 4, 1, 7, " + what + ")", due[what]);
        }
        Runs.gives("line(0, 2, 1, 7, 4)", 0);
        Runs.gives("line(0, 3, 1, 7, 4)", 9);
    }

    private static void whats() {
        Runs.at(22, "0: the greatest WAIT, 1: all WAITS, 2: how many come, 3: how many WAIT (above 0), 4: the last end");
        Runs.fill(0, 0, 3, 0, 0, 0, 0, 0, 0, 1);
        // one hand, 2 ticks: 0-2, 2-4 (waits 2), 4-6 (waits 4), 7-9: the last does not wait
        check("line(0, 8, 1, 2, ", 4, 6, 4, 2, 9);
        // 3 ticks: 0-3, 3-6 (3), 6-9 (6), 9-12 (2)
        check("line(0, 8, 1, 3, ", 6, 11, 4, 3, 12);
        // two hands, 3 ticks: 0-3, 0-3, 3-6 (3), 7-10
        check("line(0, 8, 2, 3, ", 3, 3, 4, 1, 10);
        check("line(0, 8, 3, 3, ", 0, 0, 4, 0, 10);
        check("line(0, 7, 3, 3, ", 0, 0, 3, 0, 3);
        // 100 ticks, two hands: 0-100, 0-100, 100-200 (100), 100-200 (93)
        check("line(0, 8, 2, 100, ", 100, 193, 4, 2, 200);
    }

    private static void check(String call, long... due) {
        for (int what = 0; what < due.length; what++) {
            Runs.gives(call + what + ")", due[what]);
        }
    }

    private static void oneBehindTheOther() {
        Runs.at(22, "those of one tick one behind the other, those of a later tick behind them");
        Runs.fill(0, 0, 2, 2, 2);
        // one hand, 2 ticks: waits 0, 2, 4-1, 6-1, 8-2, 10-2
        check("line(0, 3, 1, 2, ", 8, 0 + 2 + 3 + 5 + 6 + 8, 6, 5, 12);
        // two hands: 0, 0, 1, 1, 2, 2
        check("line(0, 3, 2, 2, ", 2, 6, 6, 4, 6);
        // three hands: 0-2, 0-2 | 1-3 | 2-4 (1) | 2-4, 3-5 (1)
        check("line(0, 3, 3, 2, ", 1, 2, 6, 2, 5);
        check("line(0, 3, 4, 2, ", 0, 0, 6, 0, 4);
    }

    private static void freeAtThatTick() {
        for (int ticks : new int[] {1, 2, 5, 63}) {
            Runs.at(22, "one that has ended at a tick is free at that tick: " + ticks + " ticks");
            Runs.does("sheet(0, 0, 64)", "write(0, 0, 1)", "write(0, " + ticks + ", 1)");
            check("line(0, 64, 1, " + ticks + ", ", 0, 0, 2, 0, 2 * ticks);
            if (ticks > 1) {
                Runs.does("write(0, " + ticks + ", 0)", "write(0, " + (ticks - 1) + ", 1)");
                check("line(0, 64, 1, " + ticks + ", ", 1, 1, 2, 1, 2 * ticks);
            }
        }
    }

    private static void hasCome() {
        Runs.at(22, "each as soon as it has come: not ahead of its coming, and at once when a HAND is free");
        Runs.fill(0, 0, 0, 0, 0, 1, 0, 0, 1);
        check("line(0, 7, 1, 3, ", 0, 0, 2, 0, 9);
        check("line(0, 7, 2, 3, ", 0, 0, 2, 0, 9);
        check("line(0, 7, 1, 4, ", 1, 1, 2, 1, 11);
        check("line(0, 7, 2, 4, ", 0, 0, 2, 0, 10);
        check("line(0, 7, 2, 100, ", 0, 0, 2, 0, 106);
        check("line(0, 7, 1, 100, ", 97, 97, 2, 1, 203);
        Runs.at(22, "a HAND that has rested waits for none");
        Runs.fill(0, 0, 2, 0, 0, 1, 1, 1);
        // two hands, 3 ticks: 0-3, 0-3, 3-6, 4-7, 6-9 (1)
        check("line(0, 6, 2, 3, ", 1, 1, 5, 1, 9);
    }

    private static void mostHands() {
        for (int hands = 1; hands <= 20; hands++) {
            Runs.at(22, "so many HANDS take one each: " + hands);
            Runs.fill(0, 0, hands, 1);
            check("line(0, 1, " + hands + ", 1, ", 0, 0, hands, 0, 1);
            check("line(0, 2, " + hands + ", 2, ", 1, 1, hands + 1, 1, 4);
            Runs.fill(0, 0, hands + 1);
            check("line(0, 1, " + hands + ", 7, ", 7, 7, hands + 1, 1, 14);
        }
    }

    private static void mostTicks() {
        for (int ticks : new int[] {1, 2, 50, 99, 100}) {
            Runs.at(22, "for so many ticks: " + ticks);
            Runs.fill(0, 0, 3);
            check("line(0, 1, 1, " + ticks + ", ", 2 * ticks, 3 * ticks, 3, 2, 3 * ticks);
        }
    }

    private static void theMost() {
        Runs.at(22, "the most that can come: 64 times 100");
        long[] hundreds = new long[64];
        for (int i = 0; i < 64; i++) {
            hundreds[i] = 100;
        }
        Runs.fill(0, 0, hundreds);
        // one hand: the one numbered n (0 to 6399) begins at 100 * n and came at n / 100
        check("line(0, 64, 1, 100, ", 639900 - 63, 100L * (6399 * 6400 / 2) - 100L * (63 * 64 / 2), 6400, 6399, 640000);
        // 20 hands, 1 tick: five ticks for each hundred
        check("line(0, 64, 20, 1, ", 319 - 63, 20L * (319 * 320 / 2) - 100L * (63 * 64 / 2), 6400, 6380, 320);
    }

    // ---- promise 23

    private static void handsRefused() {
        Runs.at(23, "1: no such SHEET");
        Runs.fill(0, 0, 1);
        Runs.fill(5, 0, 2);
        refuse("hands(%s, 1, 1, 0)", NO_SHEET, 1);
        Runs.gives("hands(0, 1, 1, 0)", 1);
        Runs.gives("hands(5, 1, 1, 0)", 2);
        Runs.at(23, "so many (1 to 64)");
        Runs.does("sheet(0, 0, 64)", "write(0, 0, 3)", "write(0, 63, 5)");
        refuse("hands(0, %s, 1, 0)", NO_MANY, 1);
        Runs.gives("hands(0, 1, 1, 0)", 3);
        Runs.gives("hands(0, 63, 1, 0)", 3);
        Runs.gives("hands(0, 64, 1, 0)", 5);
        Runs.at(23, "ticks (1 to 100)");
        Runs.fill(0, 0, 2);
        refuse("hands(0, 1, %s, 0)", NO_TICKS, 1);
        Runs.gives("hands(0, 1, 1, 1)", 1);
        Runs.gives("hands(0, 1, 100, 100)", 1);
        Runs.gives("hands(0, 1, 100, 99)", 2);
        Runs.at(23, "above a number (0 to 10,000)");
        Runs.fill(0, 0, 2);
        refuse("hands(0, 1, 1, %s)", new String[] {"-1", "-2", "10001", "10002", "min", "max"}, 1);
        Runs.gives("hands(0, 1, 1, 0)", 2);
        Runs.gives("hands(0, 1, 1, 10000)", 1);
        Runs.at(23, "2: the SHEET is MISSING");
        for (int s = 0; s < 6; s++) {
            Runs.refuses("hands(" + s + ", 1, 1, 0)", 2);
        }
    }

    private static void handsFirstOfTwo() {
        Runs.at(23, "1 ahead of 2");
        refuse("hands(0, %s, 1, 0)", NO_MANY, 1);
        refuse("hands(0, 1, %s, 0)", new String[] {"0", "101"}, 1);
        refuse("hands(0, 1, 1, %s)", new String[] {"-1", "10001"}, 1);
        Runs.at(23, "1 ahead of 3");
        Runs.does("sheet(0, 0, 1)");
        refuse("hands(0, %s, 1, 0)", NO_MANY, 1);
        refuse("hands(0, 2, %s, 0)", new String[] {"0", "101"}, 1);
        refuse("hands(0, 2, 1, %s)", new String[] {"-1", "10001"}, 1);
        Runs.refuses("hands(0, 2, 1, 0)", 3);
        Runs.at(23, "1 and 3 ahead of 7");
        Runs.fill(0, 0, 100, 101);
        Runs.refuses("hands(0, 1, 100, 0)", 7);
        Runs.refuses("hands(0, 2, 100, 0)", 1);
        Runs.refuses("hands(0, 3, 100, 0)", 3);
        Runs.refuses("hands(0, 1, 101, 0)", 1);
        Runs.refuses("hands(0, 1, 100, -1)", 1);
        Runs.refuses("hands(1, 1, 100, 0)", 2);
    }

    private static void handsFewest() {
        for (int come = 1; come <= 20; come++) {
            Runs.at(23, "the fewest HANDS (1 to 20): " + come + " come at once");
            Runs.fill(0, 0, come);
            Runs.gives("hands(0, 1, 9, 0)", come);
            Runs.gives("hands(0, 1, 9, 8)", come);
            Runs.gives("hands(0, 1, 9, 9)", (come + 1) / 2);
            Runs.gives("hands(0, 1, 9, 18)", (come + 2) / 3);
            Runs.gives("hands(0, 1, 9, 10000)", 1);
        }
        Runs.at(23, "7: with 20 HANDS a WAIT is above it");
        Runs.fill(0, 0, 21);
        Runs.refuses("hands(0, 1, 9, 0)", 7);
        Runs.refuses("hands(0, 1, 9, 8)", 7);
        Runs.gives("hands(0, 1, 9, 9)", 11);
        Runs.fill(0, 0, 40, 1);
        Runs.gives("hands(0, 1, 2, 2)", 20);
        Runs.refuses("hands(0, 1, 2, 1)", 7);
        Runs.refuses("hands(0, 2, 2, 2)", 7);
        Runs.gives("hands(0, 2, 2, 3)", 20);
        Runs.gives("hands(0, 2, 2, 4)", 14);
        Runs.at(23, "none comes: one HAND");
        Runs.does("sheet(0, 0, 64)");
        Runs.gives("hands(0, 64, 100, 0)", 1);
        Runs.gives("hands(0, 1, 1, 10000)", 1);
        Runs.at(23, "the last does not wait, but one ahead of it");
        Runs.fill(0, 0, 3, 0, 0, 0, 0, 0, 0, 1);
        Runs.gives("hands(0, 8, 2, 3)", 2);
        Runs.gives("hands(0, 8, 2, 4)", 1);
    }

    private static void handsMost() {
        Runs.at(23, "no WAIT is above a number: 10,000");
        Runs.does("sheet(0, 0, 49)", "write(0, 0, 100)", "write(0, 48, 58)");
        // the last of 158 begins at 157 * 64 and came at 48
        Runs.gives("line(0, 49, 1, 64, 0)", 10000);
        Runs.gives("hands(0, 49, 64, 10000)", 1);
        Runs.gives("hands(0, 49, 64, 9999)", 2);
        Runs.does("write(0, 48, 59)");
        Runs.gives("hands(0, 49, 64, 10000)", 2);
        Runs.at(23, "no WAIT is above a number: the most that come");
        long[] hundreds = new long[64];
        for (int i = 0; i < 64; i++) {
            hundreds[i] = 100;
        }
        Runs.fill(0, 0, hundreds);
        // 20 hands: the last begins at 319 * ticks, and came at 63
        Runs.gives("hands(0, 64, 31, 9826)", 20);
        Runs.refuses("hands(0, 64, 31, 9825)", 7);
        Runs.refuses("hands(0, 64, 100, 10000)", 7);
    }

    private static void handsWaits() {
        Runs.at(23, "as line(): free at that tick");
        Runs.fill(0, 0, 1, 0, 1);
        Runs.gives("hands(0, 3, 2, 0)", 1);
        Runs.gives("hands(0, 3, 3, 0)", 2);
        Runs.gives("hands(0, 3, 3, 1)", 1);
        Runs.gives("hands(0, 2, 3, 0)", 1);
        Runs.at(23, "a line asked with many HANDS leaves nothing behind for the next");
        Runs.fill(0, 0, 20, 20);
        Runs.gives("hands(0, 2, 1, 0)", 20);
        Runs.gives("hands(0, 1, 100, 0)", 20);
        Runs.gives("line(0, 1, 20, 1, 1)", 0);
        Runs.gives("line(0, 2, 20, 1, 4)", 2);
        Runs.gives("hands(0, 2, 1, 0)", 20);
    }
}
