/** Sheets (promises 1 to 8 and Terms 1 and 6): each sentence that names a bound, by the calls on both sides of it. */
public final class SheetBoundsTest {
    private static final String[] NO_NUMBER = {"-1", "6", "7", "min", "max"};

    public static void main(String[] args) {
        missingAtFirst();
        nothingAtFirst();
        statusOfTheLatestCall();
        statusHasNone();
        sheetNumbers();
        sheetSorts();
        sheetLengths();
        sheetOfZeros();
        writeNumbers();
        writePlaces();
        writeCut();
        writeOnePlace();
        readNumbers();
        readPlaces();
        readNone();
        drop();
        copyNumbers();
        copyBelowNone();
        copyMissing();
        copyPlaces();
        copyMany();
        copyAsTheyWere();
        copyCut();
        copyStays();
        none();
        Runs.end("SheetBoundsTest");
    }

    // ---- promise 1

    private static void missingAtFirst() {
        Runs.at(1, "SHEETS are MISSING");
        for (int s = 0; s < 6; s++) {
            Runs.refuses("read(" + s + ", 0)", 2);
            Runs.refuses("write(" + s + ", 0, 1)", 2);
            Runs.refuses("drop(" + s + ")", 2);
            Runs.refuses("copy(" + s + ", 0, " + s + ", 0, 0)", 2);
            Runs.refuses("line(" + s + ", 1, 1, 1, 0)", 2);
            Runs.refuses("hands(" + s + ", 1, 1, 0)", 2);
            Runs.refuses("wanted(" + s + ")", 2);
            Runs.refuses("type(1, 0, " + s + ", 0)", 2);
        }
    }

    private static void nothingAtFirst() {
        Runs.at(1, "STATUS 0");
        Runs.status(0);
        Runs.at(1, "nothing");
        for (int what = 0; what < 5; what++) {
            Runs.gives("count(" + what + ")", 0);
        }
        Runs.refuses("up(0, false)", 1);
        Runs.refuses("apart(0, 1, true)", 1);
        Runs.refuses("part(0, 0, 0)", 1);
        Runs.refuses("buys(0, 0)", 1);
        Runs.gives("enough(2)", -2);
        Runs.gives("rest(0)", 0);
        Runs.at(1, "WANTED 0");
        Runs.gives("cheapest()", 0);
        for (int month = 0; month < 12; month++) {
            Runs.at(1, "HAVE 0: not 1");
            long[] wanted = new long[12];
            wanted[month] = 1;
            Runs.fill(0, 0, wanted);
            Runs.does("wanted(0)");
            Runs.refuses("cheapest()", 7);
        }
        Runs.at(1, "a new object has nothing of another one");
        Runs.does("sheet(0, 0, 1)", "machine(1, 0)", "ask(1, 0, 0)", "batch(1, 0, 1, 1)", "have(1)");
        MachineHall other = new MachineHall();
        Runs.due("count(0) of another", other.count(0), 0);
        Runs.due("count(1) of another", other.count(1), 0);
        Runs.due("count(2) of another", other.count(2), 0);
        Runs.due("drop(0) of another", other.drop(0) ? 1 : 0, 0);
        Runs.gives("count(0)", 1);
        Runs.gives("drop(0)", 1);
    }

    // ---- promise 2

    private static void statusOfTheLatestCall() {
        String[] done = {"sheet(0, 2, 12)", "write(0, 0, 1)", "read(0, 0)", "copy(0, 0, 0, 1, 1)", "machine(9, 0)",
            "ask(1, 0, 0)", "ask(1, 0, 0)", "up(0, false)", "up(0, true)", "apart(0, 1, true)", "apart(0, 1, false)",
            "count(0)", "fits(0, 0)", "on(0, 0, 0)", "lack(0, 0)", "left(0, 0)", "enough(0)", "batch(1, 0, 1, 1)",
            "rest(0)", "part(0, 0, 0)", "line(0, 1, 1, 1, 0)", "hands(0, 1, 1, 0)", "wanted(0)", "have(1)",
            "type(1, 0, 0, 0)", "cheapest()", "buys(0, 0)", "fits(1, 1)", "drop(0)"};
        for (String refused : new String[] {"none()", "machine(0, 0)", "read(5, 0)"}) {
            Runs.at(2, "STATUS of the latest call: 0 behind one that is done");
            int status = refused.equals("none()") ? 8 : refused.startsWith("machine") ? 1 : 2;
            for (String call : done) {
                Runs.refuses(refused, status);
                Runs.does(call);
            }
        }
        Runs.at(2, "STATUS of the latest call: each of them");
        Runs.does("sheet(0, 0, 1)", "machine(1, 0)", "ask(2, 0, 0)", "batch(1, 0, 1, 1)");
        Runs.does("batch(1, 0, 1, 1)", "batch(1, 0, 1, 1)", "batch(1, 0, 1, 1)", "batch(1, 0, 1, 1)");
        Runs.does("batch(1, 0, 1, 1)", "batch(1, 0, 1, 1)", "batch(1, 0, 1, 1)");
        Runs.refuses("count(5)", 1);
        Runs.refuses("read(1, 0)", 2);
        Runs.refuses("read(0, 1)", 3);
        Runs.refuses("batch(1, 0, 1, 1)", 4);
        Runs.refuses("up(0, true)", 5);
        Runs.refuses("on(0, 0, 0)", 6);
        Runs.refuses("part(0, 0, 0)", 7);
        Runs.refuses("none()", 8);
        Runs.gives("fits(0, 0)", 0);
        Runs.status(0);
    }

    private static void statusHasNone() {
        Runs.at(2, "status() has none");
        Runs.refuses("none()", 8);
        Runs.status(8);
        Runs.status(8);
        Runs.refuses("drop(0)", 2);
        Runs.status(2);
        Runs.status(2);
        Runs.does("count(0)");
        Runs.status(0);
        Runs.status(0);
    }

    // ---- promise 3

    private static void sheetNumbers() {
        Runs.at(3, "SHEETS 0 to 5");
        Runs.fill(0, 1, 11);
        Runs.fill(5, 2, 12, 13);
        for (String sheet : NO_NUMBER) {
            Runs.refuses("sheet(" + sheet + ", 0, 1)", 1);
        }
        for (int s = 0; s < 6; s++) {
            Runs.gives("sheet(" + s + ", 0, 1)", 1);
            Runs.gives("read(" + s + ", 0)", 0);
        }
        Runs.at(3, "each SHEET is a row of its own");
        for (int s = 0; s < 6; s++) {
            Runs.fill(s, 0, s + 1, -s);
        }
        for (int s = 0; s < 6; s++) {
            Runs.gives("read(" + s + ", 0)", s + 1);
            Runs.gives("read(" + s + ", 1)", -s);
        }
        Runs.does("sheet(3, 1, 2)");
        Runs.gives("read(2, 0)", 3);
        Runs.gives("read(3, 0)", 0);
        Runs.gives("read(4, 0)", 5);
    }

    private static void sheetSorts() {
        Runs.at(3, "sorts 0 to 3");
        Runs.fill(2, 1, 300);
        for (String sort : new String[] {"-1", "4", "5", "min", "max"}) {
            Runs.refuses("sheet(2, " + sort + ", 1)", 1);
            Runs.refuses("sheet(3, " + sort + ", 0)", 1);
        }
        for (int sort = 0; sort < 4; sort++) {
            Runs.gives("sheet(2, " + sort + ", 1)", 1);
        }
        Runs.at(3, "8 bits (sort 0), 16 (1), 32 (2) or 64 (3), also of a row that was of another sort");
        for (int before = 0; before < 4; before++) {
            for (int sort = 0; sort < 4; sort++) {
                Runs.does("sheet(4, " + before + ", 1)", "sheet(4, " + sort + ", 1)");
                Runs.does("write(4, 0, " + 0x7a6b5c4d3e2f1a0bL + ")");
                long[] cut = {0x0bL, 0x1a0bL, 0x3e2f1a0bL, 0x7a6b5c4d3e2f1a0bL};
                Runs.gives("read(4, 0)", cut[sort]);
            }
        }
    }

    private static void sheetLengths() {
        Runs.at(3, "rows of 0 to 64 numbers");
        Runs.fill(1, 0, 5, 6);
        for (String many : new String[] {"-1", "65", "66", "min", "max"}) {
            Runs.refuses("sheet(1, 0, " + many + ")", 1);
            Runs.refuses("sheet(1, 2, " + many + ")", 1);
            Runs.refuses("sheet(0, 0, " + many + ")", 1);
        }
        Runs.gives("read(1, 1)", 6);
        for (int many : new int[] {0, 1, 2, 63, 64}) {
            Runs.gives("sheet(1, 0, " + many + ")", 1);
            if (many > 0) {
                Runs.gives("read(1, " + (many - 1) + ")", 0);
                Runs.gives("write(1, " + (many - 1) + ", 9)", 1);
                Runs.gives("read(1, " + (many - 1) + ")", 9);
            }
            Runs.refuses("read(1, " + many + ")", 3);
            Runs.refuses("write(1, " + many + ", 9)", 3);
        }
        Runs.at(3, "first of two that hold: there is but 1");
        Runs.refuses("sheet(6, 4, 65)", 1);
        Runs.refuses("sheet(-1, -1, -1)", 1);
    }

    private static void sheetOfZeros() {
        Runs.at(3, "so many 0s, also where it was a row before");
        for (int sort = 0; sort < 4; sort++) {
            Runs.does("sheet(0, " + sort + ", 8)");
            for (int place = 0; place < 8; place++) {
                Runs.does("write(0, " + place + ", " + (place + 1) + ")");
            }
            Runs.gives("sheet(0, " + sort + ", 8)", 1);
            for (int place = 0; place < 8; place++) {
                Runs.gives("read(0, " + place + ")", 0);
            }
        }
        Runs.at(3, "so many 0s: shorter and longer again");
        Runs.does("sheet(0, 0, 64)", "write(0, 0, 1)", "write(0, 31, 2)", "write(0, 63, 3)", "sheet(0, 0, 1)");
        Runs.gives("read(0, 0)", 0);
        Runs.refuses("read(0, 1)", 3);
        Runs.does("sheet(0, 0, 64)");
        for (int place = 0; place < 64; place++) {
            Runs.gives("read(0, " + place + ")", 0);
        }
        Runs.at(3, "so many 0s: MISSING in between");
        Runs.does("sheet(0, 3, 2)", "write(0, 0, 1)", "write(0, 1, -1)", "drop(0)", "sheet(0, 3, 2)");
        Runs.gives("read(0, 0)", 0);
        Runs.gives("read(0, 1)", 0);
    }

    // ---- promise 4

    private static void writeNumbers() {
        Runs.at(4, "1: no such SHEET");
        Runs.fill(0, 0, 7);
        Runs.fill(5, 0, 8);
        for (String sheet : NO_NUMBER) {
            Runs.refuses("write(" + sheet + ", 0, 1)", 1);
        }
        Runs.gives("write(0, 0, 1)", 1);
        Runs.gives("write(5, 0, 1)", 1);
        Runs.at(4, "1 ahead of 3");
        Runs.refuses("write(6, 64, 1)", 1);
        Runs.refuses("write(-1, -1, 1)", 1);
        Runs.at(4, "2 ahead of 3");
        Runs.does("sheet(0, 0, 64)", "sheet(1, 0, 64)", "drop(1)");
        Runs.refuses("write(1, 0, 1)", 2);
        Runs.refuses("write(1, 64, 1)", 2);
        Runs.refuses("write(1, -1, 1)", 2);
    }

    private static void writePlaces() {
        for (int many : new int[] {0, 1, 2, 64}) {
            Runs.at(4, "3: a place that the SHEET of " + many + " has not");
            Runs.does("sheet(0, 1, 64)", "sheet(0, 1, " + many + ")");
            for (String place : new String[] {"-1", "" + many, "" + (many + 1), "64", "min", "max"}) {
                Runs.refuses("write(0, " + place + ", 1)", 3);
            }
            for (int place = 0; place < many; place += Math.max(1, many - 1)) {
                Runs.gives("write(0, " + place + ", " + (place + 5) + ")", 1);
                Runs.gives("read(0, " + place + ")", place + 5);
            }
        }
    }

    private static void writeCut() {
        Runs.at(4, "cut to its sort: 8 bits");
        cut(0, new long[][] {{0, 0}, {1, 1}, {-1, -1}, {127, 127}, {128, -128}, {129, -127}, {-128, -128}, {-129, 127},
            {255, -1}, {256, 0}, {257, 1}, {-256, 0}, {32767, -1}, {32768, 0}, {65535, -1}, {2147483647L, -1},
            {2147483648L, 0}, {4294967295L, -1}, {4294967296L, 0}, {Long.MAX_VALUE, -1}, {Long.MIN_VALUE, 0}});
        Runs.at(4, "cut to its sort: 16 bits");
        cut(1, new long[][] {{127, 127}, {128, 128}, {-129, -129}, {255, 255}, {256, 256}, {32767, 32767},
            {32768, -32768}, {32769, -32767}, {-32768, -32768}, {-32769, 32767}, {65535, -1}, {65536, 0}, {65537, 1},
            {2147483647L, -1}, {2147483648L, 0}, {Long.MAX_VALUE, -1}, {Long.MIN_VALUE, 0}, {-1, -1}, {0, 0}});
        Runs.at(4, "cut to its sort: 32 bits");
        cut(2, new long[][] {{32767, 32767}, {32768, 32768}, {-32769, -32769}, {65535, 65535}, {65536, 65536},
            {2147483647L, 2147483647L}, {2147483648L, -2147483648L}, {2147483649L, -2147483647L},
            {-2147483648L, -2147483648L}, {-2147483649L, 2147483647L}, {4294967295L, -1}, {4294967296L, 0},
            {4294967297L, 1}, {Long.MAX_VALUE, -1}, {Long.MIN_VALUE, 0}, {-1, -1}, {0, 0}});
        for (int sort = 0; sort < 4; sort++) {
            Runs.at(4, "cut to its sort: in each place of 64, sort " + sort);
            Runs.does("sheet(5, " + sort + ", 64)");
            for (int place = 0; place < 64; place++) {
                Runs.gives("write(5, " + place + ", " + (0x123456789abcde00L + place) + ")", 1);
            }
            long[] least = {0, (short) 0xde00, 0x9abcde00, 0x123456789abcde00L};
            rows(5, 0, 64, least[sort], 1);
        }
        Runs.at(4, "cut to its sort: 64 bits stay whole");
        cut(3, new long[][] {{2147483648L, 2147483648L}, {-2147483649L, -2147483649L}, {4294967296L, 4294967296L},
            {Long.MAX_VALUE, Long.MAX_VALUE}, {Long.MIN_VALUE, Long.MIN_VALUE}, {-1, -1}, {0, 0}});
    }

    private static void cut(int sort, long[][] pairs) {
        Runs.does("sheet(2, " + sort + ", 3)");
        for (long[] pair : pairs) {
            Runs.gives("write(2, 1, " + pair[0] + ")", 1);
            Runs.gives("read(2, 1)", pair[1]);
        }
        Runs.gives("read(2, 0)", 0);
        Runs.gives("read(2, 2)", 0);
    }

    private static void writeOnePlace() {
        Runs.at(4, "a number comes to a place, and to no other");
        Runs.fill(0, 0, 1, 2, 3);
        Runs.fill(1, 0, 4, 5, 6);
        Runs.gives("write(0, 1, 9)", 1);
        long[][] due = {{1, 9, 3}, {4, 5, 6}};
        for (int s = 0; s < 2; s++) {
            for (int place = 0; place < 3; place++) {
                Runs.gives("read(" + s + ", " + place + ")", due[s][place]);
            }
        }
        Runs.gives("write(0, 1, 9)", 1);
        Runs.gives("read(0, 1)", 9);
    }

    // ---- promise 5

    private static void readNumbers() {
        Runs.at(5, "1: no such SHEET");
        Runs.fill(0, 0, 7);
        Runs.fill(5, 0, 8);
        for (String sheet : NO_NUMBER) {
            Runs.refuses("read(" + sheet + ", 0)", 1);
        }
        Runs.gives("read(0, 0)", 7);
        Runs.gives("read(5, 0)", 8);
        Runs.at(5, "1 ahead of 3");
        Runs.refuses("read(6, 64)", 1);
        Runs.refuses("read(-1, -1)", 1);
        Runs.at(5, "2 ahead of 3");
        Runs.does("sheet(0, 0, 64)", "sheet(1, 0, 64)", "drop(1)");
        Runs.refuses("read(1, 0)", 2);
        Runs.refuses("read(1, 64)", 2);
        Runs.refuses("read(1, -1)", 2);
    }

    private static void readPlaces() {
        for (int many : new int[] {0, 1, 2, 64}) {
            Runs.at(5, "3: a place that the SHEET of " + many + " has not");
            Runs.does("sheet(0, 1, 64)", "write(0, 63, 4)", "sheet(0, 1, " + many + ")");
            for (String place : new String[] {"-1", "" + many, "" + (many + 1), "64", "min", "max"}) {
                Runs.refuses("read(0, " + place + ")", 3);
            }
            for (int place = 0; place < many; place++) {
                Runs.gives("read(0, " + place + ")", 0);
            }
        }
    }

    private static void readNone() {
        for (int sort = 0; sort < 4; sort++) {
            Runs.at(5, "STATUS tells NONE from -1");
            Runs.fill(3, sort, -1);
            Runs.refuses("read(3, 1)", 3);
            Runs.gives("read(3, 0)", -1);
            Runs.refuses("read(2, 0)", 2);
            Runs.gives("read(3, 0)", -1);
            Runs.refuses("read(6, 0)", 1);
        }
    }

    // ---- promise 6

    private static void drop() {
        Runs.at(6, "1: no such SHEET");
        for (String sheet : NO_NUMBER) {
            Runs.refuses("drop(" + sheet + ")", 1);
        }
        Runs.fill(0, 0, 3);
        Runs.fill(5, 0, 4);
        for (String sheet : NO_NUMBER) {
            Runs.refuses("drop(" + sheet + ")", 1);
        }
        Runs.gives("drop(0)", 1);
        Runs.gives("read(5, 0)", 4);
        Runs.gives("drop(5)", 1);
        Runs.at(6, "2: it is MISSING");
        Runs.does("sheet(2, 0, 0)");
        Runs.refuses("drop(1)", 2);
        Runs.gives("drop(2)", 1);
        Runs.refuses("drop(2)", 2);
        Runs.at(6, "a SHEET is MISSING, also for each call that reads one");
        Runs.does("sheet(4, 0, 12)", "sheet(0, 0, 12)", "drop(4)");
        Runs.refuses("read(4, 0)", 2);
        Runs.refuses("write(4, 0, 0)", 2);
        Runs.refuses("copy(4, 0, 0, 0, 0)", 2);
        Runs.refuses("copy(0, 0, 4, 0, 0)", 2);
        Runs.refuses("line(4, 1, 1, 1, 0)", 2);
        Runs.refuses("hands(4, 1, 1, 0)", 2);
        Runs.refuses("wanted(4)", 2);
        Runs.refuses("type(1, 0, 4, 0)", 2);
        Runs.does("sheet(4, 0, 12)");
        Runs.gives("read(4, 11)", 0);
    }

    // ---- promise 7

    private static void copyNumbers() {
        Runs.at(7, "1: no such SHEET");
        Runs.fill(0, 0, 1, 2);
        Runs.fill(5, 0, 3, 4);
        for (String sheet : NO_NUMBER) {
            Runs.refuses("copy(" + sheet + ", 0, 0, 0, 1)", 1);
            Runs.refuses("copy(0, 0, " + sheet + ", 0, 1)", 1);
            Runs.refuses("copy(0, 0, " + sheet + ", 0, 0)", 1);
        }
        Runs.at(7, "1 ahead of 2 and 3: no such SHEET");
        Runs.does("sheet(0, 0, 2)");
        Runs.refuses("copy(6, 0, 1, 0, 1)", 1);
        Runs.refuses("copy(1, 0, 6, 0, 1)", 1);
        Runs.refuses("copy(-1, 0, 0, 0, 3)", 1);
        Runs.refuses("copy(0, 0, -1, 0, 3)", 1);
        Runs.refuses("copy(0, 3, 6, 3, 0)", 1);
        Runs.gives("copy(0, 0, 0, 0, 2)", 1);
    }

    private static void copyBelowNone() {
        Runs.at(7, "1: below 0, too");
        Runs.fill(0, 0, 1, 2, 3);
        Runs.fill(1, 0, 4, 5, 6);
        for (String below : new String[] {"-1", "-2", "min"}) {
            Runs.refuses("copy(0, " + below + ", 1, 0, 1)", 1);
            Runs.refuses("copy(0, 0, 1, " + below + ", 1)", 1);
            Runs.refuses("copy(0, 0, 1, 0, " + below + ")", 1);
            Runs.refuses("copy(0, " + below + ", 1, 0, 0)", 1);
            Runs.refuses("copy(0, 0, 1, " + below + ", 0)", 1);
        }
        Runs.refuses("copy(0, 1, 1, 1, -1)", 1);
        Runs.refuses("copy(0, 3, 1, 3, -1)", 1);
        Runs.refuses("copy(0, -1, 1, -1, 3)", 1);
        Runs.at(7, "1 ahead of 2: below 0");
        Runs.does("sheet(0, 0, 3)");
        Runs.refuses("copy(1, -1, 0, 0, 1)", 1);
        Runs.refuses("copy(0, 0, 1, -1, 1)", 1);
        Runs.refuses("copy(1, 0, 2, 0, -1)", 1);
        Runs.at(7, "1 ahead of 3: below 0");
        Runs.does("sheet(0, 0, 3)", "sheet(1, 0, 3)");
        Runs.refuses("copy(0, -1, 1, 4, 1)", 1);
        Runs.refuses("copy(0, 4, 1, -1, 1)", 1);
        Runs.refuses("copy(0, 4, 1, 4, -1)", 1);
        Runs.refuses("copy(0, -1, 1, 0, 65)", 1);
    }

    private static void copyMissing() {
        Runs.at(7, "2: either SHEET is MISSING");
        Runs.fill(0, 0, 1, 2, 3);
        Runs.refuses("copy(1, 0, 0, 0, 1)", 2);
        Runs.refuses("copy(0, 0, 1, 0, 1)", 2);
        Runs.refuses("copy(1, 0, 1, 0, 1)", 2);
        Runs.refuses("copy(1, 0, 2, 0, 0)", 2);
        Runs.refuses("copy(0, 0, 1, 0, 0)", 2);
        Runs.refuses("copy(1, 0, 0, 0, 0)", 2);
        Runs.at(7, "2 ahead of 3");
        Runs.does("sheet(0, 0, 3)");
        Runs.refuses("copy(0, 0, 1, 0, 4)", 2);
        Runs.refuses("copy(1, 0, 0, 4, 1)", 2);
        Runs.refuses("copy(0, 64, 1, 64, 64)", 2);
        Runs.refuses("copy(1, 0, 0, 0, max)", 2);
    }

    private static void copyPlaces() {
        Runs.at(7, "3: a place that the SHEET has not, or too few numbers");
        Runs.fill(0, 0, 1, 2, 3, 4);
        Runs.fill(1, 0, 5, 6);
        Runs.refuses("copy(0, 0, 1, 0, 3)", 3);
        Runs.refuses("copy(1, 0, 0, 0, 3)", 3);
        Runs.refuses("copy(0, 3, 1, 0, 2)", 3);
        Runs.refuses("copy(0, 0, 1, 1, 2)", 3);
        Runs.refuses("copy(0, 4, 1, 0, 1)", 3);
        Runs.refuses("copy(0, 0, 1, 2, 1)", 3);
        Runs.refuses("copy(0, 5, 1, 0, 0)", 3);
        Runs.refuses("copy(0, 0, 1, 3, 0)", 3);
        Runs.refuses("copy(0, 64, 1, 0, 1)", 3);
        Runs.refuses("copy(0, 0, 1, 64, 1)", 3);
        Runs.refuses("copy(0, 0, 0, 1, 4)", 3);
        Runs.refuses("copy(0, 1, 0, 0, 4)", 3);
        for (String place : new String[] {"1", "2147483646", "max"}) {
            Runs.refuses("copy(0, " + place + ", 1, 0, max)", 3);
            Runs.refuses("copy(0, 0, 1, " + place + ", max)", 3);
            Runs.refuses("copy(0, 0, 0, " + place + ", max)", 3);
        }
        Runs.refuses("copy(0, max, 1, 0, 1)", 3);
        Runs.refuses("copy(0, 0, 1, max, 1)", 3);
        Runs.refuses("copy(0, max, 1, 0, 0)", 3);
        Runs.refuses("copy(0, 0, 1, 0, max)", 3);
        Runs.gives("copy(0, 3, 1, 1, 1)", 1);
        Runs.gives("read(1, 0)", 5);
        Runs.gives("read(1, 1)", 4);
        Runs.gives("copy(0, 2, 1, 0, 2)", 1);
        Runs.gives("read(1, 0)", 3);
        Runs.gives("read(1, 1)", 4);
        Runs.at(7, "3: a SHEET of 0 numbers");
        Runs.does("sheet(0, 0, 0)", "sheet(1, 0, 1)");
        Runs.refuses("copy(0, 0, 1, 0, 1)", 3);
        Runs.refuses("copy(1, 0, 0, 0, 1)", 3);
        Runs.refuses("copy(0, 1, 1, 0, 0)", 3);
        Runs.gives("copy(0, 0, 1, 0, 0)", 1);
        Runs.gives("copy(1, 0, 0, 0, 0)", 1);
    }

    private static void copyMany() {
        Runs.at(7, "so many numbers: none, or one");
        sixtyFour();
        Runs.gives("copy(0, 5, 1, 7, 0)", 1);
        Runs.gives("copy(0, 64, 1, 64, 0)", 1);
        rows(1, 0, 64, 0, 0);
        Runs.gives("copy(0, 5, 1, 7, 1)", 1);
        Runs.gives("read(1, 6)", 0);
        Runs.gives("read(1, 7)", 105);
        Runs.gives("read(1, 8)", 0);
        Runs.at(7, "so many numbers: the most, and one too many");
        sixtyFour();
        Runs.refuses("copy(0, 0, 1, 0, 65)", 3);
        Runs.refuses("copy(0, 1, 1, 0, 64)", 3);
        Runs.refuses("copy(0, 0, 1, 1, 64)", 3);
        Runs.gives("copy(0, 0, 1, 0, 64)", 1);
        rows(1, 0, 64, 100, 1);
        Runs.at(7, "so many numbers: one fewer than the most");
        sixtyFour();
        Runs.gives("copy(0, 1, 1, 0, 63)", 1);
        rows(1, 0, 63, 101, 1);
        Runs.gives("read(1, 63)", 0);
    }

    /** Sheet 0 has the numbers 100 to 163, sheet 1 has 64 zeros. */
    private static void sixtyFour() {
        long[] row = new long[64];
        for (int i = 0; i < 64; i++) {
            row[i] = 100 + i;
        }
        Runs.fill(0, 3, row);
        Runs.does("sheet(1, 3, 64)");
    }

    private static void rows(int sheet, int from, int to, long first, int step) {
        for (int place = from; place < to; place++) {
            Runs.gives("read(" + sheet + ", " + place + ")", first + (long) step * (place - from));
        }
    }

    private static void copyAsTheyWere() {
        Runs.at(7, "its own place on, as they were: towards the end");
        Runs.fill(0, 0, 1, 2, 3, 4, 5, 6);
        Runs.gives("copy(0, 0, 0, 2, 4)", 1);
        all(0, 1, 2, 1, 2, 3, 4);
        Runs.gives("copy(0, 0, 0, 1, 5)", 1);
        all(0, 1, 1, 2, 1, 2, 3);
        Runs.at(7, "its own place on, as they were: towards the beginning");
        Runs.fill(0, 0, 1, 2, 3, 4, 5, 6);
        Runs.gives("copy(0, 2, 0, 0, 4)", 1);
        all(0, 3, 4, 5, 6, 5, 6);
        Runs.gives("copy(0, 1, 0, 0, 5)", 1);
        all(0, 4, 5, 6, 5, 6, 6);
        Runs.at(7, "its own place on, as they were: the same place, and apart");
        Runs.fill(0, 0, 1, 2, 3, 4, 5, 6);
        Runs.gives("copy(0, 1, 0, 1, 5)", 1);
        all(0, 1, 2, 3, 4, 5, 6);
        Runs.gives("copy(0, 0, 0, 3, 3)", 1);
        all(0, 1, 2, 3, 1, 2, 3);
    }

    private static void all(int sheet, long... due) {
        for (int place = 0; place < due.length; place++) {
            Runs.gives("read(" + sheet + ", " + place + ")", due[place]);
        }
    }

    private static void copyCut() {
        long[] row = {127, 128, 255, -129, 32767, 32768, 65535, -32769, 2147483647L, 2147483648L, 4294967295L,
            -2147483649L, Long.MAX_VALUE, Long.MIN_VALUE, -1};
        long[][] due = {
            {127, -128, -1, 127, -1, 0, -1, -1, -1, 0, -1, -1, -1, 0, -1},
            {127, 128, 255, -129, 32767, -32768, -1, 32767, -1, 0, -1, -1, -1, 0, -1},
            {127, 128, 255, -129, 32767, 32768, 65535, -32769, 2147483647L, -2147483648L, -1, 2147483647L, -1, 0, -1},
            row};
        for (int from = 0; from < 4; from++) {
            Runs.at(7, "cut to its sort: from sort " + from);
            Runs.fill(0, from, row);
            for (int to = 0; to < 4; to++) {
                Runs.does("sheet(1, " + to + ", 15)");
                Runs.gives("copy(0, 0, 1, 0, 15)", 1);
                all(1, due[Math.min(from, to)]);
            }
            all(0, due[from]);
        }
        Runs.at(7, "cut to its sort: only what is copied");
        Runs.fill(0, 3, 1000, 2000, 3000);
        Runs.does("sheet(1, 1, 3)", "write(1, 0, 500)", "write(1, 2, 700)");
        Runs.gives("copy(0, 1, 1, 1, 1)", 1);
        all(1, 500, 2000, 700);
    }

    private static void copyStays() {
        Runs.at(7, "numbers come, and are of the other SHEET from then on");
        Runs.fill(0, 0, 1, 2);
        Runs.fill(1, 0, 3, 4);
        Runs.gives("copy(0, 0, 1, 0, 2)", 1);
        Runs.does("write(0, 0, 9)");
        all(1, 1, 2);
        Runs.does("write(1, 1, 8)");
        all(0, 9, 2);
        Runs.does("drop(0)");
        all(1, 1, 8);
    }

    // ---- promise 8

    private static void none() {
        Runs.at(8, "an act that is none is done: false, STATUS 8");
        Runs.refuses("none()", 8);
        Runs.status(8);
        Runs.does("machine(5, 1)", "machine(6, 1)", "up(0, false)", "ask(3, 4, 8)", "ask(2, 5, 6)", "apart(0, 1, true)");
        Runs.does("batch(3, 2, 9, 2)", "sheet(1, 1, 12)", "write(1, 4, 6)", "wanted(1)", "have(2)", "type(3, 1, 1, 4)");
        Runs.refuses("none()", 8);
        Runs.refuses("none()", 8);
        Runs.status(8);
    }
}
