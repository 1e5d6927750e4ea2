/** Machines and asks (promises 9 to 18, Terms 1, 2 and 6): each sentence that names a bound, by the calls around it. */
public final class HallBoundsTest {
    private static final String[] NO_HOUR = {"-1", "24", "25", "min", "max"};
    private static final String[] NO_FALL = {"-1", "17", "18", "min", "max"};

    public static void main(String[] args) {
        machineBounds();
        machineMost();
        upBounds();
        upAndStanding();
        askBounds();
        askHours();
        askMost();
        apartBounds();
        apartAlready();
        count();
        hourAndFall("fits", 14);
        hourAndFall("lack", 16);
        hourAndFall("left", 17);
        falls();
        fallsOfNone();
        fitsNeeds();
        fitsApart();
        fitsStanding();
        fitsMost();
        onRefused();
        onGreatestSet();
        onBehind();
        onStanding();
        lack();
        left();
        enoughDepths();
        enoughFirst();
        Runs.end("HallBoundsTest");
    }

    private static void machines(int... sizes) {
        for (int size : sizes) {
            Runs.does("machine(" + size + ", 0)");
        }
    }

    private static void asks(int first, int last, int... needs) {
        for (int need : needs) {
            Runs.does("ask(" + need + ", " + first + ", " + last + ")");
        }
    }

    // ---- promise 9

    private static void machineBounds() {
        Runs.at(9, "SIZE 1 to 100");
        for (String size : new String[] {"0", "-1", "101", "102", "min", "max"}) {
            Runs.refuses("machine(" + size + ", 0)", 1);
        }
        Runs.gives("machine(1, 0)", 0);
        Runs.gives("count(4)", 1);
        Runs.gives("machine(100, 0)", 1);
        Runs.gives("count(4)", 101);
        Runs.refuses("machine(0, 3)", 1);
        Runs.refuses("machine(101, 3)", 1);
        Runs.at(9, "ROOM 0 to 3");
        for (String room : new String[] {"-1", "4", "5", "32", "min", "max"}) {
            Runs.refuses("machine(1, " + room + ")", 1);
        }
        for (int room = 0; room < 4; room++) {
            Runs.gives("machine(" + (room + 1) + ", " + room + ")", room);
        }
        for (int room = 0; room < 4; room++) {
            Runs.gives("left(0, " + (13 + room) + ")", 10 - (room + 1));
        }
    }

    private static void machineMost() {
        Runs.at(9, "MACHINES, at most 12, numbered as they come");
        for (int i = 0; i < 12; i++) {
            Runs.gives("count(0)", i);
            Runs.gives("machine(" + (i + 1) + ", " + i % 4 + ")", i);
        }
        Runs.refuses("machine(1, 0)", 4);
        Runs.refuses("machine(100, 3)", 4);
        Runs.gives("count(0)", 12);
        Runs.gives("count(4)", 78);
        Runs.at(9, "1 ahead of 4");
        machines(1, 2, 3, 4, 5, 6, 7, 8, 9, 10, 11, 12);
        Runs.refuses("machine(0, 0)", 1);
        Runs.refuses("machine(101, 0)", 1);
        Runs.refuses("machine(1, -1)", 1);
        Runs.refuses("machine(1, 4)", 1);
        Runs.at(9, "at most 12, also when some are not UP");
        machines(1, 2, 3, 4, 5, 6, 7, 8, 9, 10, 11, 12);
        Runs.does("up(0, false)", "up(11, false)");
        Runs.refuses("machine(1, 0)", 4);
        Runs.at(9, "a refused one takes no number");
        Runs.gives("machine(7, 0)", 0);
        Runs.refuses("machine(0, 0)", 1);
        Runs.gives("machine(8, 0)", 1);
        Runs.gives("left(0, 1)", 8);
        Runs.gives("left(0, 2)", 7);
    }

    // ---- promise 10

    private static void upBounds() {
        Runs.at(10, "1: no such MACHINE");
        for (int there = 0; there <= 12; there++) {
            for (String none : new String[] {"-1", "" + there, "12", "32", "min", "max"}) {
                Runs.refuses("up(" + none + ", false)", 1);
                Runs.refuses("up(" + none + ", true)", 1);
            }
            if (there < 12) {
                machines(there + 1);
            }
        }
        Runs.gives("up(0, false)", 1);
        Runs.gives("up(11, false)", 1);
        Runs.gives("count(4)", 78 - 13);
        Runs.at(10, "5: it is so already: UP at first");
        for (int m = 0; m < 12; m++) {
            machines(m + 1);
            Runs.refuses("up(" + m + ", true)", 5);
            Runs.gives("up(" + m + ", false)", 1);
            Runs.refuses("up(" + m + ", false)", 5);
            if (m % 2 == 0) {
                Runs.gives("up(" + m + ", true)", 1);
                Runs.refuses("up(" + m + ", true)", 5);
            }
        }
        Runs.gives("count(4)", 1 + 3 + 5 + 7 + 9 + 11);
    }

    private static void upAndStanding() {
        Runs.at(10, "STANDING are those that are UP");
        Runs.does("machine(7, 0)", "machine(5, 1)", "machine(3, 1)", "ask(5, 6, 6)");
        Runs.gives("up(0, false)", 1);
        Runs.gives("count(4)", 8);
        Runs.gives("left(6, 0)", 3);
        Runs.gives("left(6, 1)", 3);
        Runs.gives("left(6, 2)", 0);
        Runs.gives("fits(6, 2)", 0);
        Runs.gives("fits(6, 3)", 1);
        Runs.gives("fits(6, 13)", 1);
        Runs.gives("fits(6, 14)", 0);
        Runs.gives("on(6, 0, 0)", 1);
        Runs.gives("up(1, false)", 1);
        Runs.gives("fits(6, 0)", 0);
        Runs.gives("lack(6, 0)", 5);
        Runs.gives("left(5, 0)", 3);
        Runs.gives("up(2, false)", 1);
        Runs.gives("left(5, 0)", 0);
        Runs.gives("fits(5, 0)", 1);
        Runs.gives("up(0, true)", 1);
        Runs.gives("fits(6, 0)", 1);
        Runs.gives("on(6, 0, 0)", 0);
        Runs.gives("left(6, 0)", 2);
        Runs.gives("count(0)", 3);
    }

    // ---- promise 11

    private static void askBounds() {
        Runs.at(11, "NEED 1 to 100");
        for (String need : new String[] {"0", "-1", "101", "102", "min", "max"}) {
            Runs.refuses("ask(" + need + ", 0, 0)", 1);
        }
        Runs.gives("ask(1, 0, 0)", 0);
        Runs.gives("lack(0, 0)", 1);
        Runs.gives("ask(100, 0, 0)", 1);
        Runs.gives("lack(0, 0)", 101);
        Runs.refuses("ask(0, 0, 0)", 1);
        Runs.refuses("ask(101, 0, 0)", 1);
        Runs.at(11, "HOURS of a day (0 to 23)");
        for (String hour : NO_HOUR) {
            Runs.refuses("ask(1, " + hour + ", 23)", 1);
            Runs.refuses("ask(1, 0, " + hour + ")", 1);
            Runs.refuses("ask(1, " + hour + ", " + hour + ")", 1);
        }
        Runs.at(11, "from a first one to a last one");
        for (int first = 1; first < 24; first++) {
            Runs.refuses("ask(1, " + first + ", " + (first - 1) + ")", 1);
        }
        Runs.refuses("ask(1, 23, 0)", 1);
        Runs.gives("ask(1, 23, 23)", 0);
        Runs.gives("ask(1, 0, 23)", 1);
        Runs.gives("ask(1, 22, 23)", 2);
    }

    private static void askHours() {
        int[][] spans = {{0, 0}, {0, 23}, {23, 23}, {5, 5}, {5, 6}, {1, 22}};
        for (int[] span : spans) {
            Runs.at(11, "an ASK of the HOURS " + span[0] + " to " + span[1]);
            Runs.gives("ask(7, " + span[0] + ", " + span[1] + ")", 0);
            for (int hour = 0; hour < 24; hour++) {
                boolean of = span[0] <= hour && hour <= span[1];
                Runs.gives("lack(" + hour + ", 0)", of ? 7 : 0);
                Runs.gives("fits(" + hour + ", 0)", of ? 0 : 1);
                Runs.refuses("on(" + hour + ", 0, 0)", of ? 6 : 1);
            }
        }
    }

    private static void askMost() {
        Runs.at(11, "ASKS, at most 10, numbered as they come");
        for (int i = 0; i < 10; i++) {
            Runs.gives("count(1)", i);
            Runs.gives("ask(" + (i + 1) + ", " + i + ", " + (i + 5) + ")", i);
        }
        Runs.refuses("ask(1, 0, 0)", 4);
        Runs.refuses("ask(100, 0, 23)", 4);
        Runs.gives("count(1)", 10);
        Runs.at(11, "1 ahead of 4");
        asks(0, 23, 1, 2, 3, 4, 5, 6, 7, 8, 9, 10);
        Runs.refuses("ask(0, 0, 0)", 1);
        Runs.refuses("ask(101, 0, 0)", 1);
        Runs.refuses("ask(1, -1, 0)", 1);
        Runs.refuses("ask(1, 0, 24)", 1);
        Runs.refuses("ask(1, 1, 0)", 1);
        Runs.at(11, "a refused one takes no number");
        Runs.gives("ask(3, 0, 0)", 0);
        Runs.refuses("ask(0, 0, 0)", 1);
        Runs.gives("ask(4, 0, 0)", 1);
        Runs.gives("lack(0, 0)", 7);
    }

    // ---- promise 12

    private static void apartBounds() {
        Runs.at(12, "1: no such ASK");
        machines(5, 5, 5);
        for (int there = 0; there <= 10; there++) {
            for (String none : new String[] {"-1", "" + there, "10", "32", "min", "max"}) {
                Runs.refuses("apart(" + none + ", 0, true)", 1);
                Runs.refuses("apart(0, " + none + ", true)", 1);
                Runs.refuses("apart(" + none + ", " + none + ", false)", 1);
            }
            if (there < 10) {
                asks(there, there + 1, 1);
            }
        }
        Runs.gives("apart(0, 9, true)", 1);
        Runs.gives("apart(9, 8, true)", 1);
        Runs.at(12, "1: like ones, too, ahead of 5");
        machines(5, 5);
        asks(0, 0, 1, 1);
        for (int a = 0; a < 2; a++) {
            Runs.refuses("apart(" + a + ", " + a + ", true)", 1);
            Runs.refuses("apart(" + a + ", " + a + ", false)", 1);
        }
        Runs.at(12, "1 ahead of 5: no such ASK can not be apart already");
        machines(5, 5);
        asks(0, 0, 1, 1);
        Runs.refuses("apart(0, 2, false)", 1);
        Runs.refuses("apart(2, 1, false)", 1);
    }

    private static void apartAlready() {
        Runs.at(12, "5: it is so already");
        machines(5, 5);
        asks(0, 0, 1, 1, 1);
        Runs.refuses("apart(0, 1, false)", 5);
        Runs.refuses("apart(1, 0, false)", 5);
        Runs.gives("apart(0, 1, true)", 1);
        Runs.refuses("apart(0, 1, true)", 5);
        Runs.refuses("apart(1, 0, true)", 5);
        Runs.refuses("apart(0, 2, false)", 5);
        Runs.refuses("apart(2, 1, false)", 5);
        Runs.gives("apart(1, 0, false)", 1);
        Runs.refuses("apart(0, 1, false)", 5);
        Runs.refuses("apart(1, 0, false)", 5);
        Runs.gives("apart(2, 0, true)", 1);
        Runs.refuses("apart(0, 2, true)", 5);
        Runs.at(12, "each pair of ten is its own");
        asks(0, 0, 1, 1, 1, 1, 1, 1, 1, 1, 1, 1);
        for (int a = 0; a < 10; a++) {
            for (int b = a + 1; b < 10; b++) {
                Runs.gives((a + b) % 2 == 0 ? "apart(" + a + ", " + b + ", true)" : "apart(" + b + ", " + a + ", true)", 1);
            }
        }
        // all ten on one machine each
        machines(10, 10, 10, 10, 10, 10, 10, 10, 10);
        Runs.gives("fits(0, 0)", 0);
        Runs.gives("lack(0, 0)", 1);
        machines(10);
        Runs.gives("fits(0, 0)", 1);
    }

    // ---- promise 13

    private static void count() {
        Runs.at(13, "what 0 to 4 (1)");
        Runs.does("machine(3, 0)", "machine(100, 1)");
        for (String what : new String[] {"-1", "5", "6", "min", "max"}) {
            Runs.refuses("count(" + what + ")", 1);
        }
        int[] due = {2, 0, 0, 0, 103};
        for (int what = 0; what < 5; what++) {
            Runs.gives("count(" + what + ")", due[what]);
        }
        Runs.at(13, "none and the most of each");
        Runs.does("sheet(0, 0, 12)");
        for (int i = 0; i < 12; i++) {
            Runs.gives("count(0)", i);
            Runs.gives("count(4)", 100 * i);
            Runs.gives("count(1)", Math.min(10, i));
            Runs.gives("count(2)", Math.min(8, i));
            Runs.gives("count(3)", Math.min(4, i));
            Runs.does("machine(100, 0)");
            if (i < 10) {
                Runs.does("ask(1, 0, 0)");
            }
            if (i < 8) {
                Runs.does("batch(1, 0, 1, 1)");
            }
            if (i < 4) {
                Runs.does("type(1, 0, 0, 0)");
            }
        }
        int[] most = {12, 10, 8, 4, 1200};
        for (int what = 0; what < 5; what++) {
            Runs.gives("count(" + what + ")", most[what]);
        }
        Runs.at(13, "SIZES of all STANDING with no FALL, MACHINES also of those that are not UP");
        machines(1, 2, 4);
        Runs.does("up(1, false)");
        Runs.gives("count(4)", 5);
        Runs.gives("count(0)", 3);
        Runs.does("up(0, false)", "up(2, false)");
        Runs.gives("count(4)", 0);
        Runs.gives("count(0)", 3);
    }

    // ---- promises 14, 16, 17: an hour and a fall

    private static void hourAndFall(String call, int promise) {
        Runs.at(promise, "1: no such HOUR, no such FALL");
        Runs.does("machine(5, 0)", "machine(6, 3)", "ask(4, 0, 23)");
        for (String hour : NO_HOUR) {
            Runs.refuses(call + "(" + hour + ", 0)", 1);
        }
        for (String fall : NO_FALL) {
            Runs.refuses(call + "(0, " + fall + ")", 1);
            Runs.refuses(call + "(23, " + fall + ")", 1);
        }
        Runs.refuses(call + "(24, 17)", 1);
        for (int hour : new int[] {0, 23}) {
            for (int fall : new int[] {0, 1, 2, 3, 12, 13, 14, 15, 16}) {
                int left = 7 - (fall == 1 || fall == 13 ? 5 : 0) - (fall == 2 || fall == 16 ? 6 : 0);
                Runs.gives(call + "(" + hour + ", " + fall + ")", promise == 14 ? 1 : promise == 16 ? 0 : left);
            }
        }
    }

    private static void falls() {
        Runs.at(14, "A FALL: 1 to 12: MACHINE 0 to 11; 13 to 16: ROOM 0 to 3, all its MACHINES");
        int[] rooms = {0, 1, 2, 3, 3, 2, 1, 0, 0, 2, 2, 3};
        int[] inRoom = new int[4];
        for (int m = 0; m < 12; m++) {
            Runs.does("machine(" + (m + 1) + ", " + rooms[m] + ")");
            inRoom[rooms[m]] += m + 1;
        }
        Runs.gives("left(0, 0)", 78);
        for (int m = 0; m < 12; m++) {
            Runs.gives("left(0, " + (m + 1) + ")", 78 - (m + 1));
        }
        for (int room = 0; room < 4; room++) {
            Runs.gives("left(0, " + (13 + room) + ")", 78 - inRoom[room]);
        }
        for (int m = 0; m < 12; m++) {
            Runs.at(14, "a FALL takes MACHINE " + m + " and no other");
            for (int other = 0; other < 12; other++) {
                Runs.does("machine(" + (other == m ? 2 : 1) + ", " + other % 4 + ")");
            }
            Runs.does("ask(2, 0, 0)");
            for (int fall = 0; fall <= 16; fall++) {
                Runs.gives("fits(0, " + fall + ")", fall == m + 1 || fall == 13 + m % 4 ? 0 : 1);
            }
        }
    }

    private static void fallsOfNone() {
        Runs.at(14, "a FALL also of none that is there");
        for (int fall = 0; fall <= 16; fall++) {
            Runs.gives("fits(0, " + fall + ")", 1);
            Runs.gives("lack(0, " + fall + ")", 0);
            Runs.gives("left(0, " + fall + ")", 0);
            Runs.gives("rest(" + fall + ")", 0);
        }
        Runs.does("machine(9, 2)", "ask(9, 0, 0)");
        for (int fall = 0; fall <= 16; fall++) {
            boolean gone = fall == 1 || fall == 15;
            Runs.gives("fits(0, " + fall + ")", gone ? 0 : 1);
            Runs.gives("lack(0, " + fall + ")", gone ? 9 : 0);
            Runs.gives("left(1, " + fall + ")", gone ? 0 : 9);
        }
        Runs.at(14, "a FALL of a MACHINE that is not UP");
        Runs.does("machine(9, 2)", "machine(4, 1)", "ask(4, 0, 0)", "up(0, false)");
        for (int fall = 0; fall <= 16; fall++) {
            Runs.gives("fits(0, " + fall + ")", fall == 2 || fall == 14 ? 0 : 1);
        }
        Runs.at(14, "a FALL of a MACHINE that comes later");
        Runs.does("machine(3, 0)", "ask(5, 0, 0)");
        Runs.gives("fits(0, 2)", 0);
        Runs.gives("left(1, 2)", 3);
        Runs.does("machine(5, 1)");
        Runs.gives("fits(0, 2)", 0);
        Runs.gives("fits(0, 0)", 1);
        Runs.gives("left(1, 2)", 3);
        Runs.gives("left(1, 14)", 3);
        Runs.gives("left(1, 0)", 8);
    }

    // ---- promise 14

    private static void fitsNeeds() {
        Runs.at(14, "on each NEEDS together are at most its SIZE");
        machines(10);
        asks(0, 0, 10);
        asks(1, 1, 11);
        asks(2, 2, 4, 6);
        asks(3, 3, 4, 7);
        asks(4, 4, 1, 2, 7);
        int[] due = {1, 0, 1, 0, 1, 1};
        for (int hour = 0; hour < 6; hour++) {
            Runs.gives("fits(" + hour + ", 0)", due[hour]);
        }
        Runs.at(14, "each can be put on a MACHINE whole");
        machines(5, 5);
        asks(0, 0, 6);
        asks(1, 1, 4, 4, 2);
        asks(2, 2, 5, 5);
        asks(3, 3, 3, 3, 2, 2);
        int[] whole = {0, 0, 1, 1};
        for (int hour = 0; hour < 4; hour++) {
            Runs.gives("fits(" + hour + ", 0)", whole[hour]);
        }
        Runs.at(14, "the greatest and the least of SIZE and NEED");
        machines(100);
        asks(0, 0, 100);
        asks(1, 1, 99, 1);
        asks(2, 2, 100, 1);
        Runs.gives("fits(0, 0)", 1);
        Runs.gives("fits(1, 0)", 1);
        Runs.gives("fits(2, 0)", 0);
        machines(1);
        Runs.gives("fits(2, 0)", 1);
        Runs.at(14, "an HOUR with no ASK, with and without MACHINES");
        asks(1, 1, 1);
        Runs.gives("fits(0, 0)", 1);
        Runs.gives("fits(1, 0)", 0);
        Runs.gives("fits(2, 0)", 1);
        machines(1);
        Runs.gives("fits(0, 1)", 1);
        Runs.gives("fits(1, 0)", 1);
        Runs.gives("fits(1, 1)", 0);
    }

    private static void fitsApart() {
        Runs.at(14, "no two that are APART on one");
        machines(10);
        asks(0, 0, 1);
        asks(0, 1, 1);
        asks(1, 2, 1);
        Runs.does("apart(0, 1, true)");
        Runs.gives("fits(0, 0)", 0);
        Runs.gives("fits(1, 0)", 1);
        Runs.does("apart(1, 2, true)");
        Runs.gives("fits(1, 0)", 0);
        Runs.gives("fits(2, 0)", 1);
        machines(1);
        Runs.gives("fits(0, 0)", 1);
        Runs.gives("fits(1, 0)", 1);
        Runs.gives("fits(1, 1)", 0);
        Runs.does("apart(1, 2, false)");
        Runs.gives("fits(1, 2)", 1);
        Runs.at(14, "APART with one that is not of the HOUR");
        machines(10);
        asks(0, 0, 1, 1);
        asks(1, 1, 1);
        Runs.does("apart(0, 2, true)", "apart(1, 2, true)");
        Runs.gives("fits(0, 0)", 1);
        Runs.gives("fits(1, 0)", 1);
        Runs.at(14, "three APART of one another need three, two pairs need two");
        machines(10, 10);
        asks(0, 0, 1, 1, 1);
        Runs.does("apart(0, 1, true)", "apart(1, 2, true)");
        Runs.gives("fits(0, 0)", 1);
        Runs.does("apart(0, 2, true)");
        Runs.gives("fits(0, 0)", 0);
        machines(1);
        Runs.gives("fits(0, 0)", 1);
    }

    private static void fitsStanding() {
        Runs.at(14, "a MACHINE that is STANDING: UP and not in the FALL");
        Runs.does("machine(5, 1)", "machine(5, 2)", "ask(5, 0, 0)");
        int[][] due = {{1, 1, 1, 1, 1, 1}, {1, 1, 0, 1, 0, 1}, {0, 0, 0, 0, 0, 0}, {1, 0, 1, 0, 1, 1}};
        int[] falls = {0, 1, 2, 14, 15, 16};
        String[] then = {"up(0, false)", "up(1, false)", "up(0, true)"};
        for (int i = 0; i < 4; i++) {
            for (int j = 0; j < 6; j++) {
                Runs.gives("fits(0, " + falls[j] + ")", i == 3 ? up0(falls[j]) : due[i][j]);
            }
            if (i < 3) {
                Runs.does(then[i]);
            }
        }
    }

    /** Only machine 0, of room 1, is up. */
    private static int up0(int fall) {
        return fall == 1 || fall == 14 ? 0 : 1;
    }

    private static void fitsMost() {
        Runs.at(14, "ten ASKS on twelve MACHINES, each its own");
        for (int m = 0; m < 12; m++) {
            Runs.does("machine(" + (m < 2 ? 1 : 91 + m - 2) + ", " + m % 4 + ")");
        }
        for (int a = 0; a < 10; a++) {
            Runs.does("ask(" + (100 - a) + ", 0, 23)");
        }
        Runs.gives("fits(0, 0)", 1);
        Runs.gives("fits(23, 1)", 1);
        Runs.gives("fits(23, 2)", 1);
        for (int fall = 3; fall <= 16; fall++) {
            Runs.gives("fits(7, " + fall + ")", 0);
        }
        for (int a = 0; a < 10; a++) {
            Runs.gives("on(12, 0, " + a + ")", 11 - a);
        }
        // MACHINE 2 (91) gone: only ASK 9 (91) lacks, or one by which all others go on larger ones
        Runs.gives("lack(0, 3)", 91);
        Runs.gives("lack(0, 12)", 100);
        Runs.gives("left(0, 0)", 2);
        Runs.gives("left(0, 1)", 1);
        Runs.gives("left(0, 3)", 0);
    }

    // ---- promise 15

    private static void onRefused() {
        Runs.at(15, "1: no such HOUR, FALL or ASK");
        Runs.does("machine(5, 0)", "ask(4, 0, 23)", "ask(1, 7, 9)");
        for (String hour : NO_HOUR) {
            Runs.refuses("on(" + hour + ", 0, 0)", 1);
        }
        for (String fall : NO_FALL) {
            Runs.refuses("on(0, " + fall + ", 0)", 1);
        }
        for (String ask : new String[] {"-1", "2", "3", "10", "32", "33", "min", "max"}) {
            Runs.refuses("on(8, 0, " + ask + ")", 1);
        }
        Runs.gives("on(0, 0, 0)", 0);
        Runs.gives("on(23, 16, 0)", 0);
        Runs.gives("on(0, 12, 0)", 0);
        Runs.at(15, "1: also of one that is not of the HOUR");
        Runs.does("machine(5, 0)", "ask(4, 0, 23)", "ask(1, 7, 9)");
        Runs.refuses("on(6, 0, 1)", 1);
        Runs.gives("on(7, 0, 1)", 0);
        Runs.gives("on(9, 0, 1)", 0);
        Runs.refuses("on(10, 0, 1)", 1);
        Runs.at(15, "6: it does not FIT");
        Runs.does("machine(5, 0)", "machine(2, 1)", "ask(5, 3, 3)", "ask(1, 3, 3)", "ask(2, 3, 4)");
        Runs.refuses("on(3, 0, 0)", 6);
        Runs.refuses("on(3, 0, 2)", 6);
        Runs.gives("on(4, 0, 2)", 0);
        Runs.gives("on(4, 1, 2)", 1);
        Runs.gives("on(4, 13, 2)", 1);
        Runs.gives("on(4, 14, 2)", 0);
        Runs.does("up(0, false)", "up(1, false)");
        Runs.refuses("on(4, 0, 2)", 6);
        Runs.at(15, "1 ahead of 6");
        Runs.does("ask(5, 3, 3)", "ask(5, 4, 4)");
        Runs.refuses("on(3, 0, 0)", 6);
        Runs.refuses("on(3, 0, 1)", 1);
        Runs.refuses("on(3, 0, 2)", 1);
        Runs.refuses("on(3, 17, 0)", 1);
        Runs.refuses("on(24, 0, 0)", 1);
        Runs.at(15, "1: no ASK there");
        Runs.refuses("on(0, 0, 0)", 1);
    }

    private static void onAll(int hour, int fall, int... due) {
        for (int ask = 0; ask < due.length; ask++) {
            if (due[ask] >= 0) {
                Runs.gives("on(" + hour + ", " + fall + ", " + ask + ")", due[ask]);
            }
        }
    }

    private static void onGreatestSet() {
        Runs.at(15, "the greatest SET: 1 for ASK 0, 2 for ASK 1, 4 for ASK 2");
        machines(2, 2);
        asks(0, 0, 1, 1, 2);
        // {2} is 4, {0, 1} is 3
        onAll(0, 0, 1, 1, 0);
        Runs.at(15, "the greatest SET: of two like ones the later");
        machines(5, 5);
        asks(0, 0, 5, 5);
        onAll(0, 0, 1, 0);
        Runs.at(15, "the greatest SET: as many as go beside the greatest");
        machines(6, 6);
        asks(0, 0, 1, 2, 3, 4);
        // {3, 1} is 10, {3, 0} is 9, {2, 1, 0} is 7
        onAll(0, 0, 1, 0, 1, 0);
        Runs.at(15, "the greatest SET: all, also of ten");
        machines(10, 100);
        asks(5, 5, 1, 1, 1, 1, 1, 1, 1, 1, 1, 1);
        onAll(5, 0, 0, 0, 0, 0, 0, 0, 0, 0, 0, 0);
        Runs.does("apart(9, 0, true)");
        onAll(5, 0, 1, 0, 0, 0, 0, 0, 0, 0, 0, 0);
        Runs.does("apart(0, 9, false)", "apart(9, 8, true)");
        onAll(5, 0, 0, 0, 0, 0, 0, 0, 0, 0, 1, 0);
        Runs.at(15, "the greatest SET: MACHINE by MACHINE, by number");
        machines(1, 2, 3);
        asks(0, 0, 1, 1, 1, 1, 1, 1);
        onAll(0, 0, 2, 2, 2, 1, 1, 0);
    }

    private static void onBehind() {
        Runs.at(15, "with which the others can be put on those behind");
        machines(10, 6);
        asks(0, 0, 6, 5, 5);
        // {2, 1} leaves 6 for 6; {2, 0} would be 11
        onAll(0, 0, 1, 0, 0);
        Runs.at(15, "those behind can be none: then all are on it");
        machines(10, 9);
        asks(0, 0, 4, 6);
        onAll(0, 2, 0, 0);
        onAll(0, 0, 0, 0);
        Runs.at(15, "the others can not be put on those ahead");
        machines(9, 10);
        asks(0, 0, 10, 9);
        onAll(0, 0, 1, 0);
        Runs.at(15, "with which the others can be put: APART, too");
        machines(10, 10);
        asks(0, 0, 1, 1, 1);
        Runs.does("apart(0, 1, true)");
        // {2, 1} leaves 0
        onAll(0, 0, 1, 0, 0);
        Runs.does("apart(2, 0, true)");
        onAll(0, 0, 1, 0, 0);
        Runs.does("apart(0, 1, false)");
        // {2, 1}; 0 can't be with 2
        onAll(0, 0, 1, 0, 0);
        Runs.does("apart(2, 1, true)");
        onAll(0, 0, 1, 1, 0);
        Runs.at(15, "a MACHINE can have none: its SIZE is too small, or it would leave too little");
        machines(3, 4);
        asks(0, 0, 4);
        onAll(0, 0, 1);
        asks(0, 0, 3);
        onAll(0, 0, 1, 0);
    }

    private static void onStanding() {
        Runs.at(15, "only on MACHINES that are STANDING");
        Runs.does("machine(5, 0)", "machine(5, 1)", "machine(5, 0)", "ask(3, 0, 0)");
        int[] due = {0, 1, 0, 0, 0, 0, 0, 0, 0, 0, 0, 0, 0, 1, 0, 0, 0};
        for (int fall = 0; fall <= 16; fall++) {
            Runs.gives("on(0, " + fall + ", 0)", due[fall]);
        }
        Runs.does("up(1, false)");
        Runs.gives("on(0, 0, 0)", 0);
        Runs.gives("on(0, 1, 0)", 2);
        Runs.refuses("on(0, 13, 0)", 6);
        Runs.gives("on(0, 14, 0)", 0);
        Runs.at(15, "on the last MACHINE of twelve");
        machines(1, 1, 1, 1, 1, 1, 1, 1, 1, 1, 1, 2);
        asks(23, 23, 2);
        Runs.gives("on(23, 0, 0)", 11);
        Runs.refuses("on(23, 12, 0)", 6);
        Runs.gives("on(23, 11, 0)", 11);
    }

    // ---- promise 16

    private static void lack() {
        Runs.at(16, "LACK: none where it FITS, or nothing is asked");
        machines(5);
        asks(1, 1, 5);
        Runs.gives("lack(0, 0)", 0);
        Runs.gives("lack(0, 1)", 0);
        Runs.gives("lack(1, 0)", 0);
        Runs.at(16, "LACK: all where none can be HELD");
        asks(0, 0, 100, 100, 100, 100, 100, 100, 100, 100, 100, 100);
        Runs.gives("lack(0, 0)", 1000);
        machines(99);
        Runs.gives("lack(0, 0)", 1000);
        machines(100);
        Runs.gives("lack(0, 0)", 900);
        Runs.gives("lack(0, 2)", 1000);
        Runs.gives("lack(0, 1)", 900);
        Runs.gives("lack(0, 13)", 1000);
        Runs.gives("lack(0, 14)", 900);
        Runs.at(16, "LACK: the most that a SET has together, not the most ASKS");
        machines(10);
        asks(0, 0, 10, 1, 1, 1);
        Runs.gives("lack(0, 0)", 3);
        asks(1, 1, 9, 5, 4, 2);
        // 9 of {5, 4} or {9}: 20 less 9
        Runs.gives("lack(1, 0)", 11);
        asks(2, 2, 8, 2);
        Runs.gives("lack(2, 0)", 0);
        Runs.at(16, "LACK: no two that are APART");
        machines(10);
        asks(0, 0, 5, 5, 3);
        Runs.gives("lack(0, 0)", 3);
        Runs.does("apart(0, 1, true)");
        Runs.gives("lack(0, 0)", 5);
        Runs.does("apart(0, 2, true)");
        Runs.gives("lack(0, 0)", 5);
        Runs.does("apart(1, 2, true)");
        Runs.gives("lack(0, 0)", 8);
        Runs.at(16, "LACK: of an HOUR, only its own ASKS");
        machines(5);
        asks(0, 1, 4);
        asks(1, 2, 3);
        int[] due = {0, 3, 0, 0};
        for (int hour = 0; hour < 4; hour++) {
            Runs.gives("lack(" + hour + ", 0)", due[hour]);
        }
    }

    // ---- promise 17

    private static void left() {
        Runs.at(17, "LEFT: the SIZES of all STANDING together, less the NEEDS");
        Runs.does("machine(10, 0)", "machine(6, 1)", "machine(4, 1)", "ask(6, 0, 0)", "ask(4, 0, 1)");
        Runs.gives("left(0, 0)", 10);
        Runs.gives("left(1, 0)", 16);
        Runs.gives("left(2, 0)", 20);
        Runs.gives("left(0, 1)", 0);
        Runs.gives("left(1, 1)", 6);
        Runs.gives("left(0, 14)", 0);
        Runs.gives("left(1, 14)", 6);
        Runs.gives("left(2, 14)", 10);
        Runs.gives("left(2, 16)", 20);
        Runs.does("up(2, false)");
        Runs.gives("left(2, 0)", 16);
        Runs.gives("left(2, 3)", 16);
        Runs.at(17, "0 if it does not FIT, though the SIZES are enough");
        machines(5, 5);
        asks(0, 0, 6);
        asks(1, 1, 5);
        asks(1, 2, 1);
        Runs.gives("left(0, 0)", 0);
        Runs.gives("left(1, 0)", 4);
        Runs.gives("left(1, 1)", 0);
        Runs.gives("left(2, 1)", 4);
        Runs.does("ask(1, 2, 2)", "apart(1, 2, true)", "apart(2, 3, true)");
        Runs.gives("left(1, 0)", 4);
        Runs.gives("left(2, 0)", 8);
        Runs.gives("left(2, 1)", 0);
        Runs.at(17, "0 with nothing, the most with all");
        Runs.gives("left(0, 0)", 0);
        for (int i = 0; i < 12; i++) {
            Runs.does("machine(100, 3)");
        }
        Runs.gives("left(0, 0)", 1200);
        Runs.gives("left(0, 1)", 1100);
        Runs.gives("left(0, 16)", 0);
        Runs.gives("left(0, 13)", 1200);
        asks(0, 0, 100, 100, 100, 100, 100, 100, 100, 100, 100, 100);
        Runs.gives("left(0, 0)", 200);
        Runs.gives("left(0, 12)", 100);
    }

    // ---- promise 18

    private static void enoughDepths() {
        Runs.at(18, "a depth (0 to 2; 1)");
        Runs.does("machine(5, 2)", "ask(5, 3, 3)");
        for (String depth : new String[] {"-1", "3", "4", "min", "max"}) {
            Runs.refuses("enough(" + depth + ")", 1);
        }
        Runs.gives("enough(0)", -2);
        Runs.gives("enough(1)", 301);
        Runs.gives("enough(2)", 301);
        Runs.at(18, "depth 0: none alone; 1: none, then each MACHINE there is; 2: these, then each ROOM");
        Runs.does("machine(5, 2)", "machine(5, 2)", "ask(5, 3, 3)");
        Runs.gives("enough(0)", -2);
        Runs.gives("enough(1)", -2);
        Runs.gives("enough(2)", 315);
        Runs.does("machine(5, 0)");
        Runs.gives("enough(2)", -2);
        Runs.does("ask(5, 3, 3)");
        Runs.gives("enough(1)", -2);
        Runs.gives("enough(2)", 315);
        Runs.does("ask(5, 4, 23)", "ask(5, 4, 4)", "ask(5, 4, 4)");
        Runs.gives("enough(0)", -2);
        Runs.gives("enough(1)", 401);
        Runs.gives("enough(2)", 315);
        Runs.does("ask(1, 23, 23)", "ask(100, 22, 22)");
        Runs.gives("enough(0)", 2200);
        Runs.gives("enough(1)", 401);
        Runs.at(18, "it is enough: -2, with nothing and with no ASK");
        for (int depth = 0; depth < 3; depth++) {
            Runs.gives("enough(" + depth + ")", -2);
        }
        Runs.does("machine(1, 0)");
        for (int depth = 0; depth < 3; depth++) {
            Runs.gives("enough(" + depth + ")", -2);
        }
        Runs.at(18, "no MACHINE is there: none, ahead of each ROOM");
        Runs.does("ask(1, 5, 5)");
        for (int depth = 0; depth < 3; depth++) {
            Runs.gives("enough(" + depth + ")", 500);
        }
    }

    private static void enoughFirst() {
        Runs.at(18, "the first by HOURS, then by FALLS: HOUR 0 with FALL 0 is 0");
        Runs.does("machine(5, 0)", "ask(6, 0, 0)");
        for (int depth = 0; depth < 3; depth++) {
            Runs.gives("enough(" + depth + ")", 0);
        }
        for (int m = 0; m < 12; m++) {
            Runs.at(18, "the first by HOURS, then by FALLS: each MACHINE, in the last HOUR");
            for (int other = 0; other < 12; other++) {
                Runs.does("machine(" + (other == m ? 9 : 8) + ", " + (11 - other) / 3 + ")");
            }
            Runs.does("ask(9, 23, 23)");
            Runs.gives("enough(0)", -2);
            Runs.gives("enough(1)", 2301 + m);
            Runs.gives("enough(2)", 2301 + m);
        }
        for (int room = 0; room < 4; room++) {
            Runs.at(18, "the first by HOURS, then by FALLS: each ROOM, in the last HOUR");
            for (int m = 0; m < 12; m++) {
                Runs.does("machine(" + (m % 4 == room ? 2 : 1) + ", " + m % 4 + ")");
            }
            Runs.does("ask(2, 23, 23)");
            Runs.gives("enough(1)", -2);
            Runs.gives("enough(2)", 2313 + room);
        }
        Runs.at(18, "the first by HOURS, then by FALLS: an HOUR ahead with a later FALL");
        Runs.does("machine(5, 0)", "machine(6, 0)", "machine(5, 0)", "ask(5, 9, 9)", "ask(6, 8, 8)", "ask(1, 7, 7)");
        Runs.does("ask(7, 10, 10)");
        Runs.gives("enough(0)", 1000);
        Runs.gives("enough(1)", 802);
        Runs.gives("enough(2)", 713);
        Runs.at(18, "the first by HOURS, then by FALLS: HOUR 0 with the last FALL ahead of HOUR 1 with none");
        Runs.does("machine(5, 3)", "machine(5, 3)", "machine(1, 0)", "ask(5, 0, 0)", "ask(100, 1, 1)");
        Runs.gives("enough(0)", 100);
        Runs.gives("enough(1)", 100);
        Runs.gives("enough(2)", 16);
        Runs.at(18, "the first by HOURS, then by FALLS: of two in one HOUR");
        Runs.does("machine(5, 1)", "machine(5, 0)", "ask(5, 2, 2)", "ask(5, 2, 2)");
        Runs.gives("enough(1)", 201);
        Runs.gives("enough(2)", 201);
        Runs.does("up(0, false)");
        Runs.gives("enough(2)", 200);
    }
}
