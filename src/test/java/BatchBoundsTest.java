/** Batches (promises 19 to 21, Terms 3 and 6): each sentence that names a bound, by the calls around it. */
public final class BatchBoundsTest {
    private static final String[] NO_FALL = {"-1", "17", "18", "min", "max"};

    public static void main(String[] args) {
        batchNumbers();
        batchHours();
        batchMost();
        restFalls();
        restWork();
        restMost();
        restHours();
        restLeft();
        restMany();
        restChanges();
        partNumbers();
        partImpossible();
        partHours();
        partGreatest();
        partWhatFollows();
        partFalls();
        partMost();
        Runs.end("BatchBoundsTest");
    }

    // ---- promise 19

    private static void batchNumbers() {
        Runs.at(19, "WORK (1 to 10,000)");
        for (String work : new String[] {"0", "-1", "10001", "10002", "min", "max"}) {
            Runs.refuses("batch(" + work + ", 0, 24, 1)", 1);
        }
        Runs.gives("batch(1, 0, 24, 1)", 0);
        Runs.gives("rest(0)", 1);
        Runs.gives("batch(10000, 0, 24, 1)", 1);
        Runs.gives("rest(0)", 10001);
        Runs.refuses("batch(10001, 0, 24, 1)", 1);
        Runs.at(19, "a MOST of it in any HOUR (1 to 1,000)");
        for (String most : new String[] {"0", "-1", "1001", "1002", "min", "max"}) {
            Runs.refuses("batch(1, 0, 24, " + most + ")", 1);
        }
        Runs.gives("batch(2, 0, 1, 1)", 0);
        Runs.gives("batch(3, 0, 1, 1000)", 1);
        Runs.does("machine(100, 0)");
        Runs.gives("rest(0)", 1);
    }

    private static void batchHours() {
        Runs.at(19, "from an HOUR");
        for (String from : new String[] {"-1", "24", "25", "min", "max"}) {
            Runs.refuses("batch(1, " + from + ", 24, 1)", 1);
            Runs.refuses("batch(1, " + from + ", 25, 1)", 1);
        }
        Runs.at(19, "ahead of a DUE (1 to 24)");
        for (String due : new String[] {"0", "-1", "25", "26", "min", "max"}) {
            Runs.refuses("batch(1, 0, " + due + ", 1)", 1);
            Runs.refuses("batch(1, 23, " + due + ", 1)", 1);
            Runs.refuses("batch(1, 24, " + due + ", 1)", 1);
        }
        Runs.gives("batch(1, 0, 1, 1)", 0);
        Runs.gives("batch(1, 0, 24, 1)", 1);
        Runs.gives("batch(1, 23, 24, 1)", 2);
        Runs.at(19, "a DUE above that HOUR");
        for (int from = 0; from < 24; from++) {
            Runs.refuses("batch(1, " + from + ", " + from + ", 1)", 1);
            Runs.refuses("batch(1, " + from + ", " + (from - 1) + ", 1)", 1);
        }
        for (int from = 0; from < 24; from++) {
            if (from % 8 == 0) {
                Runs.at(19, "a DUE above that HOUR: the next one");
            }
            Runs.gives("batch(1, " + from + ", " + (from + 1) + ", 1)", from % 8);
        }
    }

    private static void batchMost() {
        Runs.at(19, "BATCHES, at most 8, numbered as they come");
        for (int i = 0; i < 8; i++) {
            Runs.gives("count(2)", i);
            Runs.gives("batch(" + (i + 1) + ", " + i + ", " + (i + 2) + ", 3)", i);
        }
        Runs.refuses("batch(1, 0, 1, 1)", 4);
        Runs.refuses("batch(10000, 23, 24, 1000)", 4);
        Runs.gives("count(2)", 8);
        Runs.gives("rest(0)", 36);
        Runs.at(19, "1 ahead of 4");
        for (int i = 0; i < 8; i++) {
            Runs.does("batch(1, 0, 1, 1)");
        }
        Runs.refuses("batch(0, 0, 1, 1)", 1);
        Runs.refuses("batch(10001, 0, 1, 1)", 1);
        Runs.refuses("batch(1, -1, 1, 1)", 1);
        Runs.refuses("batch(1, 24, 25, 1)", 1);
        Runs.refuses("batch(1, 1, 1, 1)", 1);
        Runs.refuses("batch(1, 0, 25, 1)", 1);
        Runs.refuses("batch(1, 0, 1, 0)", 1);
        Runs.refuses("batch(1, 0, 1, 1001)", 1);
        Runs.at(19, "a refused one takes no number");
        Runs.gives("batch(3, 0, 1, 1)", 0);
        Runs.refuses("batch(0, 0, 1, 1)", 1);
        Runs.gives("batch(4, 0, 1, 1)", 1);
        Runs.gives("rest(0)", 7);
    }

    // ---- promise 20

    private static void restFalls() {
        Runs.at(20, "1: no such FALL");
        Runs.does("machine(5, 1)", "machine(7, 2)", "batch(20, 0, 24, 12)");
        for (String fall : NO_FALL) {
            Runs.refuses("rest(" + fall + ")", 1);
        }
        Runs.does("batch(268, 0, 24, 12)");
        for (int fall = 0; fall <= 16; fall++) {
            int gone = fall == 1 || fall == 14 ? 24 * 5 : fall == 2 || fall == 15 ? 24 * 7 : 0;
            Runs.gives("rest(" + fall + ")", gone);
        }
        Runs.at(20, "0 if all can: also with no BATCH");
        for (int fall = 0; fall <= 16; fall++) {
            Runs.gives("rest(" + fall + ")", 0);
        }
        Runs.does("machine(5, 1)");
        Runs.gives("rest(0)", 0);
    }

    private static void restWork() {
        Runs.at(20, "all WORK, less the most that parts can have: one fewer, as many, one more");
        Runs.does("machine(10, 0)", "batch(9, 4, 5, 1000)");
        Runs.gives("rest(0)", 0);
        Runs.does("batch(1, 4, 5, 1000)");
        Runs.gives("rest(0)", 0);
        Runs.does("batch(1, 4, 5, 1000)");
        Runs.gives("rest(0)", 1);
        Runs.does("batch(10000, 4, 5, 1000)");
        Runs.gives("rest(0)", 10001);
        Runs.at(20, "those of a BATCH at most its WORK");
        Runs.does("machine(10, 0)", "batch(3, 4, 5, 1000)", "batch(3, 5, 6, 1000)", "batch(11, 7, 8, 1000)");
        Runs.gives("rest(0)", 1);
    }

    private static void restMost() {
        Runs.at(20, "each part at most its MOST");
        Runs.does("machine(100, 0)", "batch(20, 4, 6, 10)");
        Runs.gives("rest(0)", 0);
        Runs.does("batch(21, 4, 6, 10)");
        Runs.gives("rest(0)", 1);
        Runs.does("batch(24, 0, 24, 1)");
        Runs.gives("rest(0)", 1);
        Runs.does("batch(25, 0, 24, 1)");
        Runs.gives("rest(0)", 2);
        Runs.at(20, "the greatest MOST and WORK");
        for (int i = 0; i < 12; i++) {
            Runs.does("machine(100, 0)");
        }
        Runs.does("batch(10000, 0, 10, 1000)");
        Runs.gives("rest(0)", 0);
        Runs.does("batch(10000, 10, 19, 1000)");
        Runs.gives("rest(0)", 1000);
        Runs.does("batch(10000, 19, 24, 1000)");
        Runs.gives("rest(0)", 6000);
    }

    private static void restHours() {
        Runs.at(20, "each HOUR from its own ahead of its DUE");
        Runs.does("machine(10, 0)", "ask(10, 5, 7)", "batch(10, 5, 8, 10)");
        Runs.gives("rest(0)", 10);
        Runs.does("batch(10, 4, 8, 10)");
        Runs.gives("rest(0)", 10);
        Runs.does("batch(10, 5, 9, 10)");
        Runs.gives("rest(0)", 10);
        Runs.does("batch(1, 7, 8, 1)");
        Runs.gives("rest(0)", 11);
        for (int hour = 0; hour < 24; hour++) {
            Runs.at(20, "each HOUR from its own ahead of its DUE: only HOUR " + hour);
            Runs.does("machine(3, 0)");
            if (hour > 0) {
                Runs.does("ask(3, 0, " + (hour - 1) + ")");
            }
            if (hour < 23) {
                Runs.does("ask(3, " + (hour + 1) + ", 23)");
            }
            Runs.does("batch(3, " + hour + ", " + (hour + 1) + ", 3)");
            Runs.gives("rest(0)", 0);
            if (hour > 0) {
                Runs.does("batch(1, 0, " + hour + ", 1)");
                Runs.gives("rest(0)", 1);
            }
            if (hour < 23) {
                Runs.does("batch(1, " + (hour + 1) + ", 24, 1)");
                Runs.gives("rest(0)", hour > 0 ? 2 : 1);
            }
        }
    }

    private static void restLeft() {
        Runs.at(20, "all parts of an HOUR together at most its LEFT");
        Runs.does("machine(10, 0)", "machine(2, 1)", "ask(9, 3, 3)", "batch(2, 3, 4, 9)", "batch(1, 3, 4, 9)");
        Runs.gives("rest(0)", 0);
        Runs.does("batch(1, 3, 4, 9)");
        Runs.gives("rest(0)", 1);
        Runs.gives("rest(2)", 3);
        Runs.gives("rest(1)", 4);
        Runs.at(20, "LEFT is 0 where the HOUR does not FIT, though the SIZES are enough");
        Runs.does("machine(5, 0)", "machine(5, 0)", "ask(6, 3, 3)", "batch(4, 3, 4, 9)", "batch(9, 4, 5, 9)");
        Runs.gives("rest(0)", 4);
        Runs.at(20, "LEFT is 0 where two are APART");
        Runs.does("machine(5, 0)", "ask(1, 3, 3)", "ask(1, 3, 3)", "batch(3, 3, 4, 9)");
        Runs.gives("rest(0)", 0);
        Runs.does("apart(0, 1, true)");
        Runs.gives("rest(0)", 3);
        Runs.does("apart(1, 0, false)");
        Runs.gives("rest(0)", 0);
        Runs.at(20, "nothing is left where nothing is there");
        Runs.does("batch(10000, 0, 24, 1000)");
        Runs.gives("rest(0)", 10000);
        Runs.does("machine(100, 0)");
        Runs.gives("rest(0)", 7600);
        Runs.gives("rest(1)", 10000);
    }

    private static void restMany() {
        Runs.at(20, "the most that parts can have together: the first makes room for those that come later");
        Runs.does("machine(4, 0)", "batch(4, 0, 2, 4)", "batch(4, 0, 1, 4)");
        Runs.gives("rest(0)", 0);
        Runs.does("batch(4, 1, 3, 4)");
        Runs.gives("rest(0)", 0);
        Runs.does("batch(4, 2, 4, 4)", "batch(4, 3, 5, 4)", "batch(4, 4, 6, 4)");
        Runs.gives("rest(0)", 0);
        Runs.does("batch(4, 0, 6, 4)");
        Runs.gives("rest(0)", 4);
        Runs.does("batch(5, 0, 7, 4)");
        Runs.gives("rest(0)", 5);
        Runs.at(20, "the most that parts can have together: the last of eight makes seven give way");
        Runs.does("machine(1, 0)");
        for (int i = 0; i < 7; i++) {
            Runs.does("batch(1, " + i + ", " + (i + 2) + ", 1)");
        }
        Runs.gives("rest(0)", 0);
        Runs.does("batch(1, 0, 1, 1)");
        Runs.gives("rest(0)", 0);
        Runs.at(20, "all there is: twelve MACHINES, eight BATCHES");
        for (int i = 0; i < 12; i++) {
            Runs.does("machine(100, " + i % 4 + ")");
        }
        for (int i = 0; i < 8; i++) {
            Runs.gives("rest(0)", Math.max(0, 10000 * i - 28800));
            Runs.does("batch(10000, 0, 24, 1000)");
        }
        Runs.gives("rest(0)", 51200);
        Runs.gives("rest(12)", 80000 - 24 * 1100);
        Runs.gives("rest(16)", 80000 - 24 * 900);
    }

    private static void restChanges() {
        Runs.at(20, "what has changed since it was asked last");
        Runs.does("batch(10, 0, 1, 10)");
        Runs.gives("rest(0)", 10);
        Runs.does("machine(4, 0)");
        Runs.gives("rest(0)", 6);
        Runs.does("machine(3, 1)");
        Runs.gives("rest(0)", 3);
        Runs.gives("rest(1)", 7);
        Runs.gives("rest(0)", 3);
        Runs.does("up(0, false)");
        Runs.gives("rest(0)", 7);
        Runs.does("up(0, true)", "ask(2, 0, 0)");
        Runs.gives("rest(0)", 5);
        Runs.does("ask(4, 0, 0)");
        Runs.gives("rest(0)", 9);
        Runs.does("apart(0, 1, true)");
        Runs.gives("rest(0)", 9);
        Runs.gives("rest(2)", 10);
        Runs.does("batch(1, 1, 2, 1)");
        Runs.gives("rest(0)", 9);
        Runs.does("ask(3, 0, 0)");
        Runs.gives("rest(0)", 10);
    }

    // ---- promise 21

    private static void partNumbers() {
        Runs.at(21, "1: no such FALL, BATCH, HOUR");
        Runs.does("machine(5, 0)");
        Runs.refuses("part(0, 0, 0)", 1);
        Runs.does("batch(3, 0, 24, 3)", "batch(2, 0, 24, 3)");
        for (String fall : NO_FALL) {
            Runs.refuses("part(" + fall + ", 0, 0)", 1);
        }
        for (String batch : new String[] {"-1", "2", "3", "8", "min", "max"}) {
            Runs.refuses("part(0, " + batch + ", 0)", 1);
        }
        for (String hour : new String[] {"-1", "24", "25", "min", "max"}) {
            Runs.refuses("part(0, 0, " + hour + ")", 1);
            Runs.refuses("part(0, 1, " + hour + ")", 1);
        }
        Runs.gives("part(0, 0, 0)", 3);
        Runs.gives("part(16, 1, 23)", 0);
        Runs.gives("part(12, 1, 0)", 2);
        Runs.at(21, "1: of eight BATCHES");
        Runs.does("machine(8, 0)");
        for (int i = 0; i < 8; i++) {
            Runs.refuses("part(0, " + i + ", 0)", 1);
            Runs.does("batch(1, 0, 1, 1)");
            Runs.gives("part(0, " + i + ", 0)", 1);
        }
        Runs.refuses("part(0, 8, 0)", 1);
    }

    private static void partImpossible() {
        Runs.at(21, "7: they can't all be LAID IN");
        Runs.does("machine(5, 0)", "machine(1, 1)", "batch(5, 2, 3, 5)", "batch(1, 2, 3, 1)", "batch(1, 7, 8, 1)");
        Runs.gives("part(0, 0, 2)", 5);
        for (int batch = 0; batch < 3; batch++) {
            for (int hour : new int[] {0, 2, 7, 23}) {
                Runs.refuses("part(2, " + batch + ", " + hour + ")", 7);
                Runs.refuses("part(1, " + batch + ", " + hour + ")", 7);
            }
        }
        Runs.gives("part(0, 1, 2)", 1);
        Runs.does("batch(1, 2, 3, 1)");
        Runs.refuses("part(0, 2, 7)", 7);
        Runs.does("machine(1, 3)");
        Runs.gives("part(0, 2, 7)", 1);
        Runs.gives("part(0, 3, 2)", 1);
        Runs.at(21, "1 ahead of 7");
        Runs.does("batch(5, 2, 3, 5)");
        Runs.refuses("part(0, 0, 2)", 7);
        Runs.refuses("part(17, 0, 2)", 1);
        Runs.refuses("part(-1, 0, 2)", 1);
        Runs.refuses("part(0, 1, 2)", 1);
        Runs.refuses("part(0, -1, 2)", 1);
        Runs.refuses("part(0, 0, 24)", 1);
        Runs.refuses("part(0, 0, -1)", 1);
        Runs.at(21, "7: one WORK too many in all HOURS");
        Runs.does("machine(1, 0)", "batch(24, 0, 24, 1)");
        Runs.gives("part(0, 0, 23)", 1);
        Runs.does("batch(1, 0, 24, 1)");
        Runs.refuses("part(0, 0, 23)", 7);
    }

    private static void partHours() {
        Runs.at(21, "0 in an HOUR ahead of its own, and from its DUE on");
        Runs.does("machine(10, 0)", "batch(9, 5, 8, 3)", "batch(4, 0, 1, 4)", "batch(4, 23, 24, 4)");
        for (int hour = 0; hour < 24; hour++) {
            Runs.gives("part(0, 0, " + hour + ")", hour >= 5 && hour < 8 ? 3 : 0);
            Runs.gives("part(0, 1, " + hour + ")", hour == 0 ? 4 : 0);
            Runs.gives("part(0, 2, " + hour + ")", hour == 23 ? 4 : 0);
        }
    }

    private static void partGreatest() {
        Runs.at(21, "HOUR by HOUR, the greatest part: its MOST, then what its WORK leaves");
        Runs.does("machine(10, 0)", "batch(10, 3, 9, 4)");
        parts(0, 0, 3, 4, 4, 2, 0, 0, 0);
        Runs.at(21, "HOUR by HOUR, the greatest part: the LEFT");
        Runs.does("machine(10, 0)", "ask(7, 3, 3)", "ask(10, 4, 4)", "ask(9, 5, 5)", "batch(10, 3, 9, 1000)");
        parts(0, 0, 3, 3, 0, 1, 6, 0, 0);
        Runs.at(21, "BATCH by BATCH: those that come first take first");
        Runs.does("machine(10, 0)", "batch(8, 0, 2, 8)", "batch(8, 0, 2, 8)", "batch(4, 0, 2, 8)");
        parts(0, 0, 0, 8, 0);
        parts(0, 1, 0, 2, 6);
        parts(0, 2, 0, 0, 4);
        Runs.at(21, "BATCH by BATCH goes ahead of HOUR by HOUR");
        Runs.does("machine(1, 0)", "batch(1, 1, 3, 1)", "batch(1, 0, 3, 1)", "batch(1, 0, 2, 1)");
        // BATCH 0 in HOUR 1 sends BATCH 2 to HOUR 0, where BATCH 1 could be else
        parts(0, 0, 0, 0, 1, 0);
        parts(0, 1, 0, 0, 0, 1);
        parts(0, 2, 0, 1, 0, 0);
        Runs.at(21, "a part can have nothing: the whole WORK in the first HOUR");
        Runs.does("machine(100, 0)", "batch(1, 0, 24, 1000)", "batch(99, 0, 24, 1000)", "batch(1, 0, 24, 1)");
        for (int hour = 0; hour < 24; hour++) {
            Runs.gives("part(0, 0, " + hour + ")", hour == 0 ? 1 : 0);
            Runs.gives("part(0, 1, " + hour + ")", hour == 0 ? 99 : 0);
            Runs.gives("part(0, 2, " + hour + ")", hour == 1 ? 1 : 0);
        }
    }

    private static void parts(int fall, int batch, int first, int... due) {
        for (int i = 0; i < due.length; i++) {
            Runs.gives("part(" + fall + ", " + batch + ", " + (first + i) + ")", due[i]);
        }
    }

    private static void partWhatFollows() {
        Runs.at(21, "with which all that follows can be");
        Runs.does("machine(5, 0)", "batch(6, 0, 3, 5)", "batch(3, 0, 1, 5)");
        parts(0, 0, 0, 2, 4, 0);
        parts(0, 1, 0, 3, 0, 0);
        Runs.does("batch(4, 0, 2, 5)");
        // batch 2 needs 4 of the 7 that HOURS 0 and 1 have beside batch 1: batch 0 has 3 of them, 2 in HOUR 0
        parts(0, 0, 0, 2, 1, 3);
        parts(0, 1, 0, 3, 0, 0);
        parts(0, 2, 0, 0, 4, 0);
        Runs.at(21, "with which all that follows can be: all of the first HOUR is for the others");
        Runs.does("machine(3, 0)", "batch(3, 0, 2, 3)", "batch(1, 0, 1, 1)", "batch(1, 0, 1, 1)", "batch(1, 0, 1, 1)");
        parts(0, 0, 0, 0, 3);
        Runs.at(21, "with which all that follows can be: the other's MOST needs two HOURS");
        Runs.does("machine(3, 0)", "batch(7, 0, 3, 3)", "batch(2, 0, 3, 1)");
        parts(0, 0, 0, 3, 2, 2);
        parts(0, 1, 0, 0, 1, 1);
    }

    private static void partFalls() {
        Runs.at(21, "the PLAN with a FALL");
        Runs.does("machine(4, 0)", "machine(2, 1)", "machine(1, 1)", "batch(7, 1, 5, 6)", "batch(2, 1, 4, 1)");
        parts(0, 0, 1, 6, 1, 0, 0);
        parts(0, 1, 1, 1, 1, 0, 0);
        parts(1, 0, 1, 3, 2, 2, 0);
        parts(1, 1, 1, 0, 1, 1, 0);
        parts(14, 0, 1, 4, 3, 0, 0);
        parts(2, 0, 1, 5, 2, 0, 0);
        parts(16, 0, 1, 6, 1, 0, 0);
        parts(13, 0, 1, 3, 2, 2, 0);
        Runs.does("up(1, false)");
        parts(0, 0, 1, 5, 2, 0, 0);
        Runs.refuses("part(1, 0, 1)", 7);
    }

    private static void partMost() {
        Runs.at(21, "the greatest WORK with the greatest MOST");
        for (int i = 0; i < 12; i++) {
            Runs.does("machine(100, 2)");
        }
        Runs.does("batch(10000, 0, 24, 1000)", "batch(10000, 0, 24, 1000)", "batch(8800, 0, 24, 1000)");
        for (int hour = 0; hour < 24; hour++) {
            Runs.gives("part(0, 0, " + hour + ")", hour < 10 ? 1000 : 0);
        }
        Runs.does("batch(1, 0, 24, 1)");
        Runs.refuses("part(0, 0, 0)", 7);
    }
}
