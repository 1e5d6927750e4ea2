/** Each promise of the document by its number: ordinary calls, the edges that it names, and wrong calls. */
public final class PromiseTest {
    private static int wrong = 0;
    private static int asked = 0;
    private static int promise = 0;

    private static void due(String call, long got, long want) {
        asked++;
        if (got != want && wrong++ < 40) {
            System.out.println("promise " + promise + ": " + call + " answered " + got + ", due is " + want);
        }
    }

    private static void due(String call, boolean got, boolean want) {
        due(call, got ? 1 : 0, want ? 1 : 0);
    }

    /** A call that is refused: NONE, or false (0), and its status. */
    private static void refused(MachineHall x, String call, long got, int status) {
        due(call, got, MachineHall.NONE);
        due("status after " + call, x.status(), status);
    }

    private static void refused(MachineHall x, String call, boolean got, int status) {
        due(call, got, false);
        due("status after " + call, x.status(), status);
    }

    private static void done(MachineHall x, String call, boolean got) {
        due(call, got, true);
        due("status after " + call, x.status(), 0);
    }

    private static void done(MachineHall x, String call, long got, long want) {
        due(call, got, want);
        due("status after " + call, x.status(), 0);
    }

    private static void fill(MachineHall x, int sheet, int sort, long... numbers) {
        x.sheet(sheet, sort, numbers.length);
        for (int i = 0; i < numbers.length; i++) {
            x.write(sheet, i, numbers[i]);
        }
    }

    public static void main(String[] args) {
        aNewObject();
        status();
        sheet();
        write();
        read();
        drop();
        copy();
        none();
        machine();
        up();
        ask();
        apart();
        count();
        fits();
        on();
        lack();
        left();
        enough();
        batch();
        rest();
        part();
        line();
        hands();
        wanted();
        have();
        type();
        cheapest();
        buys();
        theLastCalls();
        System.out.println("PromiseTest: " + asked + " answers asked, " + wrong + " wrong");
        if (wrong != 0) {
            System.exit(1);
        }
    }

    private static void aNewObject() {
        promise = 1;
        MachineHall x = new MachineHall();
        due("status", x.status(), 0);
        for (int s = 0; s < 6; s++) {
            refused(x, "drop " + s, x.drop(s), 2);
        }
        for (int what = 0; what < 5; what++) {
            done(x, "count " + what, x.count(what), 0);
        }
        done(x, "cheapest", x.cheapest(), 0);
        done(x, "enough", x.enough(2), -2);
        done(x, "rest", x.rest(0), 0);
        due("NONE", MachineHall.NONE, -1);
    }

    private static void status() {
        promise = 2;
        MachineHall x = new MachineHall();
        x.none();
        due("status", x.status(), 8);
        due("status again", x.status(), 8);
        x.machine(1, 0);
        due("status", x.status(), 0);
        x.machine(0, 0);
        due("status", x.status(), 1);
        x.read(0, 0);
        due("status", x.status(), 2);
        x.sheet(0, 0, 1);
        x.read(0, 1);
        due("status", x.status(), 3);
        x.count(0);
        due("status", x.status(), 0);
    }

    private static void sheet() {
        promise = 3;
        MachineHall x = new MachineHall();
        done(x, "sheet(0, 0, 0)", x.sheet(0, 0, 0));
        refused(x, "read(0, 0)", x.read(0, 0), 3);
        done(x, "sheet(5, 3, 64)", x.sheet(5, 3, 64));
        done(x, "read(5, 63)", x.read(5, 63), 0);
        refused(x, "read(5, 64)", x.read(5, 64), 3);
        x.write(5, 3, 7);
        refused(x, "sheet(6, 0, 0)", x.sheet(6, 0, 0), 1);
        refused(x, "sheet(-1, 0, 0)", x.sheet(-1, 0, 0), 1);
        refused(x, "sheet(5, 4, 1)", x.sheet(5, 4, 1), 1);
        refused(x, "sheet(5, -1, 1)", x.sheet(5, -1, 1), 1);
        refused(x, "sheet(5, 0, 65)", x.sheet(5, 0, 65), 1);
        refused(x, "sheet(5, 0, -1)", x.sheet(5, 0, -1), 1);
        refused(x, "sheet(max)", x.sheet(Integer.MAX_VALUE, Integer.MIN_VALUE, Integer.MAX_VALUE), 1);
        done(x, "read(5, 3)", x.read(5, 3), 7);
        done(x, "sheet(5, 2, 10)", x.sheet(5, 2, 10));
        done(x, "read(5, 3) of the new one", x.read(5, 3), 0);
        x.write(5, 9, 1L << 40);
        done(x, "its sort is the new one", x.read(5, 9), 0);
        done(x, "sheet(5, 2, 3)", x.sheet(5, 2, 3));
        done(x, "sheet(5, 2, 12)", x.sheet(5, 2, 12));
        done(x, "zeros again", x.read(5, 9), 0);
    }

    private static void write() {
        promise = 4;
        MachineHall x = new MachineHall();
        refused(x, "write missing", x.write(0, 0, 1), 2);
        refused(x, "write missing, below 0", x.write(0, -1, 1), 2);
        for (int sort = 0; sort < 4; sort++) {
            x.sheet(sort, sort, 2);
        }
        long[] told = {0, 1, -1, 127, 128, 255, 256, -128, -129, 32767, 32768, 65535, 65536, -32769,
            Integer.MAX_VALUE, 1L << 31, (1L << 32) - 1, 1L << 32, Long.MAX_VALUE, Long.MIN_VALUE};
        for (long v : told) {
            for (int sort = 0; sort < 4; sort++) {
                done(x, "write " + v, x.write(sort, 1, v));
                int off = 64 - (8 << sort);
                done(x, "read sort " + sort + " of " + v, x.read(sort, 1), v << off >> off);
                done(x, "read beside", x.read(sort, 0), 0);
            }
        }
        refused(x, "write(0, 2, 1)", x.write(0, 2, 1), 3);
        refused(x, "write(0, -1, 1)", x.write(0, -1, 1), 3);
        refused(x, "write(0, min, 1)", x.write(0, Integer.MIN_VALUE, 1), 3);
        refused(x, "write(0, max, 1)", x.write(0, Integer.MAX_VALUE, 1), 3);
        refused(x, "write(6, 0, 1)", x.write(6, 0, 1), 1);
        refused(x, "write(-1, 0, 1)", x.write(-1, 0, 1), 1);
    }

    private static void read() {
        promise = 5;
        MachineHall x = new MachineHall();
        refused(x, "read(6, 0)", x.read(6, 0), 1);
        refused(x, "read(-1, 0)", x.read(-1, 0), 1);
        refused(x, "read(1, 0)", x.read(1, 0), 2);
        refused(x, "read(1, 99)", x.read(1, 99), 2);
        fill(x, 1, 0, 5, -1);
        done(x, "read(1, 0)", x.read(1, 0), 5);
        done(x, "read(1, 1)", x.read(1, 1), -1);
        refused(x, "read(1, 2)", x.read(1, 2), 3);
        refused(x, "read(1, -1)", x.read(1, -1), 3);
    }

    private static void drop() {
        promise = 6;
        MachineHall x = new MachineHall();
        refused(x, "drop(0)", x.drop(0), 2);
        refused(x, "drop(6)", x.drop(6), 1);
        refused(x, "drop(-1)", x.drop(-1), 1);
        fill(x, 0, 1, 9);
        fill(x, 1, 1, 8);
        done(x, "drop(0)", x.drop(0));
        refused(x, "read(0, 0)", x.read(0, 0), 2);
        refused(x, "drop(0)", x.drop(0), 2);
        done(x, "read(1, 0)", x.read(1, 0), 8);
        x.sheet(0, 1, 1);
        done(x, "read(0, 0)", x.read(0, 0), 0);
    }

    private static void copy() {
        promise = 7;
        MachineHall x = new MachineHall();
        fill(x, 0, 2, 1, 2, 300, 4, -70000);
        fill(x, 1, 0, 10, 11, 12);
        refused(x, "copy(6, ..)", x.copy(6, 0, 0, 0, 0), 1);
        refused(x, "copy(.., -1, ..)", x.copy(0, 0, -1, 0, 0), 1);
        refused(x, "copy from below 0", x.copy(0, -1, 1, 0, 1), 1);
        refused(x, "copy at below 0", x.copy(0, 0, 1, -1, 1), 1);
        refused(x, "copy many below 0", x.copy(0, 0, 1, 0, -1), 1);
        refused(x, "copy below 0, missing", x.copy(4, -1, 1, 0, 1), 1);
        refused(x, "copy from missing", x.copy(4, 0, 1, 0, 0), 2);
        refused(x, "copy to missing", x.copy(1, 9, 4, 0, 9), 2);
        refused(x, "copy too many of from", x.copy(1, 1, 0, 0, 3), 3);
        refused(x, "copy too many of to", x.copy(0, 0, 1, 1, 3), 3);
        refused(x, "copy from behind", x.copy(1, 4, 0, 0, 0), 3);
        refused(x, "copy at behind", x.copy(0, 0, 1, 4, 0), 3);
        refused(x, "copy much", x.copy(0, Integer.MAX_VALUE, 1, 0, Integer.MAX_VALUE), 3);
        refused(x, "copy much", x.copy(0, 1, 1, 1, Integer.MAX_VALUE), 3);
        done(x, "nothing has changed", x.read(1, 1), 11);
        done(x, "copy none", x.copy(0, 5, 1, 3, 0));
        done(x, "copy cut", x.copy(0, 2, 1, 0, 3));
        done(x, "read(1, 0)", x.read(1, 0), 44);
        done(x, "read(1, 1)", x.read(1, 1), 4);
        done(x, "read(1, 2)", x.read(1, 2), (byte) -70000);
        done(x, "the other is as it was", x.read(0, 2), 300);
        done(x, "copy up in itself", x.copy(0, 0, 0, 1, 4));
        long[] up = {1, 1, 2, 300, 4};
        for (int i = 0; i < 5; i++) {
            done(x, "read(0, " + i + ")", x.read(0, i), up[i]);
        }
        done(x, "copy down in itself", x.copy(0, 1, 0, 0, 4));
        long[] down = {1, 2, 300, 4, 4};
        for (int i = 0; i < 5; i++) {
            done(x, "read(0, " + i + ")", x.read(0, i), down[i]);
        }
        done(x, "copy all", x.copy(1, 0, 1, 0, 3));
        done(x, "read(1, 0)", x.read(1, 0), 44);
        done(x, "copy widened", x.copy(1, 2, 0, 4, 1));
        done(x, "read(0, 4)", x.read(0, 4), (byte) -70000);
        x.sheet(2, 3, 64);
        x.write(2, 0, -5);
        x.write(2, 31, 6);
        done(x, "copy to the last place", x.copy(2, 0, 2, 32, 32));
        done(x, "read(2, 32)", x.read(2, 32), -5);
        done(x, "read(2, 63)", x.read(2, 63), 6);
        done(x, "copy of a whole one", x.copy(2, 0, 2, 0, 64));
    }

    private static void none() {
        promise = 8;
        MachineHall x = new MachineHall();
        refused(x, "none()", x.none(), 8);
        refused(x, "none() again", x.none(), 8);
    }

    private static void machine() {
        promise = 9;
        MachineHall x = new MachineHall();
        refused(x, "machine(0, 0)", x.machine(0, 0), 1);
        refused(x, "machine(101, 0)", x.machine(101, 0), 1);
        refused(x, "machine(1, -1)", x.machine(1, -1), 1);
        refused(x, "machine(1, 4)", x.machine(1, 4), 1);
        for (int i = 0; i < 12; i++) {
            done(x, "machine " + i, x.machine(i == 0 ? 1 : 100, i % 4), i);
        }
        refused(x, "one too many", x.machine(1, 0), 4);
        refused(x, "wrong and too many", x.machine(0, 0), 1);
        done(x, "count(0)", x.count(0), 12);
        done(x, "count(4)", x.count(4), 1101);
        done(x, "left with room 0 gone", x.left(0, 13), 900);
        done(x, "left with room 3 gone", x.left(0, 16), 801);
        done(x, "left with machine 0 gone", x.left(0, 1), 1100);
        done(x, "left with machine 11 gone", x.left(0, 12), 1001);
    }

    private static void up() {
        promise = 10;
        MachineHall x = new MachineHall();
        refused(x, "up(0, false)", x.up(0, false), 1);
        x.machine(5, 0);
        x.machine(7, 0);
        refused(x, "up(0, true)", x.up(0, true), 5);
        refused(x, "up(-1, true)", x.up(-1, true), 1);
        refused(x, "up(2, true)", x.up(2, true), 1);
        refused(x, "up(32, false)", x.up(32, false), 1);
        done(x, "up(0, false)", x.up(0, false));
        refused(x, "up(0, false)", x.up(0, false), 5);
        done(x, "count(4)", x.count(4), 7);
        x.ask(6, 0, 23);
        done(x, "fits", x.fits(0, 0), 1);
        done(x, "on", x.on(0, 0, 0), 1);
        done(x, "up(1, false)", x.up(1, false));
        done(x, "fits", x.fits(0, 0), 0);
        done(x, "up(0, true)", x.up(0, true));
        done(x, "fits", x.fits(0, 0), 0);
        done(x, "up(1, true)", x.up(1, true));
        done(x, "fits", x.fits(0, 0), 1);
    }

    private static void ask() {
        promise = 11;
        MachineHall x = new MachineHall();
        refused(x, "ask(0, 0, 0)", x.ask(0, 0, 0), 1);
        refused(x, "ask(101, 0, 0)", x.ask(101, 0, 0), 1);
        refused(x, "ask(1, -1, 0)", x.ask(1, -1, 0), 1);
        refused(x, "ask(1, 0, 24)", x.ask(1, 0, 24), 1);
        refused(x, "ask(1, 24, 24)", x.ask(1, 24, 24), 1);
        refused(x, "ask(1, 5, 4)", x.ask(1, 5, 4), 1);
        done(x, "ask(100, 23, 23)", x.ask(100, 23, 23), 0);
        done(x, "ask(1, 0, 0)", x.ask(1, 0, 0), 1);
        done(x, "lack(23)", x.lack(23, 0), 100);
        done(x, "lack(22)", x.lack(22, 0), 0);
        done(x, "lack(0)", x.lack(0, 0), 1);
        done(x, "lack(1)", x.lack(1, 0), 0);
        for (int i = 2; i < 10; i++) {
            done(x, "ask " + i, x.ask(i, i, i + 1), i);
        }
        refused(x, "one too many", x.ask(1, 0, 0), 4);
        refused(x, "wrong and too many", x.ask(1, 1, 0), 1);
        done(x, "count(1)", x.count(1), 10);
        done(x, "lack(5)", x.lack(5, 0), 9);
    }

    private static void apart() {
        promise = 12;
        MachineHall x = new MachineHall();
        x.machine(10, 0);
        x.ask(1, 0, 5);
        x.ask(1, 0, 5);
        x.ask(1, 5, 5);
        refused(x, "apart(0, 0, true)", x.apart(0, 0, true), 1);
        refused(x, "apart(0, 0, false)", x.apart(0, 0, false), 1);
        refused(x, "apart(0, 3, true)", x.apart(0, 3, true), 1);
        refused(x, "apart(-1, 0, true)", x.apart(-1, 0, true), 1);
        refused(x, "apart(33, 0, true)", x.apart(33, 0, true), 1);
        refused(x, "apart(0, 1, false)", x.apart(0, 1, false), 5);
        done(x, "fits", x.fits(5, 0), 1);
        done(x, "apart(0, 1, true)", x.apart(0, 1, true));
        refused(x, "apart(0, 1, true)", x.apart(0, 1, true), 5);
        refused(x, "apart(1, 0, true)", x.apart(1, 0, true), 5);
        done(x, "fits", x.fits(5, 0), 0);
        done(x, "lack", x.lack(5, 0), 1);
        x.machine(10, 0);
        done(x, "on 1", x.on(5, 0, 1), 0);
        done(x, "on 2", x.on(5, 0, 2), 0);
        done(x, "on 0", x.on(5, 0, 0), 1);
        done(x, "apart(1, 2, true)", x.apart(1, 2, true));
        done(x, "on 2", x.on(5, 0, 2), 0);
        done(x, "on 1", x.on(5, 0, 1), 1);
        done(x, "on 0", x.on(5, 0, 0), 0);
        done(x, "apart(0, 2, true)", x.apart(0, 2, true));
        done(x, "fits", x.fits(5, 0), 0);
        done(x, "fits", x.fits(4, 0), 1);
        done(x, "apart(1, 0, false)", x.apart(1, 0, false));
        done(x, "fits", x.fits(5, 0), 1);
        refused(x, "apart(0, 1, false)", x.apart(0, 1, false), 5);
    }

    private static void count() {
        promise = 13;
        MachineHall x = new MachineHall();
        refused(x, "count(-1)", x.count(-1), 1);
        refused(x, "count(5)", x.count(5), 1);
        x.machine(3, 0);
        x.machine(4, 1);
        x.ask(1, 0, 0);
        x.batch(1, 0, 1, 1);
        x.batch(1, 0, 1, 1);
        x.batch(1, 0, 1, 1);
        x.sheet(0, 0, 12);
        for (int i = 0; i < 4; i++) {
            x.type(1, 0, 0, 0);
        }
        done(x, "count(0)", x.count(0), 2);
        done(x, "count(1)", x.count(1), 1);
        done(x, "count(2)", x.count(2), 3);
        done(x, "count(3)", x.count(3), 4);
        done(x, "count(4)", x.count(4), 7);
    }

    private static void fits() {
        promise = 14;
        MachineHall x = new MachineHall();
        refused(x, "fits(-1, 0)", x.fits(-1, 0), 1);
        refused(x, "fits(24, 0)", x.fits(24, 0), 1);
        refused(x, "fits(0, -1)", x.fits(0, -1), 1);
        refused(x, "fits(0, 17)", x.fits(0, 17), 1);
        for (int fall = 0; fall <= 16; fall++) {
            done(x, "fits(23, " + fall + ")", x.fits(23, fall), 1);
        }
        x.ask(5, 2, 3);
        done(x, "fits(1, 0)", x.fits(1, 0), 1);
        done(x, "fits(2, 0)", x.fits(2, 0), 0);
        x.machine(5, 2);
        done(x, "fits(3, 0)", x.fits(3, 0), 1);
        done(x, "fits(3, 1)", x.fits(3, 1), 0);
        done(x, "fits(3, 2)", x.fits(3, 2), 1);
        done(x, "fits(3, 14)", x.fits(3, 14), 1);
        done(x, "fits(3, 15)", x.fits(3, 15), 0);
        x.ask(1, 3, 3);
        done(x, "fits(3, 0)", x.fits(3, 0), 0);
        // 3, 3, 2, 2, 2 go into 6 and 6, and 4, 4, 4 do not, though the sizes together are enough
        MachineHall y = new MachineHall();
        y.machine(6, 0);
        y.machine(6, 0);
        for (int i = 0; i < 5; i++) {
            y.ask(i < 2 ? 3 : 2, 0, 0);
        }
        done(y, "fits(0, 0)", y.fits(0, 0), 1);
        for (int i = 0; i < 3; i++) {
            y.ask(4, 1, 1);
        }
        done(y, "fits(1, 0)", y.fits(1, 0), 0);
    }

    private static void on() {
        promise = 15;
        MachineHall x = new MachineHall();
        x.machine(4, 0);
        x.machine(6, 1);
        x.machine(100, 2);
        x.ask(4, 0, 0);
        x.ask(3, 0, 0);
        x.ask(3, 0, 0);
        x.ask(1, 0, 1);
        // machine 0: {3, 2} is 12, greater than any other of at most 4; machine 1: {1}, {0, 1} is 7 needs
        done(x, "on 3", x.on(0, 0, 3), 0);
        done(x, "on 2", x.on(0, 0, 2), 0);
        done(x, "on 1", x.on(0, 0, 1), 1);
        done(x, "on 0", x.on(0, 0, 0), 2);
        // without machine 2 all 11 must go into 4 and 6: they can't
        refused(x, "on 0 with fall 3", x.on(0, 3, 0), 6);
        refused(x, "on 0 with fall 15", x.on(0, 15, 0), 6);
        refused(x, "on of another hour", x.on(1, 0, 0), 1);
        refused(x, "on of another hour", x.on(1, 3, 0), 1);
        refused(x, "on of none", x.on(0, 0, 4), 1);
        refused(x, "on of none", x.on(0, 0, -1), 1);
        refused(x, "on of none", x.on(0, 0, 35), 1);
        refused(x, "hour 24", x.on(24, 0, 0), 1);
        refused(x, "hour -1", x.on(-1, 0, 0), 1);
        refused(x, "fall 17", x.on(0, 17, 0), 1);
        refused(x, "fall -1", x.on(0, -1, 0), 1);
        done(x, "with fall 1, on 3", x.on(0, 1, 3), 1);
        done(x, "with fall 1, on 2", x.on(0, 1, 2), 1);
        done(x, "with fall 1, on 1", x.on(0, 1, 1), 2);
        done(x, "with fall 14, on 1", x.on(0, 14, 1), 2);
        done(x, "in hour 1, on 3", x.on(1, 0, 3), 0);
        // the greatest set must leave what can be put behind
        MachineHall y = new MachineHall();
        y.machine(10, 0);
        y.machine(6, 0);
        y.ask(6, 0, 0);
        y.ask(5, 0, 0);
        y.ask(5, 0, 0);
        done(y, "on 0", y.on(0, 0, 0), 1);
        done(y, "on 1", y.on(0, 0, 1), 0);
        done(y, "on 2", y.on(0, 0, 2), 0);
    }

    private static void lack() {
        promise = 16;
        MachineHall x = new MachineHall();
        refused(x, "lack(24, 0)", x.lack(24, 0), 1);
        refused(x, "lack(-1, 0)", x.lack(-1, 0), 1);
        refused(x, "lack(0, 17)", x.lack(0, 17), 1);
        refused(x, "lack(0, -1)", x.lack(0, -1), 1);
        x.machine(7, 0);
        x.machine(5, 1);
        x.ask(6, 0, 0);
        x.ask(4, 0, 0);
        x.ask(3, 0, 0);
        // 7: {4, 3}, 5: none that is 6; else 7: {6}, 5: {4}
        done(x, "lack(0, 0)", x.lack(0, 0), 3);
        done(x, "lack(0, 2)", x.lack(0, 2), 6);
        done(x, "lack(0, 1)", x.lack(0, 1), 9);
        done(x, "lack(0, 14)", x.lack(0, 14), 6);
        done(x, "lack(0, 16)", x.lack(0, 16), 3);
        done(x, "lack(1, 0)", x.lack(1, 0), 0);
        x.apart(1, 2, true);
        done(x, "lack(0, 2)", x.lack(0, 2), 7);
        x.machine(3, 3);
        done(x, "lack(0, 0)", x.lack(0, 0), 0);
    }

    private static void left() {
        promise = 17;
        MachineHall x = new MachineHall();
        refused(x, "left(24, 0)", x.left(24, 0), 1);
        refused(x, "left(-1, 0)", x.left(-1, 0), 1);
        refused(x, "left(0, 17)", x.left(0, 17), 1);
        refused(x, "left(0, -1)", x.left(0, -1), 1);
        x.machine(7, 0);
        x.machine(5, 1);
        x.ask(6, 0, 0);
        done(x, "left(0, 0)", x.left(0, 0), 6);
        done(x, "left(0, 2)", x.left(0, 2), 1);
        done(x, "left(0, 1), does not fit", x.left(0, 1), 0);
        done(x, "left(0, 13), does not fit", x.left(0, 13), 0);
        done(x, "left(1, 1)", x.left(1, 1), 5);
        done(x, "left(1, 16)", x.left(1, 16), 12);
        x.up(1, false);
        done(x, "left(1, 0)", x.left(1, 0), 7);
    }

    private static void enough() {
        promise = 18;
        MachineHall x = new MachineHall();
        refused(x, "enough(-1)", x.enough(-1), 1);
        refused(x, "enough(3)", x.enough(3), 1);
        x.machine(5, 3);
        x.machine(5, 3);
        x.machine(5, 1);
        x.ask(5, 10, 12);
        done(x, "enough(2)", x.enough(2), -2);
        x.ask(5, 9, 9);
        x.ask(5, 9, 9);
        done(x, "enough(0)", x.enough(0), -2);
        done(x, "enough(1)", x.enough(1), -2);
        done(x, "enough(2)", x.enough(2), 916);
        x.ask(5, 11, 11);
        x.ask(5, 11, 11);
        done(x, "enough(1)", x.enough(1), 1101);
        done(x, "enough(2)", x.enough(2), 916);
        x.up(0, false);
        done(x, "enough(0)", x.enough(0), 1100);
        done(x, "enough(1)", x.enough(1), 902);
        x.ask(6, 0, 0);
        done(x, "enough(2)", x.enough(2), 0);
        done(x, "enough(0)", x.enough(0), 0);
        // the last of twelve machines is looked at with depth 1
        MachineHall z = new MachineHall();
        for (int i = 0; i < 12; i++) {
            z.machine(i == 11 ? 9 : 8, i / 3);
        }
        z.ask(9, 4, 4);
        done(z, "enough(0)", z.enough(0), -2);
        done(z, "enough(1)", z.enough(1), 412);
        done(z, "enough(2)", z.enough(2), 412);
        // a room gone alone can be the first that lacks in hour 0
        MachineHall y = new MachineHall();
        y.machine(5, 0);
        y.machine(5, 0);
        y.ask(1, 0, 23);
        done(y, "enough(1)", y.enough(1), -2);
        done(y, "enough(2)", y.enough(2), 13);
    }

    private static void batch() {
        promise = 19;
        MachineHall x = new MachineHall();
        refused(x, "batch(0, ..)", x.batch(0, 0, 1, 1), 1);
        refused(x, "batch(10001, ..)", x.batch(10001, 0, 1, 1), 1);
        refused(x, "from -1", x.batch(1, -1, 1, 1), 1);
        refused(x, "from 24", x.batch(1, 24, 25, 1), 1);
        refused(x, "due 25", x.batch(1, 0, 25, 1), 1);
        refused(x, "due 0", x.batch(1, 0, 0, 1), 1);
        refused(x, "due as from", x.batch(1, 7, 7, 1), 1);
        refused(x, "due below from", x.batch(1, 7, 6, 1), 1);
        refused(x, "from max", x.batch(1, Integer.MAX_VALUE, 24, 1), 1);
        refused(x, "most 0", x.batch(1, 0, 1, 0), 1);
        refused(x, "most 1001", x.batch(1, 0, 1, 1001), 1);
        done(x, "count(2)", x.count(2), 0);
        done(x, "the greatest", x.batch(10000, 23, 24, 1000), 0);
        done(x, "the least", x.batch(1, 0, 1, 1), 1);
        for (int i = 2; i < 8; i++) {
            done(x, "batch " + i, x.batch(1, 0, 24, 1), i);
        }
        refused(x, "one too many", x.batch(1, 0, 1, 1), 4);
        refused(x, "wrong and too many", x.batch(1, 1, 1, 1), 1);
        done(x, "count(2)", x.count(2), 8);
    }

    private static void rest() {
        promise = 20;
        MachineHall x = new MachineHall();
        refused(x, "rest(-1)", x.rest(-1), 1);
        refused(x, "rest(17)", x.rest(17), 1);
        done(x, "rest(16)", x.rest(16), 0);
        x.batch(30, 2, 5, 10);
        done(x, "rest(0)", x.rest(0), 30);
        x.machine(10, 1);
        done(x, "rest(0)", x.rest(0), 0);
        done(x, "rest(1)", x.rest(1), 30);
        done(x, "rest(14)", x.rest(14), 30);
        done(x, "rest(2)", x.rest(2), 0);
        x.batch(5, 3, 4, 2);
        done(x, "rest(0): hours 2 to 4 have 30", x.rest(0), 5);
        x.machine(1, 0);
        done(x, "rest(0): hour 3 has 11", x.rest(0), 4);
        x.machine(1, 0);
        done(x, "rest(0): at most 2 of it in hour 3", x.rest(0), 3);
        x.machine(50, 0);
        done(x, "rest(0): at most 2 of it in hour 3", x.rest(0), 3);
        x.ask(60, 2, 2);
        done(x, "rest(0): hour 2 does not fit", x.rest(0), 13);
        x.apart(0, 0, true);
        done(x, "rest(13)", x.rest(13), 15);
    }

    private static void part() {
        promise = 21;
        MachineHall x = new MachineHall();
        refused(x, "part(0, 0, 0)", x.part(0, 0, 0), 1);
        x.machine(5, 0);
        x.batch(8, 1, 4, 4);
        x.batch(4, 1, 3, 3);
        refused(x, "part(17, 0, 0)", x.part(17, 0, 0), 1);
        refused(x, "part(-1, 0, 0)", x.part(-1, 0, 0), 1);
        refused(x, "part(0, 2, 0)", x.part(0, 2, 0), 1);
        refused(x, "part(0, -1, 0)", x.part(0, -1, 0), 1);
        refused(x, "part(0, 0, 24)", x.part(0, 0, 24), 1);
        refused(x, "part(0, 0, -1)", x.part(0, 0, -1), 1);
        // batch 0 takes 4 of hour 1; then at most 2 of hour 2, as batch 1 needs 3 there; 2 are left for hour 3
        long[][] want = {{0, 4, 2, 2, 0}, {0, 1, 3, 0, 0}};
        for (int b = 0; b < 2; b++) {
            for (int h = 0; h < 5; h++) {
                done(x, "part(0, " + b + ", " + h + ")", x.part(0, b, h), want[b][h]);
            }
        }
        done(x, "part(0, 0, 23)", x.part(0, 0, 23), 0);
        refused(x, "part(1, 0, 1)", x.part(1, 0, 1), 7);
        refused(x, "part(1, 2, 1)", x.part(1, 2, 1), 1);
        x.ask(3, 2, 2);
        // hour 2 has 2: batch 1 needs 4 of hours 1 and 2, so batch 0 has 3, 0, 4 at the most: 7
        refused(x, "part(0, 0, 1)", x.part(0, 0, 1), 7);
        x.machine(1, 1);
        // hours 1 and 3 have 6, hour 2 has 3
        long[][] wider = {{0, 4, 1, 3, 0}, {0, 2, 2, 0, 0}};
        for (int b = 0; b < 2; b++) {
            for (int h = 0; h < 5; h++) {
                done(x, "wider part(0, " + b + ", " + h + ")", x.part(0, b, h), wider[b][h]);
            }
        }
        refused(x, "part(14, 0, 1)", x.part(14, 0, 1), 7);
        done(x, "part(15, 0, 2)", x.part(15, 0, 2), 1);
    }

    private static void line() {
        promise = 22;
        MachineHall x = new MachineHall();
        refused(x, "missing", x.line(0, 1, 1, 1, 0), 2);
        fill(x, 0, 0, 2, 0, 3, 0, 0, 1);
        refused(x, "sheet 6", x.line(6, 1, 1, 1, 0), 1);
        refused(x, "sheet -1", x.line(-1, 1, 1, 1, 0), 1);
        refused(x, "many 0", x.line(0, 0, 1, 1, 0), 1);
        refused(x, "many 65", x.line(0, 65, 1, 1, 0), 1);
        refused(x, "hands 0", x.line(0, 1, 0, 1, 0), 1);
        refused(x, "hands 21", x.line(0, 1, 21, 1, 0), 1);
        refused(x, "ticks 0", x.line(0, 1, 1, 0, 0), 1);
        refused(x, "ticks 101", x.line(0, 1, 1, 101, 0), 1);
        refused(x, "what -1", x.line(0, 1, 1, 1, -1), 1);
        refused(x, "what 5", x.line(0, 1, 1, 1, 5), 1);
        refused(x, "wrong and missing", x.line(1, 0, 1, 1, 0), 1);
        refused(x, "too few", x.line(0, 7, 1, 1, 0), 3);
        // two hands, 2 ticks: 0-2, 0-2 | 2-4, 2-4, 4-6 (waits 2) | 5: free at 4, 5-7
        long[] two = {2, 2, 6, 1, 7};
        for (int what = 0; what < 5; what++) {
            done(x, "line(0, 6, 2, 2, " + what + ")", x.line(0, 6, 2, 2, what), two[what]);
        }
        // one hand, 1 tick: 0-1, 1-2 (1) | 2-3, 3-4 (1), 4-5 (2) | 5-6: free at that tick
        long[] one = {2, 4, 6, 3, 6};
        for (int what = 0; what < 5; what++) {
            done(x, "line(0, 6, 1, 1, " + what + ")", x.line(0, 6, 1, 1, what), one[what]);
        }
        fill(x, 0, 0, 0, 0, 0);
        for (int what = 0; what < 5; what++) {
            done(x, "none comes, what " + what, x.line(0, 3, 20, 100, what), 0);
        }
        fill(x, 0, 1, 1, 101, -1);
        done(x, "line(0, 1, ..)", x.line(0, 1, 1, 1, 2), 1);
        refused(x, "101 come", x.line(0, 2, 1, 1, 2), 1);
        x.write(0, 1, 100);
        done(x, "100 come", x.line(0, 2, 1, 1, 2), 101);
        refused(x, "-1 come", x.line(0, 3, 1, 1, 2), 1);
        refused(x, "too few ahead of the numbers", x.line(0, 4, 1, 1, 2), 3);
        fill(x, 0, 3, (1L << 32) + 1);
        refused(x, "many more come", x.line(0, 1, 1, 1, 2), 1);
        x.sheet(1, 0, 64);
        for (int i = 0; i < 64; i++) {
            x.write(1, i, 100);
        }
        done(x, "the greatest wait", x.line(1, 64, 1, 100, 0), 639900 - 63);
        done(x, "all waits", x.line(1, 64, 1, 100, 1), 2047680000L - 201600L);
        done(x, "how many come", x.line(1, 64, 1, 100, 2), 6400);
        done(x, "how many wait", x.line(1, 64, 1, 100, 3), 6399);
        done(x, "the last end", x.line(1, 64, 1, 100, 4), 640000);
        done(x, "the last end of 20", x.line(1, 64, 20, 100, 4), 32000);
    }

    private static void hands() {
        promise = 23;
        MachineHall x = new MachineHall();
        refused(x, "missing", x.hands(0, 1, 1, 0), 2);
        fill(x, 0, 1, 5, 0, 101);
        refused(x, "sheet 6", x.hands(6, 1, 1, 0), 1);
        refused(x, "sheet -1", x.hands(-1, 1, 1, 0), 1);
        refused(x, "many 0", x.hands(0, 0, 1, 0), 1);
        refused(x, "many 65", x.hands(0, 65, 1, 0), 1);
        refused(x, "ticks 0", x.hands(0, 1, 0, 0), 1);
        refused(x, "ticks 101", x.hands(0, 1, 101, 0), 1);
        refused(x, "most -1", x.hands(0, 1, 1, -1), 1);
        refused(x, "most 10001", x.hands(0, 1, 1, 10001), 1);
        refused(x, "wrong and missing", x.hands(1, 1, 1, -1), 1);
        refused(x, "too few", x.hands(0, 4, 1, 0), 3);
        refused(x, "101 come", x.hands(0, 3, 1, 0), 1);
        done(x, "hands for 0", x.hands(0, 2, 10, 0), 5);
        done(x, "hands for 9", x.hands(0, 2, 10, 9), 5);
        done(x, "hands for 10", x.hands(0, 2, 10, 10), 3);
        done(x, "hands for 20", x.hands(0, 2, 10, 20), 2);
        done(x, "hands for 39", x.hands(0, 2, 10, 39), 2);
        done(x, "hands for 40", x.hands(0, 2, 10, 40), 1);
        done(x, "hands for 10000", x.hands(0, 2, 10, 10000), 1);
        x.write(0, 0, 20);
        done(x, "twenty", x.hands(0, 1, 1, 0), 20);
        x.write(0, 0, 21);
        refused(x, "twenty-one", x.hands(0, 1, 1, 0), 7);
        x.write(0, 0, 0);
        done(x, "none comes", x.hands(0, 1, 1, 0), 1);
    }

    private static void wanted() {
        promise = 24;
        MachineHall x = new MachineHall();
        refused(x, "sheet 6", x.wanted(6), 1);
        refused(x, "sheet -1", x.wanted(-1), 1);
        refused(x, "missing", x.wanted(0), 2);
        fill(x, 0, 1, 0, 0, 0, 0, 0, 0, 0, 0, 0, 0, 501);
        refused(x, "too few", x.wanted(0), 3);
        fill(x, 0, 1, 0, 0, 0, 0, 0, 0, 0, 0, 0, 0, 0, 501, -9);
        refused(x, "501", x.wanted(0), 1);
        x.write(0, 11, -1);
        refused(x, "-1", x.wanted(0), 1);
        done(x, "still nothing is wanted", x.cheapest(), 0);
        x.write(0, 11, 500);
        done(x, "500, and a thirteenth number", x.wanted(0));
        refused(x, "cheapest", x.cheapest(), 7);
        x.have(499);
        refused(x, "cheapest", x.cheapest(), 7);
        x.have(500);
        done(x, "cheapest", x.cheapest(), 0);
        x.have(0);
        fill(x, 0, 0, 1, 0, 0, 0, 0, 0, 0, 0, 0, 0, 0, 0);
        done(x, "wanted in month 0", x.wanted(0));
        x.write(0, 0, 0);
        refused(x, "cheapest: it has the numbers as they were", x.cheapest(), 7);
        done(x, "wanted again", x.wanted(0));
        done(x, "cheapest", x.cheapest(), 0);
    }

    private static void have() {
        promise = 25;
        MachineHall x = new MachineHall();
        fill(x, 0, 1, 0, 0, 0, 0, 0, 7, 0, 0, 0, 0, 0, 0);
        x.wanted(0);
        refused(x, "have(-1)", x.have(-1), 1);
        refused(x, "have(501)", x.have(501), 1);
        done(x, "have(6)", x.have(6));
        refused(x, "cheapest", x.cheapest(), 7);
        done(x, "have(7)", x.have(7));
        done(x, "cheapest", x.cheapest(), 0);
        refused(x, "have(501)", x.have(501), 1);
        done(x, "cheapest", x.cheapest(), 0);
        done(x, "have(0)", x.have(0));
        refused(x, "cheapest", x.cheapest(), 7);
        done(x, "have(500)", x.have(500));
        done(x, "cheapest", x.cheapest(), 0);
    }

    private static void type() {
        promise = 26;
        MachineHall x = new MachineHall();
        refused(x, "missing", x.type(1, 0, 0, 0), 2);
        refused(x, "wrong and missing", x.type(0, 0, 0, 0), 1);
        x.sheet(0, 2, 12);
        refused(x, "size 0", x.type(0, 0, 0, 0), 1);
        refused(x, "size 101", x.type(101, 0, 0, 0), 1);
        refused(x, "lead -1", x.type(1, -1, 0, 0), 1);
        refused(x, "lead 12", x.type(1, 12, 0, 0), 1);
        refused(x, "sheet 6", x.type(1, 0, 6, 0), 1);
        refused(x, "sheet -1", x.type(1, 0, -1, 0), 1);
        refused(x, "power -1", x.type(1, 0, 0, -1), 1);
        refused(x, "power 1001", x.type(1, 0, 0, 1001), 1);
        x.sheet(1, 2, 11);
        refused(x, "too few", x.type(1, 0, 1, 0), 3);
        x.write(0, 11, 100001);
        refused(x, "price 100001", x.type(1, 0, 0, 0), 1);
        x.write(0, 11, -1);
        refused(x, "price -1", x.type(1, 0, 0, 0), 1);
        done(x, "count(3)", x.count(3), 0);
        x.write(0, 11, 100000);
        done(x, "type 0", x.type(100, 11, 0, 1000), 0);
        done(x, "type 1", x.type(1, 0, 0, 0), 1);
        done(x, "type 2", x.type(1, 0, 0, 0), 2);
        done(x, "type 3", x.type(1, 0, 0, 0), 3);
        refused(x, "one too many", x.type(1, 0, 0, 0), 4);
        x.write(0, 3, -1);
        refused(x, "a wrong price ahead of too many", x.type(1, 0, 0, 0), 1);
        refused(x, "too few ahead of too many", x.type(1, 0, 1, 0), 3);
        refused(x, "missing ahead of too many", x.type(1, 0, 2, 0), 2);
        done(x, "count(3)", x.count(3), 4);
    }

    private static void cheapest() {
        promise = 27;
        MachineHall x = new MachineHall();
        fill(x, 0, 1, 0, 3, 3, 3, 3, 3, 3, 3, 3, 3, 3, 10);
        fill(x, 1, 2, 50, 40, 30, 20, 10, 9, 8, 7, 6, 5, 4, 3);
        x.wanted(0);
        x.type(3, 2, 1, 1);
        refused(x, "lead 2 can't be there in month 1", x.cheapest(), 7);
        x.type(4, 0, 1, 2);
        // type 1 in month 1: 40 + 2 * 11; in month 11 6 more: two of 3 ordered in month 9 (5 + 1) or of 4 (3 + 2)
        done(x, "cheapest", x.cheapest(), 62 + 10);
        x.have(3);
        done(x, "cheapest", x.cheapest(), 10);
        x.have(10);
        done(x, "cheapest", x.cheapest(), 0);
        x.have(9);
        done(x, "cheapest", x.cheapest(), 5);
        // the dearest: 500 of size 1 from month 0 on
        MachineHall y = new MachineHall();
        y.sheet(0, 2, 12);
        for (int i = 0; i < 12; i++) {
            y.write(0, i, 500);
        }
        y.wanted(0);
        for (int i = 0; i < 12; i++) {
            y.write(0, i, 100000);
        }
        y.type(1, 0, 0, 1000);
        done(y, "the dearest", y.cheapest(), 500 * 112000);
        done(y, "buys(0, 0)", y.buys(0, 0), 500);
    }

    private static void buys() {
        promise = 28;
        MachineHall x = new MachineHall();
        refused(x, "buys(0, 0)", x.buys(0, 0), 1);
        fill(x, 0, 1, 0, 0, 2, 2, 2, 6, 6, 6, 6, 6, 6, 6);
        x.wanted(0);
        x.sheet(1, 2, 12);
        x.type(2, 1, 1, 0);
        x.type(1, 2, 1, 0);
        refused(x, "buys(12, 0)", x.buys(12, 0), 1);
        refused(x, "buys(-1, 0)", x.buys(-1, 0), 1);
        refused(x, "buys(0, -1)", x.buys(0, -1), 1);
        refused(x, "buys(0, 2)", x.buys(0, 2), 1);
        done(x, "cheapest", x.cheapest(), 0);
        // all free: the fewest as late as can be, of the first type the fewest
        for (int month = 0; month < 12; month++) {
            done(x, "buys(" + month + ", 0)", x.buys(month, 0), 0);
            done(x, "buys(" + month + ", 1)", x.buys(month, 1), month == 2 ? 2 : month == 5 ? 4 : 0);
        }
        x.have(5);
        done(x, "buys(2, 1)", x.buys(2, 1), 0);
        done(x, "buys(5, 1)", x.buys(5, 1), 1);
        x.have(0);
        fill(x, 0, 1, 1, 0, 0, 0, 0, 0, 0, 0, 0, 0, 0, 0);
        x.wanted(0);
        refused(x, "buys(0, 0)", x.buys(0, 0), 7);
        refused(x, "buys(0, 2)", x.buys(0, 2), 1);
        x.type(1, 0, 1, 0);
        done(x, "buys(0, 2)", x.buys(0, 2), 1);
        done(x, "buys(0, 0)", x.buys(0, 0), 0);
        // two of 3 cost as much as one of 6; in the same month type 0 comes ahead
        MachineHall y = new MachineHall();
        fill(y, 0, 1, 0, 0, 0, 0, 6, 6, 6, 6, 6, 6, 6, 6);
        y.wanted(0);
        fill(y, 1, 2, 1, 1, 1, 1, 1, 1, 1, 1, 1, 1, 1, 1);
        fill(y, 2, 2, 2, 2, 2, 2, 2, 2, 2, 2, 2, 2, 2, 2);
        y.type(3, 0, 1, 0);
        y.type(6, 4, 2, 0);
        done(y, "cheapest", y.cheapest(), 2);
        done(y, "buys(4, 0)", y.buys(4, 0), 0);
        done(y, "buys(4, 1)", y.buys(4, 1), 1);
        fill(y, 2, 2, 1, 2, 2, 2, 2, 2, 2, 2, 2, 2, 2, 2);
        y.type(6, 4, 2, 0);
        done(y, "cheapest", y.cheapest(), 1);
        done(y, "buys(4, 1)", y.buys(4, 1), 0);
        done(y, "buys(4, 2)", y.buys(4, 2), 1);
    }

    /** A hall with something of each in it, made by 20 calls. */
    private static MachineHall furnished() {
        MachineHall x = new MachineHall();
        fill(x, 0, 1, 3, 0, 0, 0, 0, 0, 0, 0, 0, 0, 0, 7);
        x.sheet(1, 2, 12);
        x.machine(9, 0);
        x.machine(5, 1);
        x.ask(5, 3, 4);
        x.batch(6, 4, 5, 6);
        x.wanted(0);
        x.type(4, 0, 1, 2);
        return x;
    }

    private interface Call {
        long on(MachineHall x);
    }

    /** An object is used for at most 512 calls: the last ones answer as the first, of one kind and of all. */
    private static void theLastCalls() {
        promise = 1;
        MachineHall y = furnished();
        for (int i = 0; i < 490; i++) {
            due("up, behind " + (20 + i) + " calls", y.up(0, i % 2 == 1), true);
        }
        done(y, "the last call", y.count(4), 14);
        Call[] calls = {x -> x.read(0, 11), x -> x.count(4), x -> x.fits(4, 0), x -> x.on(4, 0, 0), x -> x.lack(3, 1),
            x -> x.left(4, 2), x -> x.enough(2), x -> x.rest(2), x -> x.part(0, 0, 4), x -> x.line(0, 12, 1, 9, 0),
            x -> x.hands(0, 12, 9, 0), x -> x.cheapest(), x -> x.buys(0, 0), x -> x.buys(11, 0)};
        long[] want = {7, 14, 1, 0, 0, 4, -2, 2, 6, 70, 7, 26, 1, 1};
        MachineHall z = furnished();
        for (int i = 0; i < 490; i++) {
            due("one of all, behind " + (20 + i) + " calls", calls[i % 14].on(z), want[i % 14]);
        }
        done(z, "the last call", z.machine(1, 1), 2);
        for (int c = 0; c < calls.length; c++) {
            MachineHall x = furnished();
            for (int i = 0; i < 491; i++) {
                due("call " + c + ", behind " + (20 + i) + " calls", calls[c].on(x), want[c]);
            }
            due("the last status", x.status(), 0);
        }
    }
}
