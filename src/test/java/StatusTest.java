import java.util.Random;

/**
 * Random runs, from fixed seeds, of calls with numbers at and beside their bounds: the status of each (promise 2,
 * Terms 6) against another telling of the state, told sheet by sheet and number by number.
 */
public final class StatusTest {
    private static final int STEPS = 160;
    private static int wrong = 0;
    private static int asked = 0;

    private final Random random;
    private final int seed;
    private final MachineHall x = new MachineHall();
    private final long[][] rows = new long[6][];
    private final int[] sorts = new int[6];
    private int machines;
    private int batches;
    private int types;
    private final boolean[] up = new boolean[12];
    private int asks;
    private final int[] firsts = new int[10];
    private final int[] lasts = new int[10];
    private final boolean[][] apart = new boolean[10][10];
    private final int[] seen = new int[9];
    private String told = "";

    private StatusTest(int seed) {
        this.seed = seed;
        random = new Random(seed);
    }

    public static void main(String[] args) {
        int[] all = new int[9];
        for (int seed = 0; seed < 3000; seed++) {
            StatusTest run = new StatusTest(seed);
            for (int step = 0; step < STEPS; step++) {
                run.step();
            }
            for (int status = 0; status < 9; status++) {
                all[status] += run.seen[status];
            }
        }
        for (int status = 0; status < 9; status++) {
            if (all[status] < 300) {
                wrong++;
                System.out.println("status " + status + " was due but " + all[status] + " times");
            }
        }
        System.out.println("StatusTest: " + asked + " answers asked, " + wrong + " wrong");
        if (wrong != 0) {
            System.exit(1);
        }
    }

    // ---- numbers at and beside their bounds

    private int near(int least, int greatest) {
        switch (random.nextInt(40)) {
            case 0:
                return least - 1;
            case 1:
                return greatest + 1;
            case 2:
                return random.nextBoolean() ? Integer.MIN_VALUE : Integer.MAX_VALUE;
            case 3:
            case 4:
            case 5:
                return least;
            case 6:
            case 7:
            case 8:
                return greatest;
            default:
                return least + random.nextInt(greatest - least + 1);
        }
    }

    private static boolean in(int number, int least, int greatest) {
        return least <= number && number <= greatest;
    }

    private void due(int want, boolean done) {
        due(want, done ? 1 : 0, 0);
    }

    /** Whether the status is the one that is due, and a refused call gives its refusal. */
    private void due(int want, long got, int refusal) {
        asked++;
        seen[want]++;
        int status = x.status();
        if ((status != want || want != 0 && got != refusal) && wrong++ < 40) {
            System.out.println("seed " + seed + ": " + told + " answered " + got + " with status " + status + ", due is " + want);
        }
    }

    private void tell(String name, long... numbers) {
        StringBuilder text = new StringBuilder(name);
        for (long number : numbers) {
            text.append(' ').append(number);
        }
        told = text.toString();
    }

    private void step() {
        switch (random.nextInt(16)) {
            case 0:
                sheet();
                break;
            case 1:
            case 2:
                write();
                break;
            case 3:
                readOrDrop();
                break;
            case 4:
                copy();
                break;
            case 5:
                machine();
                break;
            case 6:
                up();
                break;
            case 7:
                ask();
                break;
            case 8:
                apart();
                break;
            case 9:
                hourAndFall();
                break;
            case 10:
                on();
                break;
            case 11:
                batch();
                break;
            case 12:
                line();
                break;
            case 13:
                hands();
                break;
            case 14:
                buying();
                break;
            default:
                countOrNone();
                break;
        }
    }

    // ---- sheets

    private void sheet() {
        int s = near(0, 5);
        int sort = near(0, 3);
        int many = random.nextInt(3) == 0 ? near(0, 64) : near(11, 13);
        tell("sheet", s, sort, many);
        boolean done = x.sheet(s, sort, many);
        boolean can = in(s, 0, 5) && in(sort, 0, 3) && in(many, 0, 64);
        if (can) {
            rows[s] = new long[many];
            sorts[s] = sort;
        }
        due(can ? 0 : 1, done);
    }

    private int whyNoPlace(int s, int place) {
        return !in(s, 0, 5) ? 1 : rows[s] == null ? 2 : in(place, 0, rows[s].length - 1) ? 0 : 3;
    }

    private void write() {
        int s = near(0, 5);
        int place = random.nextInt(4) == 0 ? near(0, 64) : near(0, 12);
        long v = random.nextInt(9) == 0 ? random.nextLong() : near(0, random.nextBoolean() ? 100 : 500);
        tell("write", s, place, v);
        boolean done = x.write(s, place, v);
        int why = whyNoPlace(s, place);
        if (why == 0) {
            int off = 64 - (8 << sorts[s]);
            rows[s][place] = v << off >> off;
        }
        due(why, done);
    }

    private void readOrDrop() {
        int s = near(0, 5);
        if (random.nextInt(3) == 0) {
            tell("drop", s);
            boolean done = x.drop(s);
            int why = !in(s, 0, 5) ? 1 : rows[s] == null ? 2 : 0;
            if (why == 0) {
                rows[s] = null;
            }
            due(why, done);
            return;
        }
        int place = near(0, 13);
        tell("read", s, place);
        long got = x.read(s, place);
        int why = whyNoPlace(s, place);
        due(why, got, -1);
        if (why == 0 && got != rows[s][place] && wrong++ < 40) {
            System.out.println("seed " + seed + ": " + told + " answered " + got + ", due is " + rows[s][place]);
        }
    }

    private void copy() {
        int from = near(0, 5);
        int to = near(0, 5);
        int place = near(0, 7);
        int at = near(0, 7);
        int many = near(0, 7);
        tell("copy", from, place, to, at, many);
        boolean done = x.copy(from, place, to, at, many);
        int why = !in(from, 0, 5) || !in(to, 0, 5) || place < 0 || at < 0 || many < 0 ? 1
            : rows[from] == null || rows[to] == null ? 2
            : (long) place + many > rows[from].length || (long) at + many > rows[to].length ? 3 : 0;
        if (why == 0) {
            long[] was = rows[from].clone();
            int off = 64 - (8 << sorts[to]);
            for (int i = 0; i < many; i++) {
                rows[to][at + i] = was[place + i] << off >> off;
            }
        }
        due(why, done);
    }

    // ---- machines, asks

    private void machine() {
        int size = near(1, 100);
        int room = near(0, 3);
        tell("machine", size, room);
        int got = x.machine(size, room);
        int why = !in(size, 1, 100) || !in(room, 0, 3) ? 1 : machines == 12 ? 4 : 0;
        if (why == 0) {
            up[machines++] = true;
        }
        due(why, got, -1);
    }

    private void up() {
        int m = near(0, Math.max(0, machines - 1));
        boolean is = random.nextBoolean();
        tell("up", m, is ? 1 : 0);
        boolean done = x.up(m, is);
        int why = !in(m, 0, machines - 1) ? 1 : up[m] == is ? 5 : 0;
        if (why == 0) {
            up[m] = is;
        }
        due(why, done);
    }

    private void ask() {
        int need = near(1, 100);
        int first = near(0, 23);
        int last = random.nextBoolean() ? near(0, 23) : near(Math.max(0, Math.min(22, first)), 23);
        tell("ask", need, first, last);
        int got = x.ask(need, first, last);
        int why = !in(need, 1, 100) || !in(first, 0, 23) || !in(last, 0, 23) || first > last ? 1 : asks == 10 ? 4 : 0;
        if (why == 0) {
            firsts[asks] = first;
            lasts[asks++] = last;
        }
        due(why, got, -1);
    }

    private void apart() {
        int a = near(0, Math.max(0, asks - 1));
        int b = near(0, Math.max(0, asks - 1));
        boolean is = random.nextInt(3) > 0;
        tell("apart", a, b, is ? 1 : 0);
        boolean done = x.apart(a, b, is);
        int why = !in(a, 0, asks - 1) || !in(b, 0, asks - 1) || a == b ? 1 : apart[a][b] == is ? 5 : 0;
        if (why == 0) {
            apart[a][b] = is;
            apart[b][a] = is;
        }
        due(why, done);
    }

    private void hourAndFall() {
        int hour = near(0, 23);
        int fall = near(0, 16);
        int why = in(hour, 0, 23) && in(fall, 0, 16) ? 0 : 1;
        int which = random.nextInt(4);
        tell("fits, lack, left or enough: " + which, hour, fall);
        if (which == 0) {
            due(why, x.fits(hour, fall), -1);
        } else if (which == 1) {
            due(why, x.lack(hour, fall), -1);
        } else if (which == 2) {
            due(why, x.left(hour, fall), -1);
        } else {
            int depth = near(0, 2);
            tell("enough", depth);
            due(in(depth, 0, 2) ? 0 : 1, x.enough(depth), -1);
        }
    }

    private void on() {
        int hour = near(0, 23);
        int fall = near(0, 16);
        int ask = near(0, Math.max(0, asks - 1));
        int why = !in(hour, 0, 23) || !in(fall, 0, 16) || !in(ask, 0, asks - 1) || hour < firsts[ask] || hour > lasts[ask] ? 1
            : x.fits(hour, fall) == 0 ? 6 : 0;
        tell("on", hour, fall, ask);
        due(why, x.on(hour, fall, ask), -1);
    }

    // ---- batches, lines

    private void batch() {
        int fall = near(0, 16);
        if (random.nextInt(3) == 0) {
            int work = random.nextBoolean() ? near(1, 10000) : near(1, 30);
            int from = near(0, 23);
            int due = random.nextBoolean() ? near(1, 24) : near(Math.max(0, Math.min(23, from)) + 1, 24);
            int most = near(1, 1000);
            tell("batch", work, from, due, most);
            int got = x.batch(work, from, due, most);
            int why = !in(work, 1, 10000) || !in(from, 0, 23) || !in(due, 1, 24) || due <= from || !in(most, 1, 1000) ? 1
                : batches == 8 ? 4 : 0;
            batches += why == 0 ? 1 : 0;
            due(why, got, -1);
        } else if (random.nextBoolean()) {
            tell("rest", fall);
            due(in(fall, 0, 16) ? 0 : 1, x.rest(fall), -1);
        } else {
            int batch = near(0, Math.max(0, batches - 1));
            int hour = near(0, 23);
            int why = !in(fall, 0, 16) || !in(batch, 0, batches - 1) || !in(hour, 0, 23) ? 1 : x.rest(fall) > 0 ? 7 : 0;
            tell("part", fall, batch, hour);
            due(why, x.part(fall, batch, hour), -1);
        }
    }

    private int whyNotFirst(int s, int many, long greatest) {
        if (rows[s] == null) {
            return 2;
        }
        if (many > rows[s].length) {
            return 3;
        }
        for (int i = 0; i < many; i++) {
            if (rows[s][i] < 0 || rows[s][i] > greatest) {
                return 1;
            }
        }
        return 0;
    }

    private void line() {
        int s = near(0, 5);
        int many = random.nextInt(4) == 0 ? near(1, 64) : near(1, 12);
        int hands = near(1, 20);
        int ticks = near(1, 100);
        int what = near(0, 4);
        tell("line", s, many, hands, ticks, what);
        boolean can = in(s, 0, 5) && in(many, 1, 64) && in(hands, 1, 20) && in(ticks, 1, 100) && in(what, 0, 4);
        due(can ? whyNotFirst(s, many, 100) : 1, x.line(s, many, hands, ticks, what), -1);
    }

    private void hands() {
        int s = near(0, 5);
        int many = random.nextInt(4) == 0 ? near(1, 64) : near(1, 6);
        int ticks = near(1, 100);
        int most = random.nextBoolean() ? near(0, 10000) : near(0, 60);
        boolean can = in(s, 0, 5) && in(many, 1, 64) && in(ticks, 1, 100) && in(most, 0, 10000);
        int why = can ? whyNotFirst(s, many, 100) : 1;
        why = why == 0 && x.line(s, many, 20, ticks, 0) > most ? 7 : why;
        tell("hands", s, many, ticks, most);
        due(why, x.hands(s, many, ticks, most), -1);
    }

    // ---- buying, and the rest

    private void buying() {
        int s = near(0, 5);
        switch (random.nextInt(5)) {
            case 0:
                tell("wanted", s);
                due(in(s, 0, 5) ? whyNotFirst(s, 12, 500) : 1, x.wanted(s));
                break;
            case 1:
                int have = near(0, 500);
                tell("have", have);
                due(in(have, 0, 500) ? 0 : 1, x.have(have));
                break;
            case 2:
            case 3:
                int size = near(1, 100);
                int lead = near(0, 11);
                int power = near(0, 1000);
                tell("type", size, lead, s, power);
                int got = x.type(size, lead, s, power);
                boolean can = in(size, 1, 100) && in(lead, 0, 11) && in(s, 0, 5) && in(power, 0, 1000);
                int why = can ? whyNotFirst(s, 12, 100000) : 1;
                why = why == 0 && types == 4 ? 4 : why;
                types += why == 0 ? 1 : 0;
                due(why, got, -1);
                break;
            default:
                int month = near(0, 11);
                int type = near(0, Math.max(0, types - 1));
                boolean enough = x.cheapest() >= 0;
                tell("cheapest");
                due(enough ? 0 : 7, enough ? 0 : -1, -1);
                tell("buys", month, type);
                due(!in(month, 0, 11) || !in(type, 0, types - 1) ? 1 : enough ? 0 : 7, x.buys(month, type), -1);
                break;
        }
    }

    private void countOrNone() {
        if (random.nextInt(4) == 0) {
            tell("none");
            due(8, x.none());
            return;
        }
        int what = near(0, 4);
        tell("count", what);
        int got = x.count(what);
        due(in(what, 0, 4) ? 0 : 1, got, -1);
        int[] counts = {machines, asks, batches, types};
        if (in(what, 0, 3) && got != counts[what] && wrong++ < 40) {
            System.out.println("seed " + seed + ": " + told + " answered " + got + ", due is " + counts[what]);
        }
    }
}
