import java.util.ArrayDeque;
import java.util.Arrays;
import java.util.Random;

/** Random runs, from fixed seeds, against other and slower ways to the same answers. */
public final class BruteForceTest {
    private static int wrong = 0;
    private static int asked = 0;

    private static void due(String call, long got, long want) {
        asked++;
        if (got != want && wrong++ < 50) {
            System.out.println(call + " answered " + got + ", due is " + want);
        }
    }

    public static void main(String[] args) {
        for (int seed = 0; seed < 800; seed++) {
            hall(new Random(seed), seed);
        }
        for (int seed = 0; seed < 60; seed++) {
            wideHall(new Random(seed), seed);
        }
        for (int seed = 0; seed < 600; seed++) {
            batches(new Random(seed), seed);
        }
        for (int seed = 0; seed < 2000; seed++) {
            fullBatches(new Random(seed), seed);
        }
        for (int seed = 0; seed < 400; seed++) {
            lines(new Random(seed), seed);
        }
        for (int seed = 0; seed < 120; seed++) {
            buying(new Random(seed), seed);
        }
        for (int seed = 0; seed < 60; seed++) {
            fewBuys(new Random(seed), seed);
        }
        for (int seed = 0; seed < 1500; seed++) {
            sheets(new Random(seed), seed);
        }
        dearest();
        System.out.println("BruteForceTest: " + asked + " answers asked, " + wrong + " wrong");
        if (wrong != 0) {
            System.exit(1);
        }
    }

    // ---- machines and asks: every way to put each ask on a machine

    private static final class Day {
        int machines;
        int asks;
        int[] size = new int[12];
        int[] room = new int[12];
        boolean[] up = new boolean[12];
        int[] need = new int[10];
        int[] first = new int[10];
        int[] last = new int[10];
        boolean[][] apart = new boolean[10][10];

        boolean stands(int machine, int fall) {
            return up[machine] && fall != machine + 1 && fall != 13 + room[machine];
        }

        int setOf(int hour) {
            int set = 0;
            for (int a = 0; a < asks; a++) {
                set |= first[a] <= hour && hour <= last[a] ? 1 << a : 0;
            }
            return set;
        }

        int needs(int set) {
            int sum = 0;
            for (int a = 0; a < asks; a++) {
                sum += (set >> a & 1) * need[a];
            }
            return sum;
        }

        /** The laying of a set (sets by machine), null if it can't be held. */
        int[] laying(int set, int fall) {
            int[] best = new int[12];
            best[0] = -1;
            put(set, fall, 0, new int[12], best);
            return best[0] < 0 ? null : best;
        }

        private void put(int set, int fall, int ask, int[] sets, int[] best) {
            if (ask == asks) {
                if (Arrays.compare(sets, best) > 0) {
                    System.arraycopy(sets, 0, best, 0, 12);
                }
                return;
            }
            if ((set >> ask & 1) == 0) {
                put(set, fall, ask + 1, sets, best);
                return;
            }
            for (int m = 0; m < machines; m++) {
                if (stands(m, fall) && needs(sets[m]) + need[ask] <= size[m] && peace(sets[m], ask)) {
                    sets[m] |= 1 << ask;
                    put(set, fall, ask + 1, sets, best);
                    sets[m] ^= 1 << ask;
                }
            }
        }

        private boolean peace(int set, int ask) {
            for (int a = 0; a < asks; a++) {
                if ((set >> a & 1) != 0 && apart[a][ask]) {
                    return false;
                }
            }
            return true;
        }

        int lack(int hour, int fall) {
            int all = setOf(hour);
            int most = 0;
            for (int set = 0; set < 1 << asks; set++) {
                if ((set & ~all) == 0 && needs(set) > most && laying(set, fall) != null) {
                    most = needs(set);
                }
            }
            return needs(all) - most;
        }

        int left(int hour, int fall) {
            if (laying(setOf(hour), fall) == null) {
                return 0;
            }
            int sum = 0;
            for (int m = 0; m < machines; m++) {
                sum += stands(m, fall) ? size[m] : 0;
            }
            return sum - needs(setOf(hour));
        }

        int enough(int depth) {
            for (int hour = 0; hour < 24; hour++) {
                for (int fall = 0; fall <= 16; fall++) {
                    boolean looked = fall == 0 || depth >= 1 && fall <= machines || depth == 2 && fall >= 13;
                    if (looked && laying(setOf(hour), fall) == null) {
                        return 100 * hour + fall;
                    }
                }
            }
            return -2;
        }
    }

    private static void grow(Random r, MachineHall x, Day d, int machines, int asks, int span) {
        while (d.machines < machines) {
            int m = d.machines++;
            d.size[m] = 1 + r.nextInt(12);
            d.room[m] = r.nextInt(4);
            d.up[m] = true;
            due("machine", x.machine(d.size[m], d.room[m]), m);
            if (r.nextInt(4) == 0) {
                d.up[m] = false;
                x.up(m, false);
            }
        }
        while (d.asks < asks) {
            int a = d.asks++;
            d.need[a] = 1 + r.nextInt(8);
            d.first[a] = r.nextInt(24);
            d.last[a] = Math.min(23, d.first[a] + r.nextInt(span));
            due("ask", x.ask(d.need[a], d.first[a], d.last[a]), a);
        }
    }

    private static void change(Random r, MachineHall x, Day d) {
        if (r.nextBoolean() && d.machines > 0) {
            int m = r.nextInt(d.machines);
            d.up[m] = !d.up[m];
            due("up", x.up(m, d.up[m]) ? 1 : 0, 1);
        } else if (d.asks > 1) {
            int a = r.nextInt(d.asks);
            int b = (a + 1 + r.nextInt(d.asks - 1)) % d.asks;
            d.apart[a][b] = !d.apart[a][b];
            d.apart[b][a] = d.apart[a][b];
            due("apart", x.apart(a, b, d.apart[a][b]) ? 1 : 0, 1);
        }
    }

    private static void hall(Random r, int seed) {
        MachineHall x = new MachineHall();
        Day d = new Day();
        for (int round = 0; round < 3; round++) {
            grow(r, x, d, Math.min(5, d.machines + r.nextInt(4)), Math.min(6, d.asks + r.nextInt(4)), 24);
            for (int i = 0; i < 4; i++) {
                change(r, x, d);
                String name = "hall " + seed + "." + round + "." + i + " ";
                for (int j = 0; j < 2; j++) {
                    lookAt(name, x, d, r.nextInt(24), r.nextInt(3) == 0 ? 13 + r.nextInt(4) : r.nextInt(d.machines + 1));
                }
                for (int depth = 0; depth < 3; depth++) {
                    due(name + "enough " + depth, x.enough(depth), d.enough(depth));
                }
            }
        }
    }

    // ---- more machines and asks: row by row, which sets the machines from one on can take

    private static void wideHall(Random r, int seed) {
        MachineHall x = new MachineHall();
        Day d = new Day();
        int wide = 6 + r.nextInt(30);
        for (int m = 0; m < 12 - r.nextInt(6); m++) {
            d.machines++;
            d.size[m] = 1 + wide / 4 + r.nextInt(wide);
            d.room[m] = r.nextInt(4);
            d.up[m] = true;
            due("machine", x.machine(d.size[m], d.room[m]), m);
        }
        for (int a = 0; a < 10 - r.nextInt(3); a++) {
            d.asks++;
            d.need[a] = 1 + r.nextInt(wide * 2 / 3);
            d.first[a] = r.nextInt(4);
            d.last[a] = 4 + r.nextInt(20);
            due("ask", x.ask(d.need[a], d.first[a], d.last[a]), a);
        }
        for (int i = 0; i < 12; i++) {
            change(r, x, d);
            int hour = 3 + r.nextInt(8);
            int fall = r.nextInt(17);
            lookWide("wide hall " + seed + "." + i + " " + hour + " " + fall + " ", x, d, hour, fall);
        }
    }

    private static void lookWide(String name, MachineHall x, Day d, int hour, int fall) {
        boolean[][] can = rows(d, fall);
        int all = d.setOf(hour);
        int most = 0;
        for (int set = 0; set < 1 << d.asks; set++) {
            most = (set & ~all) == 0 && can[0][set] ? Math.max(most, d.needs(set)) : most;
        }
        due(name + "fits", x.fits(hour, fall), can[0][all] ? 1 : 0);
        due(name + "lack", x.lack(hour, fall), d.needs(all) - most);
        int others = all;
        for (int m = 0; m < d.machines && can[0][all]; m++) {
            int laid = others;
            while (!takes(d, m, fall, laid) || !can[m + 1][others ^ laid]) {
                laid = (laid - 1) & others;
            }
            for (int a = 0; a < d.asks; a++) {
                if ((laid >> a & 1) != 0) {
                    due(name + "on " + a, x.on(hour, fall, a), m);
                }
            }
            others ^= laid;
        }
    }

    private static boolean[][] rows(Day d, int fall) {
        boolean[][] can = new boolean[d.machines + 1][1 << d.asks];
        can[d.machines][0] = true;
        for (int m = d.machines - 1; m >= 0; m--) {
            for (int taken = 0; taken < 1 << d.asks; taken++) {
                if (takes(d, m, fall, taken)) {
                    for (int behind = 0; behind < 1 << d.asks; behind++) {
                        can[m][taken | behind] |= (taken & behind) == 0 && can[m + 1][behind];
                    }
                }
            }
        }
        return can;
    }

    private static boolean takes(Day d, int machine, int fall, int set) {
        boolean calm = true;
        for (int a = 0; a < d.asks; a++) {
            calm &= (set >> a & 1) == 0 || d.peace(set, a);
        }
        return set == 0 || d.stands(machine, fall) && d.needs(set) <= d.size[machine] && calm;
    }

    private static void lookAt(String name, MachineHall x, Day d, int hour, int fall) {
        int set = d.setOf(hour);
        int[] laying = d.laying(set, fall);
        due(name + "fits " + hour + " " + fall, x.fits(hour, fall), laying != null ? 1 : 0);
        due(name + "lack " + hour + " " + fall, x.lack(hour, fall), d.lack(hour, fall));
        due(name + "left " + hour + " " + fall, x.left(hour, fall), d.left(hour, fall));
        for (int a = 0; a < d.asks; a++) {
            int on = x.on(hour, fall, a);
            if ((set >> a & 1) == 0) {
                due(name + "status of on, not of the hour", x.status(), 1);
            } else if (laying == null) {
                due(name + "status of on, does not fit", x.status(), 6);
            } else {
                int want = -1;
                for (int m = 0; m < d.machines; m++) {
                    want = (laying[m] >> a & 1) != 0 ? m : want;
                }
                due(name + "on " + hour + " " + fall + " " + a, on, want);
            }
        }
    }

    // ---- batches: what can be laid in by the narrowest cut, the plan by trying the greatest parts

    private static final class Work {
        int batches;
        int[] work = new int[8];
        int[] from = new int[8];
        int[] due = new int[8];
        int[] most = new int[8];
        int[] left = new int[24];
        /** Parts that are fixed already, -1 where they are open. */
        int[][] fixed = new int[8][24];

        int greatest() {
            int bits = 0;
            for (int h = 0; h < 24; h++) {
                bits |= inAny(h) ? 1 << h : 0;
            }
            int laid = Integer.MAX_VALUE;
            for (int cut = bits;; cut = (cut - 1) & bits) {
                laid = Math.min(laid, across(cut, bits));
                if (cut == 0) {
                    return laid;
                }
            }
        }

        private boolean inAny(int hour) {
            for (int b = 0; b < batches; b++) {
                if (from[b] <= hour && hour < due[b]) {
                    return true;
                }
            }
            return false;
        }

        private int across(int cut, int bits) {
            int sum = 0;
            for (int h = 0; h < 24; h++) {
                sum += (cut >> h & 1) * left[h];
            }
            for (int b = 0; b < batches; b++) {
                int wide = 0;
                for (int h = from[b]; h < due[b]; h++) {
                    wide += (cut >> h & 1) == 0 && fixed[b][h] < 0 ? most[b] : 0;
                }
                sum += Math.min(work[b], wide);
            }
            return sum;
        }

        int total() {
            int sum = 0;
            for (int b = 0; b < batches; b++) {
                sum += work[b];
            }
            return sum;
        }

        /** Takes a part out of work and left, so that what is open still can be asked. */
        boolean canFix(int b, int h, int part) {
            if (part > work[b] || part > left[h]) {
                return false;
            }
            work[b] -= part;
            left[h] -= part;
            fixed[b][h] = part;
            if (greatest() == total()) {
                return true;
            }
            work[b] += part;
            left[h] += part;
            fixed[b][h] = -1;
            return false;
        }
    }

    private static void batches(Random r, int seed) {
        MachineHall x = new MachineHall();
        Day d = new Day();
        grow(r, x, d, 1 + r.nextInt(4), r.nextInt(6), 6);
        int start = r.nextInt(18);
        int[] work = new int[8];
        int[] from = new int[8];
        int[] due = new int[8];
        int[] most = new int[8];
        int count = 1 + r.nextInt(r.nextBoolean() ? 3 : 8);
        for (int b = 0; b < count; b++) {
            work[b] = 1 + r.nextInt(r.nextBoolean() ? 12 : 30);
            from[b] = start + r.nextInt(6);
            due[b] = from[b] + 1 + r.nextInt(start + 6 - from[b]);
            most[b] = 1 + r.nextInt(10);
            due("batch", x.batch(work[b], from[b], due[b], most[b]), b);
            if (b == 0 || r.nextInt(3) == 0) {
                look(r, "batches " + seed + "." + b + " ", x, d, new int[][] {work, from, due, most}, b + 1);
            }
        }
        for (int i = 0; i < 3; i++) {
            look(r, "batches " + seed + " changed " + i + " ", x, d, new int[][] {work, from, due, most}, count);
            change(r, x, d);
        }
    }

    /** Batches made of parts that fill what is left, or nearly: each part stands in the way of others. */
    private static void fullBatches(Random r, int seed) {
        MachineHall x = new MachineHall();
        Day d = new Day();
        d.machines = 1;
        d.size[0] = 1 + r.nextInt(4);
        d.up[0] = true;
        due("machine", x.machine(d.size[0], 0), 0);
        grow(r, x, d, 1, r.nextInt(3), 3);
        int start = r.nextInt(18);
        int end = start + 2 + r.nextInt(5);
        int[][] laid = new int[2 + r.nextInt(7)][24];
        for (int h = start; h < end; h++) {
            for (int left = d.left(h, 0); left > 0; left--) {
                laid[r.nextInt(laid.length)][h] += r.nextInt(8) > 0 ? 1 : 0;
            }
        }
        int[][] told = new int[4][8];
        int count = 0;
        for (int[] row : laid) {
            int first = start;
            int last = end - 1;
            int work = Arrays.stream(row).sum();
            if (work > 0) {
                while (row[first] == 0 && r.nextInt(4) > 0) {
                    first++;
                }
                while (row[last] == 0 && r.nextInt(4) > 0) {
                    last--;
                }
                int most = Arrays.stream(row).max().getAsInt() + r.nextInt(2) * r.nextInt(3);
                due("batch", x.batch(work, first, last + 1, most), count);
                int[] batch = {work, first, last + 1, most};
                for (int i = 0; i < 4; i++) {
                    told[i][count] = batch[i];
                }
                count++;
            }
        }
        look(r, "full batches " + seed + " ", x, d, told, count);
    }

    private static void look(Random r, String name, MachineHall x, Day d, int[][] told, int count) {
        int fall = r.nextInt(3) == 0 ? r.nextInt(17) : 0;
        Work w = new Work();
        w.batches = count;
        for (int b = 0; b < count; b++) {
            w.work[b] = told[0][b];
            w.from[b] = told[1][b];
            w.due[b] = told[2][b];
            w.most[b] = told[3][b];
            Arrays.fill(w.fixed[b], -1);
        }
        for (int h = 0; h < 24; h++) {
            w.left[h] = d.left(h, fall);
        }
        int rest = w.total() - w.greatest();
        due(name + "rest " + fall, x.rest(fall), rest);
        for (int b = 0; b < count; b++) {
            for (int h = w.from[b]; h < w.due[b]; h++) {
                int part = x.part(fall, b, h);
                if (rest > 0) {
                    due(name + "part", part, -1);
                    due(name + "status of part", x.status(), 7);
                    return;
                }
                int want = w.most[b];
                while (want >= 0 && !w.canFix(b, h, want)) {
                    want--;
                }
                due(name + "part " + fall + " " + b + " " + h, part, want);
            }
        }
    }

    // ---- lines: tick by tick

    private static void lines(Random r, int seed) {
        MachineHall x = new MachineHall();
        int many = 1 + r.nextInt(64);
        int[] come = new int[many];
        x.sheet(3, r.nextInt(4), many);
        int thick = 1 + r.nextInt(r.nextBoolean() ? 4 : 101);
        for (int i = 0; i < many; i++) {
            come[i] = r.nextInt(3) == 0 ? r.nextInt(thick) : 0;
            x.write(3, i, come[i]);
        }
        for (int i = 0; i < 6; i++) {
            int first = 1 + r.nextInt(many);
            int hands = 1 + r.nextInt(20);
            int ticks = 1 + r.nextInt(r.nextBoolean() ? 5 : 100);
            long[] want = serve(come, first, hands, ticks);
            for (int what = 0; what < 5; what++) {
                due("line " + seed + " " + what, x.line(3, first, hands, ticks, what), want[what]);
            }
            int most = r.nextInt(r.nextBoolean() ? 20 : 10001);
            int fewest = -1;
            for (int h = 20; h > 0; h--) {
                fewest = serve(come, first, h, ticks)[0] <= most ? h : fewest;
            }
            due("hands " + seed, x.hands(3, first, ticks, most), fewest);
            due("status of hands " + seed, x.status(), fewest < 0 ? 7 : 0);
        }
    }

    private static long[] serve(int[] come, int first, int hands, int ticks) {
        long[] told = new long[5];
        ArrayDeque<Integer> line = new ArrayDeque<>();
        int[] busy = new int[hands];
        for (int tick = 0; tick < first || !line.isEmpty(); tick++) {
            for (int i = 0; tick < first && i < come[tick]; i++) {
                line.add(tick);
                told[2]++;
            }
            for (int hand = 0; hand < hands; hand++) {
                busy[hand] = Math.max(0, busy[hand] - 1);
                if (busy[hand] == 0 && !line.isEmpty()) {
                    int wait = tick - line.remove();
                    told[0] = Math.max(told[0], wait);
                    told[1] += wait;
                    told[3] += wait > 0 ? 1 : 0;
                    told[4] = tick + ticks;
                    busy[hand] = ticks;
                }
            }
        }
        return told;
    }

    // ---- buying: forward over what is there, with the whole row of buys at each size

    private static final class Shop {
        int[] wanted = new int[12];
        int have;
        int types;
        int[] size = new int[4];
        int[] lead = new int[4];
        int[] power = new int[4];
        int[][] price = new int[4][12];

        long cost(int month, int type) {
            return price[type][month - lead[type]] + (long) power[type] * (12 - month);
        }

        /** The cost, then what is bought by month and type; null if nothing is enough. */
        long[] best() {
            long[][] at = new long[501][];
            at[have] = new long[49];
            for (int month = 0; month < 12; month++) {
                for (int type = 0; type < types; type++) {
                    if (month >= lead[type]) {
                        more(at, month, type);
                    }
                }
                Arrays.fill(at, 0, wanted[month], null);
            }
            long[] best = null;
            for (long[] row : at) {
                best = lesser(best, row);
            }
            return best;
        }

        private void more(long[][] at, int month, int type) {
            for (int there = 0; there < 500; there++) {
                if (at[there] != null) {
                    long[] row = at[there].clone();
                    row[0] += cost(month, type);
                    row[1 + month * 4 + type]++;
                    int then = Math.min(500, there + size[type]);
                    at[then] = lesser(at[then], row);
                }
            }
        }

        long[] lesser(long[] a, long[] b) {
            if (a == null || b == null) {
                return a == null ? b : a;
            }
            return Arrays.compare(a, b) <= 0 ? a : b;
        }

        /** Every way with at most so many buys, for small wants. */
        long[] tried(int buys, int place, long[] row) {
            long[] best = isEnough(row) ? row.clone() : null;
            for (int p = place; buys > 0 && p < 48; p++) {
                if (p % 4 < types && p / 4 >= lead[p % 4]) {
                    row[0] += cost(p / 4, p % 4);
                    row[1 + p]++;
                    best = lesser(best, tried(buys - 1, p, row));
                    row[0] -= cost(p / 4, p % 4);
                    row[1 + p]--;
                }
            }
            return best;
        }

        private boolean isEnough(long[] row) {
            long there = have;
            for (int p = 0; p < 48; p++) {
                there += row[1 + p] * size[p % 4];
                if (p % 4 == 3 && there < wanted[p / 4]) {
                    return false;
                }
            }
            return true;
        }
    }

    private static void sheetOf(MachineHall x, int sheet, int[] numbers) {
        x.sheet(sheet, 2, 12);
        for (int i = 0; i < 12; i++) {
            x.write(sheet, i, numbers[i]);
        }
    }

    private static void want(Random r, MachineHall x, Shop s, int most) {
        int goal = 1 + r.nextInt(most);
        int begin = r.nextInt(8);
        for (int i = 0; i < 12; i++) {
            s.wanted[i] = i < begin || r.nextInt(4) == 0 ? 0 : 1 + r.nextInt(goal);
        }
        sheetOf(x, 0, s.wanted);
        due("wanted", x.wanted(0) ? 1 : 0, 1);
        s.have = r.nextInt(3) == 0 ? r.nextInt(goal + 1) : 0;
        due("have", x.have(s.have) ? 1 : 0, 1);
    }

    private static void type(Random r, MachineHall x, Shop s, int least, int greatest, int dear) {
        int t = s.types++;
        s.size[t] = least + r.nextInt(greatest - least + 1);
        s.lead[t] = r.nextInt(3) == 0 ? r.nextInt(12) : r.nextInt(3);
        s.power[t] = r.nextInt(2) * r.nextInt(Math.min(1001, dear / 4 + 1));
        for (int i = 0; i < 12; i++) {
            s.price[t][i] = r.nextInt(dear + 1);
        }
        sheetOf(x, 1, s.price[t]);
        due("type", x.type(s.size[t], s.lead[t], 1, s.power[t]), t);
    }

    private static void compare(String name, MachineHall x, Shop s, long[] best) {
        due(name + "cheapest", x.cheapest(), best == null ? -1 : best[0]);
        due(name + "status", x.status(), best == null ? 7 : 0);
        for (int p = 0; p < 48; p++) {
            if (p % 4 < s.types) {
                due(name + "buys " + p / 4 + " " + p % 4, x.buys(p / 4, p % 4), best == null ? -1 : best[1 + p]);
            }
        }
    }

    private static void buying(Random r, int seed) {
        MachineHall x = new MachineHall();
        Shop s = new Shop();
        int[] dears = {0, 3, 20, 1000, 100000};
        int dear = dears[r.nextInt(5)];
        for (int i = 0; i < 4; i++) {
            type(r, x, s, 1, r.nextBoolean() ? 6 : 100, dear);
            want(r, x, s, r.nextBoolean() ? 20 : 500);
            compare("buying " + seed + "." + i + " ", x, s, s.best());
        }
    }

    private static void fewBuys(Random r, int seed) {
        MachineHall x = new MachineHall();
        Shop s = new Shop();
        int dear = r.nextInt(12);
        for (int i = 0; i < 4; i++) {
            type(r, x, s, 2, 5, dear);
            want(r, x, s, 6);
            compare("few buys " + seed + "." + i + " ", x, s, s.tried(3, 0, new long[49]));
        }
    }

    // ---- sheets: rows of longs

    private static void sheets(Random r, int seed) {
        MachineHall x = new MachineHall();
        long[][] rows = new long[6][];
        int[] sorts = new int[6];
        // with a status each, and 384 numbers to read at last, no more than an object's 512 calls
        for (int i = 0; i < 60; i++) {
            String name = "sheets " + seed + "." + i + " ";
            int a = r.nextInt(40) == 0 ? 6 : r.nextInt(6);
            int b = r.nextInt(6);
            int act = r.nextInt(20);
            int why;
            if (act < 3) {
                sorts[b] = r.nextInt(4);
                rows[b] = new long[r.nextInt(65)];
                due(name + "sheet", x.sheet(b, sorts[b], rows[b].length) ? 1 : 0, 1);
                why = 0;
            } else if (act < 10) {
                int place = r.nextInt(40) - 1;
                long v = r.nextLong() >> r.nextInt(64);
                why = a == 6 ? 1 : rows[a] == null ? 2 : place < 0 || place >= rows[a].length ? 3 : 0;
                due(name + "write", x.write(a, place, v) ? 1 : 0, why == 0 ? 1 : 0);
                if (why == 0) {
                    rows[a][place] = cut(v, sorts[a]);
                }
            } else if (act == 10) {
                why = a == 6 ? 1 : rows[a] == null ? 2 : 0;
                due(name + "drop", x.drop(a) ? 1 : 0, why == 0 ? 1 : 0);
                if (why == 0) {
                    rows[a] = null;
                }
            } else {
                int place = r.nextInt(40) - 1;
                int at = r.nextInt(40) - 1;
                int many = r.nextInt(20) - 1;
                b = r.nextInt(3) == 0 && a < 6 ? a : b;
                why = a == 6 || place < 0 || at < 0 || many < 0 ? 1 : rows[a] == null || rows[b] == null ? 2
                    : place + many > rows[a].length || at + many > rows[b].length ? 3 : 0;
                due(name + "copy", x.copy(a, place, b, at, many) ? 1 : 0, why == 0 ? 1 : 0);
                if (why == 0) {
                    long[] was = rows[a].clone();
                    for (int j = 0; j < many; j++) {
                        rows[b][at + j] = cut(was[place + j], sorts[b]);
                    }
                }
            }
            due(name + "status", x.status(), why);
        }
        for (int s = 0; s < 6; s++) {
            for (int place = 0; rows[s] != null && place < rows[s].length; place++) {
                due("sheets " + seed + " read " + s + " " + place, x.read(s, place), rows[s][place]);
            }
        }
    }

    private static long cut(long v, int sort) {
        int off = 64 - (8 << sort);
        return v << off >> off;
    }

    // ---- full halls: runs of 512 calls that ask the most of the class

    private static void dearest() {
        MachineHall x = new MachineHall();
        for (int i = 0; i < 12; i++) {
            x.machine(100 - i, i % 4);
        }
        for (int i = 0; i < 10; i++) {
            x.ask(40 + i, 0, 23);
        }
        for (int i = 0; i < 8; i++) {
            x.batch(10000, 0, 24, 1000);
        }
        // 40 and 41 go on one machine: each fall leaves at least nine, which are enough
        due("full hall", x.enough(2), -2);
        for (int a = 0; a < 10; a++) {
            for (int b = 0; b < a; b++) {
                x.apart(a, b, true);
            }
        }
        due("full hall apart", x.enough(1), -2);
        due("full hall apart, a room gone", x.enough(2), 13);
        int sizes = 12 * 100 - 66;
        due("full rest", x.rest(0), 80000 - 24 * (sizes - 445));
        for (int i = 0; i < 100; i++) {
            x.up(i % 12, false);
            x.enough(2);
            x.up(i % 12, true);
            x.rest(i % 17);
        }
        MachineHall y = new MachineHall();
        y.machine(100, 0);
        y.machine(100, 0);
        for (int i = 0; i < 8; i++) {
            y.batch(600, 0, 24, 100);
        }
        for (int i = 0; i < 24; i++) {
            due("full part " + i, y.part(0, 0, i), i < 6 ? 100 : 0);
            due("full part " + i, y.part(0, 7, i), i >= 18 ? 100 : 0);
        }
    }
}
