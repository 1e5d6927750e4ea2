import java.util.Arrays;

public final class MachineHall {
    public static final int NONE = -1;

    private static final int FINE = 0;
    private static final int WRONG = 1;
    private static final int MISSING = 2;
    private static final int SHORT = 3;
    private static final int FULL = 4;
    private static final int ALREADY = 5;
    private static final int UNFIT = 6;
    private static final int IMPOSSIBLE = 7;
    private static final int NO_ACT = 8;

    private static final int HOURS = 24;
    private static final int MONTHS = 12;

    private final Sheets sheets;
    private final Hall hall;
    private final Plan plan;
    private final Waiting waiting;
    private final Market market;
    private int status;

    public MachineHall() {
        sheets = new Sheets();
        hall = new Hall();
        plan = new Plan();
        waiting = new Waiting();
        market = new Market();
        status = FINE;
    }

    public int status() {
        return status;
    }

    // ---- SHEETS

    public boolean sheet(int sheet, int sort, int many) {
        if (!Sheets.isNumber(sheet) || !within(sort, 0, Sheets.LAST_SORT) || !within(many, 0, Sheets.LONGEST)) {
            return refuse(WRONG);
        }
        sheets.make(sheet, sort, many);
        return agree();
    }

    public boolean write(int sheet, int place, long v) {
        int why = sheets.whyNoPlace(sheet, place);
        if (why != FINE) {
            return refuse(why);
        }
        sheets.put(sheet, place, v);
        return agree();
    }

    public long read(int sheet, int place) {
        int why = sheets.whyNoPlace(sheet, place);
        if (why != FINE) {
            return deny(why);
        }
        status = FINE;
        return sheets.at(sheet, place);
    }

    public boolean drop(int sheet) {
        if (!Sheets.isNumber(sheet)) {
            return refuse(WRONG);
        }
        if (sheets.isMissing(sheet)) {
            return refuse(MISSING);
        }
        sheets.lose(sheet);
        return agree();
    }

    public boolean copy(int from, int place, int to, int at, int many) {
        if (!Sheets.isNumber(from) || !Sheets.isNumber(to) || place < 0 || at < 0 || many < 0) {
            return refuse(WRONG);
        }
        if (sheets.isMissing(from) || sheets.isMissing(to)) {
            return refuse(MISSING);
        }
        if (!sheets.spans(from, place, many) || !sheets.spans(to, at, many)) {
            return refuse(SHORT);
        }
        sheets.carry(from, place, to, at, many);
        return agree();
    }

    public boolean none() {
        return refuse(NO_ACT);
    }

    // ---- MACHINES, ASKS

    public int machine(int size, int room) {
        if (!within(size, 1, 100) || !within(room, 0, Hall.ROOMS - 1)) {
            return deny(WRONG);
        }
        if (hall.machines == Hall.MACHINES) {
            return deny(FULL);
        }
        return answer(hall.addMachine(size, room));
    }

    public boolean up(int machine, boolean is) {
        if (!hall.hasMachine(machine)) {
            return refuse(WRONG);
        }
        if (hall.isUp(machine) == is) {
            return refuse(ALREADY);
        }
        hall.turn(machine);
        return agree();
    }

    public int ask(int need, int first, int last) {
        if (!within(need, 1, 100) || !isHour(first) || !isHour(last) || last < first) {
            return deny(WRONG);
        }
        if (hall.asks == Hall.ASKS) {
            return deny(FULL);
        }
        plan.forget();
        return answer(hall.addAsk(need, first, last));
    }

    public boolean apart(int a, int b, boolean is) {
        if (!hall.hasAsk(a) || !hall.hasAsk(b) || a == b) {
            return refuse(WRONG);
        }
        if (hall.areFoes(a, b) == is) {
            return refuse(ALREADY);
        }
        plan.forget();
        hall.turnFoes(a, b);
        return agree();
    }

    public int count(int what) {
        switch (what) {
            case 0:
                return answer(hall.machines);
            case 1:
                return answer(hall.asks);
            case 2:
                return answer(plan.batches);
            case 3:
                return answer(market.types);
            case 4:
                return answer(hall.sizeOf(hall.standing(0)));
            default:
                return deny(WRONG);
        }
    }

    public int fits(int hour, int fall) {
        if (!isHour(hour) || !Hall.isFall(fall)) {
            return deny(WRONG);
        }
        return answer(hall.holds(hour, hall.standing(fall)) ? 1 : 0);
    }

    public int on(int hour, int fall, int ask) {
        if (!isHour(hour) || !Hall.isFall(fall) || !hall.hasAsk(ask) || !hall.isAskOf(ask, hour)) {
            return deny(WRONG);
        }
        if (!hall.holds(hour, hall.standing(fall))) {
            return deny(UNFIT);
        }
        return answer(hall.layingOf(hour, hall.standing(fall), ask));
    }

    public int lack(int hour, int fall) {
        if (!isHour(hour) || !Hall.isFall(fall)) {
            return deny(WRONG);
        }
        return answer(hall.lacking(hour, hall.standing(fall)));
    }

    public int left(int hour, int fall) {
        if (!isHour(hour) || !Hall.isFall(fall)) {
            return deny(WRONG);
        }
        return answer(hall.leftOver(hour, hall.standing(fall)));
    }

    public int enough(int depth) {
        if (!within(depth, 0, 2)) {
            return deny(WRONG);
        }
        return answer(hall.firstUnfit(depth));
    }

    // ---- BATCHES

    public int batch(int work, int from, int due, int most) {
        if (!within(work, 1, 10_000) || !isHour(from) || !within(due, from + 1, HOURS) || !within(most, 1, 1_000)) {
            return deny(WRONG);
        }
        if (plan.batches == Plan.BATCHES) {
            return deny(FULL);
        }
        return answer(plan.addBatch(work, from, due, most));
    }

    public int rest(int fall) {
        if (!Hall.isFall(fall)) {
            return deny(WRONG);
        }
        plan.lay(hall, hall.standing(fall));
        return answer(plan.unlaid);
    }

    public int part(int fall, int batch, int hour) {
        if (!Hall.isFall(fall) || !plan.hasBatch(batch) || !isHour(hour)) {
            return deny(WRONG);
        }
        plan.lay(hall, hall.standing(fall));
        if (plan.unlaid > 0) {
            return deny(IMPOSSIBLE);
        }
        return answer(plan.parts[batch][hour]);
    }

    // ---- A LINE

    public int line(int sheet, int many, int hands, int ticks, int what) {
        if (!isLine(sheet, many, ticks) || !within(hands, 1, Waiting.HANDS) || !within(what, 0, 4)) {
            return deny(WRONG);
        }
        int why = sheets.whyNotFirst(sheet, many, Waiting.COMERS);
        if (why != FINE) {
            return deny(why);
        }
        waiting.serve(sheets, sheet, many, hands, ticks);
        return answer(waiting.told(what));
    }

    public int hands(int sheet, int many, int ticks, int most) {
        if (!isLine(sheet, many, ticks) || !within(most, 0, 10_000)) {
            return deny(WRONG);
        }
        int why = sheets.whyNotFirst(sheet, many, Waiting.COMERS);
        if (why != FINE) {
            return deny(why);
        }
        for (int hands = 1; hands <= Waiting.HANDS; hands++) {
            waiting.serve(sheets, sheet, many, hands, ticks);
            if (waiting.greatest <= most) {
                return answer(hands);
            }
        }
        return deny(IMPOSSIBLE);
    }

    // ---- BUYING

    public boolean wanted(int sheet) {
        if (!Sheets.isNumber(sheet)) {
            return refuse(WRONG);
        }
        int why = sheets.whyNotFirst(sheet, MONTHS, Market.GOAL);
        if (why != FINE) {
            return refuse(why);
        }
        market.want(sheets, sheet);
        return agree();
    }

    public boolean have(int size) {
        if (!within(size, 0, Market.GOAL)) {
            return refuse(WRONG);
        }
        market.own(size);
        return agree();
    }

    public int type(int size, int lead, int sheet, int power) {
        if (!within(size, 1, 100) || !isMonth(lead) || !Sheets.isNumber(sheet) || !within(power, 0, 1_000)) {
            return deny(WRONG);
        }
        int why = sheets.whyNotFirst(sheet, MONTHS, 100_000);
        if (why != FINE) {
            return deny(why);
        }
        if (market.types == Market.TYPES) {
            return deny(FULL);
        }
        return answer(market.addType(size, lead, power, sheets, sheet));
    }

    public int cheapest() {
        market.solve();
        return market.isEnough() ? answer(market.least) : deny(IMPOSSIBLE);
    }

    public int buys(int month, int type) {
        if (!isMonth(month) || !market.hasType(type)) {
            return deny(WRONG);
        }
        market.solve();
        return market.isEnough() ? answer(market.bought[month][type]) : deny(IMPOSSIBLE);
    }

    // ---- how a call ends, and what its numbers may be

    private boolean agree() {
        status = FINE;
        return true;
    }

    private boolean refuse(int why) {
        status = why;
        return false;
    }

    private int answer(int number) {
        status = FINE;
        return number;
    }

    private int deny(int why) {
        status = why;
        return NONE;
    }

    private static boolean within(long number, int least, int greatest) {
        return number >= least && number <= greatest;
    }

    private static boolean isHour(int hour) {
        return within(hour, 0, HOURS - 1);
    }

    private static boolean isMonth(int month) {
        return within(month, 0, MONTHS - 1);
    }

    private static boolean isLine(int sheet, int many, int ticks) {
        return Sheets.isNumber(sheet) && within(many, 1, Sheets.LONGEST) && within(ticks, 1, 100);
    }

    private static final class Sheets {
        static final int SHEETS = 6;
        static final int LONGEST = 64;
        static final int LAST_SORT = 3;

        private final long[][] numbers;
        private final int[] sorts;
        private final int[] lengths;

        Sheets() {
            numbers = new long[SHEETS][LONGEST];
            sorts = new int[SHEETS];
            lengths = new int[SHEETS];
            Arrays.fill(lengths, NONE);
        }

        static boolean isNumber(int sheet) {
            return within(sheet, 0, SHEETS - 1);
        }

        boolean isMissing(int sheet) {
            return lengths[sheet] == NONE;
        }

        void make(int sheet, int sort, int many) {
            Arrays.fill(numbers[sheet], 0L);
            sorts[sheet] = sort;
            lengths[sheet] = many;
        }

        void lose(int sheet) {
            lengths[sheet] = NONE;
        }

        long at(int sheet, int place) {
            return numbers[sheet][place];
        }

        void put(int sheet, int place, long v) {
            numbers[sheet][place] = cut(v, sorts[sheet]);
        }

        int whyNoPlace(int sheet, int place) {
            if (!isNumber(sheet)) {
                return WRONG;
            }
            if (isMissing(sheet)) {
                return MISSING;
            }
            return within(place, 0, lengths[sheet] - 1) ? FINE : SHORT;
        }

        int whyNotFirst(int sheet, int many, int greatest) {
            if (isMissing(sheet)) {
                return MISSING;
            }
            if (many > lengths[sheet]) {
                return SHORT;
            }
            for (int place = 0; place < many; place++) {
                if (!within(numbers[sheet][place], 0, greatest)) {
                    return WRONG;
                }
            }
            return FINE;
        }

        boolean spans(int sheet, int place, int many) {
            return (long) place + many <= lengths[sheet];
        }

        void carry(int from, int place, int to, int at, int many) {
            // arraycopy keeps the numbers as they were where a sheet goes over itself
            System.arraycopy(numbers[from], place, numbers[to], at, many);
            for (int next = at; next < at + many; next++) {
                put(to, next, numbers[to][next]);
            }
        }

        private static long cut(long v, int sort) {
            switch (sort) {
                case 0:
                    return (byte) v;
                case 1:
                    return (short) v;
                case 2:
                    return (int) v;
                default:
                    return v;
            }
        }
    }

    /** Machines and asks; sets of either are bits of an int. */
    private static final class Hall {
        static final int MACHINES = 12;
        static final int ROOMS = 4;
        static final int ASKS = 10;
        static final int ENOUGH = -2;
        private static final int FALLS = 1 + MACHINES + ROOMS;
        private static final int SETS = 1 << ASKS;

        int machines;
        int asks;
        private final int[] sizes;
        private final int[] inRoom;
        private int ups;
        private final int[] needs;
        private final int[] foes;
        private final int[] ofHour;
        /** By set of asks: the needs together, whether two are apart, whether an hour asks all of it. */
        private final int[] load;
        private final boolean[] clash;
        private final boolean[] asked;
        /** By set: the last machine from which on, with those behind it, the set can be put; NONE if there is none. */
        private final int[] latest;
        private int latestFor;

        Hall() {
            sizes = new int[MACHINES];
            inRoom = new int[ROOMS];
            needs = new int[ASKS];
            foes = new int[ASKS];
            ofHour = new int[HOURS];
            load = new int[SETS];
            clash = new boolean[SETS];
            asked = new boolean[SETS];
            latest = new int[SETS];
            latestFor = NONE;
        }

        static boolean isFall(int fall) {
            return within(fall, 0, FALLS - 1);
        }

        boolean hasMachine(int machine) {
            return within(machine, 0, machines - 1);
        }

        boolean hasAsk(int ask) {
            return within(ask, 0, asks - 1);
        }

        boolean isUp(int machine) {
            return has(ups, machine);
        }

        boolean isAskOf(int ask, int hour) {
            return has(ofHour[hour], ask);
        }

        boolean areFoes(int a, int b) {
            return has(foes[a], b);
        }

        int addMachine(int size, int room) {
            int number = machines++;
            sizes[number] = size;
            inRoom[room] |= 1 << number;
            ups |= 1 << number;
            return number;
        }

        void turn(int machine) {
            ups ^= 1 << machine;
        }

        int addAsk(int need, int first, int last) {
            int number = asks++;
            needs[number] = need;
            for (int hour = first; hour <= last; hour++) {
                ofHour[hour] |= 1 << number;
                markAsked(ofHour[hour]);
            }
            tally();
            return number;
        }

        void turnFoes(int a, int b) {
            foes[a] ^= 1 << b;
            foes[b] ^= 1 << a;
            tally();
        }

        int standing(int fall) {
            if (fall == 0) {
                return ups;
            }
            return fall <= MACHINES ? ups & ~(1 << (fall - 1)) : ups & ~inRoom[fall - MACHINES - 1];
        }

        int sizeOf(int standing) {
            int together = 0;
            for (int machine = 0; machine < machines; machine++) {
                together += has(standing, machine) ? sizes[machine] : 0;
            }
            return together;
        }

        boolean holds(int hour, int standing) {
            findLatest(standing);
            return latest[ofHour[hour]] != NONE;
        }

        int layingOf(int hour, int standing, int ask) {
            findLatest(standing);
            int others = ofHour[hour];
            for (int machine = 0; machine < machines; machine++) {
                if (has(standing, machine)) {
                    int laid = greatestOn(machine, others);
                    if (has(laid, ask)) {
                        return machine;
                    }
                    others ^= laid;
                }
            }
            return NONE;
        }

        int lacking(int hour, int standing) {
            findLatest(standing);
            int all = ofHour[hour];
            int most = 0;
            for (int set = all; set > 0; set = (set - 1) & all) {
                if (latest[set] != NONE) {
                    most = Math.max(most, load[set]);
                }
            }
            return load[all] - most;
        }

        int leftOver(int hour, int standing) {
            findLatest(standing);
            int all = ofHour[hour];
            return latest[all] != NONE ? sizeOf(standing) - load[all] : 0;
        }

        int firstUnfit(int depth) {
            int firstHour = HOURS;
            int firstFall = 0;
            for (int fall = 0; fall < FALLS && firstHour > 0; fall++) {
                if (isLookedAt(fall, depth)) {
                    int hour = firstUnfitHour(standing(fall), firstHour);
                    firstFall = hour < firstHour ? fall : firstFall;
                    firstHour = hour;
                }
            }
            return firstHour == HOURS ? ENOUGH : 100 * firstHour + firstFall;
        }

        private boolean isLookedAt(int fall, int depth) {
            if (fall > MACHINES) {
                return depth == 2;
            }
            return fall == 0 || depth > 0 && fall <= machines;
        }

        private int firstUnfitHour(int standing, int end) {
            for (int hour = 0; hour < end; hour++) {
                if (!holds(hour, standing)) {
                    return hour;
                }
            }
            return end;
        }

        private void markAsked(int all) {
            for (int set = all; set > 0; set = (set - 1) & all) {
                asked[set] = true;
            }
        }

        private void tally() {
            latestFor = NONE;
            for (int ask = 0; ask < asks; ask++) {
                int alone = 1 << ask;
                for (int others = 0; others < alone; others++) {
                    load[alone | others] = load[others] + needs[ask];
                    clash[alone | others] = clash[others] || (foes[ask] & others) != 0;
                }
            }
        }

        // Whether a set can be held hangs on the set and on the machines alone, so one table serves all hours.
        private void findLatest(int standing) {
            if (latestFor == standing) {
                return;
            }
            latestFor = standing;
            Arrays.fill(latest, NONE);
            latest[0] = MACHINES;
            int space = 0;
            for (int machine = machines - 1; machine >= 0; machine--) {
                if (has(standing, machine)) {
                    space += sizes[machine];
                    findWith(machine, space);
                }
            }
        }

        private void findWith(int machine, int space) {
            for (int set = 1; set < 1 << asks; set++) {
                if (latest[set] == NONE && asked[set] && load[set] <= space && greatestOn(machine, set) > 0) {
                    latest[set] = machine;
                }
            }
        }

        private int greatestOn(int machine, int all) {
            for (int set = all; set > 0; set = (set - 1) & all) {
                if (load[set] <= sizes[machine] && !clash[set] && latest[all ^ set] > machine) {
                    return set;
                }
            }
            return 0;
        }

        private static boolean has(int set, int number) {
            return (set >> number & 1) != 0;
        }
    }

    /** What may yet flow from node to node. */
    private static final class Flow {
        private static final int ROUNDS = 1_000_000;

        private final int nodes;
        private final int[][] open;
        private final int[] cameFrom;
        private final int[] reached;

        Flow(int nodes) {
            this.nodes = nodes;
            open = new int[nodes][nodes];
            cameFrom = new int[nodes];
            reached = new int[nodes];
        }

        void empty() {
            for (int node = 0; node < nodes; node++) {
                Arrays.fill(open[node], 0);
            }
        }

        void pipe(int from, int to, int width) {
            open[from][to] = width;
        }

        int push(int from, int to, int most) {
            int pushed = 0;
            for (int round = 0; round < ROUNDS && pushed < most && findWay(from, to); round++) {
                pushed += send(from, to, most - pushed);
            }
            return pushed;
        }

        /** Sends all that can go from one node to the other through their pipe, and closes it at that. */
        int settle(int from, int to) {
            int wider = open[from][to];
            int flows = open[to][from];
            open[from][to] = 0;
            open[to][from] = 0;
            // more through the pipe must come back to where it starts by other ways
            return flows + push(to, from, wider);
        }

        private boolean findWay(int from, int to) {
            Arrays.fill(cameFrom, NONE);
            cameFrom[from] = from;
            reached[0] = from;
            int many = 1;
            for (int next = 0; next < many && next < nodes; next++) {
                int node = reached[next];
                for (int other = 0; other < nodes; other++) {
                    if (open[node][other] > 0 && cameFrom[other] == NONE) {
                        cameFrom[other] = node;
                        reached[many++] = other;
                    }
                }
                if (cameFrom[to] != NONE) {
                    return true;
                }
            }
            return false;
        }

        private int send(int from, int to, int most) {
            int amount = most;
            int node = to;
            for (int step = 0; step < nodes && node != from; step++) {
                amount = Math.min(amount, open[cameFrom[node]][node]);
                node = cameFrom[node];
            }
            node = to;
            for (int step = 0; step < nodes && node != from; step++) {
                open[cameFrom[node]][node] -= amount;
                open[node][cameFrom[node]] += amount;
                node = cameFrom[node];
            }
            return amount;
        }
    }

    /** Batches; the nodes of their flow are the batches, the hours, and the two ends. */
    private static final class Plan {
        static final int BATCHES = 8;
        private static final int SOURCE = BATCHES + HOURS;
        private static final int SINK = SOURCE + 1;

        int batches;
        int unlaid;
        final int[][] parts;
        private final int[] works;
        private final int[] froms;
        private final int[] dues;
        private final int[] mosts;
        private final Flow flow;
        private int laidFor;

        Plan() {
            parts = new int[BATCHES][HOURS];
            works = new int[BATCHES];
            froms = new int[BATCHES];
            dues = new int[BATCHES];
            mosts = new int[BATCHES];
            flow = new Flow(SINK + 1);
            laidFor = NONE;
        }

        boolean hasBatch(int batch) {
            return within(batch, 0, batches - 1);
        }

        int addBatch(int work, int from, int due, int most) {
            int number = batches++;
            works[number] = work;
            froms[number] = from;
            dues[number] = due;
            mosts[number] = most;
            forget();
            return number;
        }

        void forget() {
            laidFor = NONE;
        }

        void lay(Hall hall, int standing) {
            if (laidFor == standing) {
                return;
            }
            laidFor = standing;
            unlaid = layPipes(hall, standing);
            unlaid -= flow.push(SOURCE, SINK, unlaid);
            if (unlaid == 0) {
                settleParts();
            }
        }

        private int layPipes(Hall hall, int standing) {
            int work = 0;
            flow.empty();
            for (int batch = 0; batch < batches; batch++) {
                work += works[batch];
                flow.pipe(SOURCE, batch, works[batch]);
                for (int hour = froms[batch]; hour < dues[batch]; hour++) {
                    flow.pipe(batch, BATCHES + hour, mosts[batch]);
                }
            }
            for (int hour = 0; hour < HOURS; hour++) {
                flow.pipe(BATCHES + hour, SINK, hall.leftOver(hour, standing));
            }
            return work;
        }

        private void settleParts() {
            for (int batch = 0; batch < batches; batch++) {
                for (int hour = froms[batch]; hour < dues[batch]; hour++) {
                    parts[batch][hour] = flow.settle(batch, BATCHES + hour);
                }
            }
        }
    }

    /** A line; as all take as long, the hand that is free next is always the one that began longest ago. */
    private static final class Waiting {
        static final int HANDS = 20;
        static final int COMERS = 100;

        int greatest;
        private int together;
        private int came;
        private int waited;
        private int end;
        private final int[] freeAt;

        Waiting() {
            freeAt = new int[HANDS];
        }

        void serve(Sheets sheets, int sheet, int many, int hands, int ticks) {
            greatest = 0;
            together = 0;
            came = 0;
            waited = 0;
            end = 0;
            Arrays.fill(freeAt, 0);
            int hand = 0;
            for (int tick = 0; tick < many; tick++) {
                long comers = sheets.at(sheet, tick);
                for (int comer = 0; comer < comers; comer++) {
                    int begin = Math.max(tick, freeAt[hand]);
                    note(begin - tick);
                    end = begin + ticks;
                    freeAt[hand] = end;
                    hand = hand + 1 < hands ? hand + 1 : 0;
                }
            }
        }

        int told(int what) {
            switch (what) {
                case 0:
                    return greatest;
                case 1:
                    return together;
                case 2:
                    return came;
                case 3:
                    return waited;
                default:
                    return end;
            }
        }

        private void note(int wait) {
            greatest = Math.max(greatest, wait);
            together += wait;
            came++;
            waited += wait > 0 ? 1 : 0;
        }
    }

    /** Buying, worked out from the last month back to the first. */
    private static final class Market {
        static final int TYPES = 4;
        static final int GOAL = 500;
        private static final int TOO_DEAR = 1_000_000_000;
        private static final int WORDS = GOAL / 64 + 1;

        int types;
        int least;
        final int[][] bought;
        private int owned;
        private final int[] wants;
        private final int[] sizes;
        private final int[] leads;
        private final int[] powers;
        private final int[][] prices;
        /** By size that is there (all above GOAL as GOAL): the least that is yet to pay. */
        private final int[] toPay;
        /** By month, type and size that is there, a bit: whether one more must be bought. */
        private final long[] oneMore;
        private boolean solved;

        Market() {
            bought = new int[MONTHS][TYPES];
            wants = new int[MONTHS];
            sizes = new int[TYPES];
            leads = new int[TYPES];
            powers = new int[TYPES];
            prices = new int[TYPES][MONTHS];
            toPay = new int[GOAL + 1];
            oneMore = new long[MONTHS * TYPES * WORDS];
        }

        boolean hasType(int type) {
            return within(type, 0, types - 1);
        }

        boolean isEnough() {
            return least < TOO_DEAR;
        }

        void want(Sheets sheets, int sheet) {
            for (int month = 0; month < MONTHS; month++) {
                wants[month] = (int) sheets.at(sheet, month);
            }
            solved = false;
        }

        void own(int size) {
            owned = size;
            solved = false;
        }

        int addType(int size, int lead, int power, Sheets sheets, int sheet) {
            int number = types++;
            sizes[number] = size;
            leads[number] = lead;
            powers[number] = power;
            for (int month = 0; month < MONTHS; month++) {
                prices[number][month] = (int) sheets.at(sheet, month);
            }
            solved = false;
            return number;
        }

        void solve() {
            if (solved) {
                return;
            }
            solved = true;
            Arrays.fill(toPay, 0);
            Arrays.fill(oneMore, 0L);
            for (int month = MONTHS - 1; month >= 0; month--) {
                Arrays.fill(toPay, 0, wants[month], TOO_DEAR);
                for (int type = types - 1; type >= 0; type--) {
                    if (leads[type] <= month) {
                        offer(month, type);
                    }
                }
            }
            least = toPay[owned];
            if (isEnough()) {
                choose();
            }
        }

        // From great sizes down: what is to pay beside one more has the further ones in it already.
        private void offer(int month, int type) {
            int cost = prices[type][month - leads[type]] + powers[type] * (MONTHS - month);
            for (int there = GOAL - 1; there >= 0; there--) {
                int pay = cost + toPay[Math.min(GOAL, there + sizes[type])];
                // at the same price the fewest are bought
                if (pay < toPay[there]) {
                    toPay[there] = pay;
                    oneMore[word(month, type, there)] |= 1L << (there & 63);
                }
            }
        }

        private void choose() {
            int there = owned;
            for (int month = 0; month < MONTHS; month++) {
                for (int type = 0; type < types; type++) {
                    int many = 0;
                    for (; many < GOAL && there < GOAL && mustBuy(month, type, there); many++) {
                        there = Math.min(GOAL, there + sizes[type]);
                    }
                    bought[month][type] = many;
                }
            }
        }

        private boolean mustBuy(int month, int type, int there) {
            return (oneMore[word(month, type, there)] >>> (there & 63) & 1L) != 0;
        }

        private static int word(int month, int type, int there) {
            return (month * TYPES + type) * WORDS + (there >> 6);
        }
    }
}
