/** Buying (promises 24 to 28, Terms 5 and 6): each sentence that names a bound, by the calls around it. */
public final class BuyingBoundsTest {
    private static final String[] NO_SHEET = {"-1", "6", "7", "min", "max"};

    public static void main(String[] args) {
        wantedRefused();
        wantedNumbers();
        wantedMonths();
        wantedAsTheyWere();
        haveBounds();
        haveCounts();
        typeRefused();
        typeOrder();
        typePrices();
        typeMost();
        cheapestEnough();
        cheapestLead();
        cheapestPrice();
        cheapestPower();
        cheapestSum();
        cheapestMost();
        buysRefused();
        buysFirst();
        buysFewest();
        buysMany();
        buysOfFour();
        buysChanges();
        Runs.end("BuyingBoundsTest");
    }

    private static void refuse(String call, String[] each, int status) {
        for (String number : each) {
            Runs.refuses(call.replace("%s", number), status);
        }
    }

    /** Twelve times the same number. */
    private static long[] each(long number) {
        long[] row = new long[12];
        for (int i = 0; i < 12; i++) {
            row[i] = number;
        }
        return row;
    }

    /** 0, and from a month on a number. */
    private static long[] from(int month, long number) {
        long[] row = new long[12];
        for (int i = month; i < 12; i++) {
            row[i] = number;
        }
        return row;
    }

    private static void want(long... numbers) {
        Runs.fill(0, 1, numbers);
        Runs.gives("wanted(0)", 1);
    }

    private static void type(int number, int size, int lead, int power, long... prices) {
        Runs.fill(1, 2, prices);
        Runs.gives("type(" + size + ", " + lead + ", 1, " + power + ")", number);
    }

    /** One more is wanted in each month: what comes and what it takes tells of each month's want and of each price. */
    private static void telling() {
        want(1, 2, 3, 4, 5, 6, 7, 8, 9, 10, 11, 12);
        type(0, 1, 0, 1, 50, 50, 50, 50, 50, 50, 50, 50, 50, 50, 50, 50);
        Runs.gives("cheapest()", 12 * 50 + 78);
    }

    /** Four types by turns, each bought in three months. */
    private static void tellingFour() {
        long[] wanted = new long[12];
        for (int month = 0; month < 12; month++) {
            wanted[month] = 40 * (month + 1);
        }
        want(wanted);
        for (int type = 0; type < 4; type++) {
            long[] prices = each(1000);
            for (int month = type; month < 12; month += 4) {
                prices[month] = 100 - month;
            }
            type(type, 40, 0, 0, prices);
        }
    }

    /** What comes of a type, month by month from 0 on, and nothing after these. */
    private static void bought(int type, int... due) {
        for (int month = 0; month < 12; month++) {
            Runs.gives("buys(" + month + ", " + type + ")", month < due.length ? due[month] : 0);
        }
    }

    // ---- promise 24

    private static void wantedRefused() {
        Runs.at(24, "1: no such SHEET");
        telling();
        refuse("wanted(%s)", NO_SHEET, 1);
        Runs.fill(5, 1, from(4, 0));
        Runs.gives("cheapest()", 12 * 50 + 78);
        Runs.gives("wanted(5)", 1);
        Runs.gives("cheapest()", 0);
        Runs.at(24, "2: the SHEET is MISSING");
        telling();
        for (int s = 2; s < 6; s++) {
            Runs.refuses("wanted(" + s + ")", 2);
        }
        Runs.does("drop(0)");
        Runs.refuses("wanted(0)", 2);
        Runs.gives("cheapest()", 12 * 50 + 78);
        for (int many : new int[] {0, 1, 11}) {
            Runs.at(24, "3: too few numbers: " + many);
            telling();
            Runs.does("sheet(0, 1, " + many + ")");
            Runs.refuses("wanted(0)", 3);
            Runs.gives("cheapest()", 12 * 50 + 78);
        }
        Runs.at(24, "3 ahead of 1: the numbers");
        Runs.does("sheet(0, 1, 12)", "write(0, 0, 501)", "write(0, 1, -1)", "write(0, 11, 9999)");
        Runs.refuses("wanted(0)", 1);
        Runs.does("sheet(0, 1, 11)", "write(0, 0, 501)", "write(0, 1, -1)", "write(0, 10, 9999)");
        Runs.refuses("wanted(0)", 3);
    }

    private static void wantedNumbers() {
        for (int month = 0; month < 12; month++) {
            Runs.at(24, "1: the numbers: from 0 to 500, in MONTH " + month);
            telling();
            Runs.does("sheet(2, 3, 12)");
            for (long bad : new long[] {-1, 501, 1000, 1L << 32, Long.MAX_VALUE, Long.MIN_VALUE}) {
                Runs.does("write(2, " + month + ", " + bad + ")");
                Runs.refuses("wanted(2)", 1);
            }
            Runs.gives("cheapest()", 12 * 50 + 78);
            Runs.does("write(2, " + month + ", 500)");
            Runs.gives("wanted(2)", 1);
            Runs.gives("cheapest()", 500 * (50 + 12 - month));
            Runs.does("have(500)");
            Runs.gives("cheapest()", 0);
            Runs.does("write(2, " + month + ", 0)", "have(0)");
            Runs.gives("wanted(2)", 1);
            Runs.gives("cheapest()", 0);
        }
        Runs.at(24, "1: the numbers, in 8, 16 and 32 bits");
        for (int sort = 0; sort < 3; sort++) {
            Runs.does("sheet(0, " + sort + ", 12)", "write(0, 6, -1)");
            Runs.refuses("wanted(0)", 1);
            Runs.does("write(0, 6, " + (sort == 0 ? 127 : 500) + ")");
            Runs.gives("wanted(0)", 1);
        }
    }

    private static void wantedMonths() {
        Runs.at(24, "the first 12 numbers of a SHEET: the others are not asked");
        Runs.fill(0, 1, 0, 0, 0, 0, 0, 0, 0, 0, 0, 0, 0, 0, 501);
        Runs.gives("wanted(0)", 1);
        Runs.gives("cheapest()", 0);
        Runs.does("sheet(0, 3, 64)", "write(0, 12, -1)", "write(0, 63, 9999)");
        Runs.gives("wanted(0)", 1);
        Runs.does("write(0, 11, 7)");
        Runs.gives("wanted(0)", 1);
        Runs.refuses("cheapest()", 7);
        for (int month = 0; month < 12; month++) {
            Runs.at(24, "WANTED of each MONTH: of MONTH " + month + " alone");
            long[] row = new long[12];
            row[month] = 9;
            want(row);
            type(0, 9, 0, 1, each(100));
            Runs.gives("cheapest()", 100 + 12 - month);
            Runs.gives("buys(" + month + ", 0)", 1);
        }
    }

    private static void wantedAsTheyWere() {
        Runs.at(24, "WANTED are the numbers as they were, until other ones are told");
        want(each(3));
        Runs.refuses("cheapest()", 7);
        Runs.does("write(0, 0, 0)", "sheet(0, 1, 12)");
        Runs.refuses("cheapest()", 7);
        Runs.does("drop(0)");
        Runs.refuses("cheapest()", 7);
        want(each(0));
        Runs.gives("cheapest()", 0);
        want(from(11, 1));
        Runs.refuses("cheapest()", 7);
    }

    // ---- promise 25

    private static void haveBounds() {
        Runs.at(25, "HAVE (0 to 500)");
        want(each(500));
        refuse("have(%s)", new String[] {"-1", "-2", "501", "502", "min", "max"}, 1);
        Runs.refuses("cheapest()", 7);
        Runs.gives("have(500)", 1);
        Runs.gives("cheapest()", 0);
        refuse("have(%s)", new String[] {"-1", "501", "min", "max"}, 1);
        Runs.gives("have(499)", 1);
        Runs.refuses("cheapest()", 7);
        want(each(0));
        Runs.gives("have(0)", 1);
        Runs.gives("cheapest()", 0);
        Runs.gives("have(0)", 1);
    }

    private static void haveCounts() {
        Runs.at(25, "what is there from the beginning: in each MONTH");
        want(1, 2, 3, 4, 5, 6, 6, 5, 4, 3, 2, 1);
        type(0, 1, 0, 0, each(10));
        for (int have = 0; have <= 7; have++) {
            Runs.gives("have(" + have + ")", 1);
            Runs.gives("cheapest()", 10L * Math.max(0, 6 - have));
        }
        Runs.at(25, "it takes neither PRICE nor POWER");
        want(each(500));
        type(0, 100, 0, 1000, each(100000));
        Runs.does("have(500)");
        Runs.gives("cheapest()", 0);
        bought(0);
    }

    // ---- promise 26

    private static void typeRefused() {
        Runs.at(26, "1: SIZE 1 to 100");
        Runs.does("sheet(0, 2, 12)");
        refuse("type(%s, 0, 0, 0)", new String[] {"0", "-1", "101", "102", "min", "max"}, 1);
        Runs.gives("type(1, 0, 0, 0)", 0);
        Runs.gives("type(100, 0, 0, 0)", 1);
        Runs.at(26, "1: LEAD 0 to 11 MONTHS");
        Runs.does("sheet(0, 2, 12)");
        refuse("type(1, %s, 0, 0)", new String[] {"-1", "12", "13", "min", "max"}, 1);
        Runs.gives("type(1, 0, 0, 0)", 0);
        Runs.gives("type(1, 11, 0, 0)", 1);
        Runs.at(26, "1: POWER a MONTH (0 to 1,000)");
        Runs.does("sheet(0, 2, 12)");
        refuse("type(1, 0, 0, %s)", new String[] {"-1", "1001", "1002", "min", "max"}, 1);
        Runs.gives("type(1, 0, 0, 0)", 0);
        Runs.gives("type(1, 0, 0, 1000)", 1);
        Runs.at(26, "1: no such SHEET");
        Runs.does("sheet(0, 2, 12)", "sheet(5, 2, 12)");
        refuse("type(1, 0, %s, 0)", NO_SHEET, 1);
        Runs.gives("type(1, 0, 0, 0)", 0);
        Runs.gives("type(1, 0, 5, 0)", 1);
        Runs.at(26, "2: the SHEET is MISSING");
        for (int s = 0; s < 6; s++) {
            Runs.refuses("type(1, 0, " + s + ", 0)", 2);
        }
        Runs.does("sheet(0, 2, 12)", "drop(0)");
        Runs.refuses("type(1, 0, 0, 0)", 2);
        Runs.at(26, "3: too few numbers");
        for (int many : new int[] {0, 1, 11}) {
            Runs.does("sheet(0, 2, " + many + ")");
            Runs.refuses("type(1, 0, 0, 0)", 3);
        }
        Runs.does("sheet(0, 2, 12)");
        Runs.gives("type(1, 0, 0, 0)", 0);
    }

    private static void typeOrder() {
        Runs.at(26, "asked in this order: 1 ahead of 2");
        Runs.refuses("type(0, 0, 0, 0)", 1);
        Runs.refuses("type(1, 12, 0, 0)", 1);
        Runs.refuses("type(1, 0, 6, 0)", 1);
        Runs.refuses("type(1, 0, 0, 1001)", 1);
        Runs.refuses("type(1, 0, 0, 0)", 2);
        Runs.at(26, "asked in this order: 1 ahead of 3");
        Runs.does("sheet(0, 2, 11)");
        Runs.refuses("type(101, 0, 0, 0)", 1);
        Runs.refuses("type(1, -1, 0, 0)", 1);
        Runs.refuses("type(1, 0, 0, -1)", 1);
        Runs.refuses("type(1, 0, 0, 0)", 3);
        Runs.at(26, "asked in this order: 3 ahead of 1, the PRICES");
        Runs.does("sheet(0, 2, 11)", "write(0, 0, -1)", "write(0, 10, 100001)");
        Runs.refuses("type(1, 0, 0, 0)", 3);
        Runs.at(26, "asked in this order: 1, 2, 3 and the PRICES ahead of 4");
        tellingFour();
        Runs.does("sheet(0, 2, 12)", "sheet(1, 2, 11)", "sheet(3, 2, 12)", "write(3, 11, 100001)");
        Runs.refuses("type(1, 0, 0, 0)", 4);
        Runs.refuses("type(0, 0, 0, 0)", 1);
        Runs.refuses("type(101, 0, 0, 0)", 1);
        Runs.refuses("type(1, 12, 0, 0)", 1);
        Runs.refuses("type(1, 0, 0, 1001)", 1);
        Runs.refuses("type(1, 0, 6, 0)", 1);
        Runs.refuses("type(1, 0, 2, 0)", 2);
        Runs.refuses("type(1, 0, 1, 0)", 3);
        Runs.refuses("type(1, 0, 3, 0)", 1);
        Runs.does("write(3, 11, 100000)");
        Runs.refuses("type(1, 0, 3, 0)", 4);
    }

    private static void typePrices() {
        for (int month = 0; month < 12; month++) {
            Runs.at(26, "1: the PRICES: a PRICE in each MONTH (0 to 100,000), in MONTH " + month);
            telling();
            Runs.does("sheet(0, 3, 12)");
            for (long bad : new long[] {-1, 100001, 1L << 32, Long.MAX_VALUE, Long.MIN_VALUE}) {
                Runs.does("write(0, " + month + ", " + bad + ")");
                Runs.refuses("type(1, 0, 0, 0)", 1);
            }
            Runs.does("write(0, " + month + ", 100000)");
            Runs.gives("type(100, 0, 0, 0)", 1);
            Runs.gives("cheapest()", month > 0 ? 0 : 51 + 11);
            Runs.does("write(0, " + month + ", 0)");
            Runs.gives("type(100, 0, 0, 0)", 2);
            Runs.gives("cheapest()", 0);
        }
        Runs.at(26, "the first 12 numbers of a SHEET: the others are not asked");
        Runs.does("sheet(0, 3, 64)", "write(0, 12, -1)", "write(0, 63, 100001)");
        Runs.gives("type(1, 0, 0, 0)", 0);
        Runs.at(26, "PRICES in 8 bits and 16");
        Runs.fill(0, 0, each(127));
        Runs.gives("type(1, 0, 0, 0)", 0);
        Runs.does("write(0, 3, 128)");
        Runs.refuses("type(1, 0, 0, 0)", 1);
        Runs.fill(0, 1, each(32767));
        Runs.gives("type(2, 0, 0, 0)", 1);
        Runs.at(26, "PRICES as they were when the TYPE came");
        want(each(1));
        type(0, 1, 0, 0, each(50));
        Runs.does("write(1, 0, 1)");
        Runs.gives("cheapest()", 50);
        Runs.does("drop(1)");
        Runs.gives("cheapest()", 50);
    }

    private static void typeMost() {
        Runs.at(26, "TYPES, at most 4: its number");
        Runs.does("sheet(0, 2, 12)");
        for (int i = 0; i < 4; i++) {
            Runs.gives("count(3)", i);
            Runs.gives("type(" + (i + 1) + ", 0, 0, 0)", i);
        }
        Runs.refuses("type(1, 0, 0, 0)", 4);
        Runs.refuses("type(100, 11, 0, 1000)", 4);
        Runs.gives("count(3)", 4);
        Runs.at(26, "4: at most 4, and these are as they were");
        tellingFour();
        Runs.refuses("type(1, 0, 1, 0)", 4);
        Runs.refuses("type(100, 11, 0, 1000)", 4);
        Runs.gives("cheapest()", 1200 - 66);
        Runs.at(26, "a refused one takes no number");
        Runs.does("sheet(0, 2, 12)");
        Runs.gives("type(1, 0, 0, 0)", 0);
        Runs.refuses("type(0, 0, 0, 0)", 1);
        Runs.refuses("type(1, 0, 1, 0)", 2);
        Runs.gives("type(1, 0, 0, 0)", 1);
    }

    // ---- promise 27

    private static void cheapestEnough() {
        Runs.at(27, "WANTED or more: in each MONTH HAVE and the SIZES of all that are there");
        Runs.does("have(2)");
        type(0, 3, 0, 0, each(10));
        long[] due = {0, 0, 0, 10, 10, 10, 20, 20, 20, 30};
        for (int wanted = 0; wanted < 10; wanted++) {
            want(from(4, wanted));
            Runs.gives("cheapest()", due[wanted]);
        }
        Runs.at(27, "WANTED or more: one MONTH alone that lacks one");
        for (int month = 0; month < 12; month += 11) {
            long[] row = each(5);
            row[month] = 6;
            want(row);
            Runs.does("have(5)");
            Runs.refuses("cheapest()", 7);
            Runs.does("have(6)");
            Runs.gives("cheapest()", 0);
        }
        Runs.at(27, "7: nothing is enough, with no TYPE");
        want(from(11, 1));
        Runs.refuses("cheapest()", 7);
        Runs.does("have(1)");
        Runs.gives("cheapest()", 0);
        Runs.at(27, "what is there stays to the end");
        want(5, 0, 0, 0, 0, 0, 0, 0, 0, 0, 0, 5);
        type(0, 5, 0, 0, 7, 1, 1, 1, 1, 1, 1, 1, 1, 1, 1, 1);
        Runs.gives("cheapest()", 7);
        bought(0, 1);
    }

    private static void cheapestLead() {
        for (int lead = 0; lead < 12; lead++) {
            Runs.at(27, "there from LEAD MONTHS later on: LEAD " + lead);
            type(0, 4, lead, 0, 11, 12, 13, 14, 15, 16, 17, 18, 19, 20, 21, 22);
            for (int month = 0; month < 12; month++) {
                want(from(month, 4));
                if (month < lead) {
                    Runs.refuses("cheapest()", 7);
                    Runs.refuses("buys(" + month + ", 0)", 7);
                } else {
                    // it grows dearer: ordered in MONTH 0, so that it comes in MONTH LEAD
                    Runs.gives("cheapest()", 11);
                    Runs.gives("buys(" + lead + ", 0)", 1);
                }
            }
        }
    }

    private static void cheapestPrice() {
        for (int lead = 0; lead < 12; lead++) {
            Runs.at(27, "at the PRICE of the MONTH of its order: LEAD " + lead);
            type(0, 4, lead, 0, 30, 29, 28, 27, 26, 25, 24, 23, 22, 21, 20, 19);
            for (int month = lead; month < 12; month++) {
                want(from(month, 4));
                // it grows cheaper: ordered as late as can be
                Runs.gives("cheapest()", 30 - (month - lead));
                Runs.gives("buys(" + month + ", 0)", 1);
                if (month > 0) {
                    Runs.gives("buys(" + (month - 1) + ", 0)", 0);
                }
            }
        }
        Runs.at(27, "no order ahead of MONTH 0, and none that comes too late");
        type(0, 1, 3, 0, 5, 9, 9, 9, 9, 9, 9, 9, 9, 0, 0, 0);
        want(0, 0, 0, 1, 1, 1, 1, 1, 1, 1, 1, 1);
        Runs.gives("cheapest()", 5);
        want(0, 0, 1, 1, 1, 1, 1, 1, 1, 1, 1, 1);
        Runs.refuses("cheapest()", 7);
        want(0, 0, 0, 0, 0, 0, 0, 0, 0, 0, 0, 1);
        Runs.gives("cheapest()", 5);
    }

    private static void cheapestPower() {
        for (int lead = 0; lead < 12; lead++) {
            Runs.at(27, "POWER in each MONTH in which it is there: LEAD " + lead);
            type(0, 4, lead, 10, each(0));
            for (int month = lead; month < 12; month++) {
                want(from(month, 4));
                Runs.gives("cheapest()", 10 * (12 - month));
                Runs.gives("buys(" + month + ", 0)", 1);
            }
        }
        Runs.at(27, "POWER against PRICE: it may be ordered ahead, or not");
        type(0, 4, 1, 10, 0, 0, 0, 0, 9, 0, 10, 0, 20, 30, 0, 0);
        int[] months = {5, 7, 9, 10, 11};
        // to come in 5: 9 + 70 for MONTH 4, or 80 for 3; in 7: 10 + 50, or 60 for 5; in 9: 20 + 30, or 40 for 7
        long[] due = {79, 60, 40, 40, 10};
        for (int i = 0; i < months.length; i++) {
            want(from(months[i], 4));
            Runs.gives("cheapest()", due[i]);
        }
        Runs.at(27, "the greatest POWER and PRICE");
        type(0, 100, 0, 1000, each(100000));
        want(each(100));
        Runs.gives("cheapest()", 100000 + 12000);
        want(from(11, 100));
        Runs.gives("cheapest()", 100000 + 1000);
    }

    private static void cheapestSum() {
        Runs.at(27, "the least PRICES and POWER together: of several TYPES");
        type(0, 3, 0, 0, each(30));
        type(1, 5, 0, 0, each(45));
        long[] due = {0, 30, 30, 30, 45, 45, 60, 75, 75, 90, 90, 105, 120, 120, 135, 135};
        for (int wanted = 0; wanted < due.length; wanted++) {
            want(from(6, wanted));
            Runs.gives("cheapest()", due[wanted]);
        }
        type(2, 100, 0, 0, each(100));
        want(from(6, 14));
        Runs.gives("cheapest()", 100);
        want(from(6, 11));
        Runs.gives("cheapest()", 100);
        want(from(6, 9));
        Runs.gives("cheapest()", 90);
        Runs.at(27, "the least together: one bought early is counted later, too");
        want(0, 2, 2, 2, 4, 4, 4, 4, 4, 4, 4, 4);
        type(0, 2, 0, 0, 10, 10, 10, 10, 10, 10, 10, 10, 10, 10, 10, 10);
        type(1, 4, 0, 0, 19, 19, 19, 19, 19, 19, 19, 19, 19, 19, 19, 19);
        Runs.gives("cheapest()", 19);
        Runs.does("have(1)");
        Runs.gives("cheapest()", 19);
        Runs.does("have(2)");
        Runs.gives("cheapest()", 10);
    }

    private static void cheapestMost() {
        Runs.at(27, "the most: 500 of SIZE 1 in MONTH 0 at the greatest PRICE and POWER");
        want(each(500));
        type(0, 1, 0, 1000, each(100000));
        Runs.gives("cheapest()", 500L * 112000);
        bought(0, 500);
        Runs.does("have(499)");
        Runs.gives("cheapest()", 112000);
        bought(0, 1);
        Runs.at(27, "more than 500 can be there");
        want(each(500));
        type(0, 99, 0, 0, each(1));
        Runs.gives("cheapest()", 6);
        Runs.does("have(5)");
        Runs.gives("cheapest()", 5);
        Runs.does("have(4)");
        Runs.gives("cheapest()", 6);
        Runs.at(27, "0: what is free, and what is not wanted");
        type(0, 1, 0, 0, each(0));
        Runs.gives("cheapest()", 0);
        bought(0);
        want(each(500));
        Runs.gives("cheapest()", 0);
        bought(0, 500);
    }

    // ---- promise 28

    private static void buysRefused() {
        Runs.at(28, "1: no such MONTH, TYPE");
        Runs.refuses("buys(0, 0)", 1);
        type(0, 1, 0, 0, each(1));
        type(1, 1, 0, 0, each(1));
        for (String month : new String[] {"-1", "12", "13", "min", "max"}) {
            Runs.refuses("buys(" + month + ", 0)", 1);
        }
        for (String type : new String[] {"-1", "2", "3", "4", "min", "max"}) {
            Runs.refuses("buys(0, " + type + ")", 1);
            Runs.refuses("buys(11, " + type + ")", 1);
        }
        Runs.gives("buys(0, 0)", 0);
        Runs.gives("buys(11, 1)", 0);
        type(2, 1, 0, 0, each(1));
        Runs.gives("buys(0, 2)", 0);
        Runs.refuses("buys(0, 3)", 1);
        type(3, 1, 0, 0, each(1));
        Runs.gives("buys(11, 3)", 0);
        Runs.refuses("buys(0, 4)", 1);
        Runs.at(28, "7: nothing is enough");
        want(from(1, 3));
        type(0, 3, 2, 0, each(1));
        for (int month = 0; month < 12; month++) {
            Runs.refuses("buys(" + month + ", 0)", 7);
        }
        Runs.does("have(3)");
        Runs.gives("buys(2, 0)", 0);
        Runs.at(28, "1 ahead of 7");
        want(from(1, 3));
        Runs.refuses("buys(0, 0)", 1);
        type(0, 3, 2, 0, each(1));
        Runs.refuses("buys(0, 0)", 7);
        Runs.refuses("buys(0, 1)", 1);
        Runs.refuses("buys(0, -1)", 1);
        Runs.refuses("buys(12, 0)", 1);
        Runs.refuses("buys(-1, 0)", 1);
    }

    private static void buysFirst() {
        Runs.at(28, "of several the first: MONTH by MONTH of coming, the fewest");
        want(from(7, 4));
        type(0, 4, 2, 0, each(5));
        bought(0, 0, 0, 0, 0, 0, 0, 0, 1);
        Runs.at(28, "of several the first: by the MONTH of coming, not of its order");
        want(from(7, 4));
        type(0, 4, 6, 0, each(5));
        type(1, 4, 0, 0, each(5));
        bought(0);
        bought(1, 0, 0, 0, 0, 0, 0, 0, 1);
        Runs.at(28, "of several the first: TYPE by TYPE, the fewest");
        want(from(0, 4));
        type(0, 4, 0, 0, each(5));
        type(1, 4, 0, 0, each(5));
        bought(0);
        bought(1, 1);
        type(2, 4, 0, 0, each(5));
        type(3, 4, 0, 0, each(5));
        bought(0);
        bought(1);
        bought(2);
        bought(3, 1);
        Runs.at(28, "of several the first: a MONTH goes ahead of a TYPE");
        want(2, 2, 2, 4, 4, 4, 4, 4, 4, 4, 4, 4);
        type(0, 2, 0, 0, each(5));
        type(1, 4, 0, 0, each(10));
        // in MONTH 0 none of TYPE 0 and one of TYPE 1 is the first
        bought(0);
        bought(1, 1);
        Runs.at(28, "of several the first: of the first in which two differ, though more come in all");
        want(from(5, 6));
        type(0, 6, 0, 0, each(6));
        type(1, 2, 0, 0, each(2));
        bought(0);
        bought(1, 0, 0, 0, 0, 0, 3);
        Runs.at(28, "of several the first: the other way round");
        want(from(5, 6));
        type(0, 2, 0, 0, each(2));
        type(1, 6, 0, 0, each(6));
        bought(0);
        bought(1, 0, 0, 0, 0, 0, 1);
    }

    private static void buysFewest() {
        Runs.at(28, "CHEAPEST goes ahead of the first");
        want(from(7, 4));
        type(0, 4, 2, 0, 5, 5, 5, 4, 5, 5, 5, 5, 5, 5, 5, 5);
        bought(0, 0, 0, 0, 0, 0, 1);
        type(1, 4, 0, 0, each(4));
        bought(0);
        bought(1, 0, 0, 0, 0, 0, 0, 0, 1);
        type(2, 4, 1, 0, each(3));
        bought(1);
        bought(2, 0, 0, 0, 0, 0, 0, 0, 1);
        Runs.at(28, "the fewest: none that is not needed, though all are free");
        want(0, 0, 3, 3, 5, 5, 5, 5, 1, 1, 1, 6);
        type(0, 2, 0, 0, each(0));
        bought(0, 0, 0, 2, 0, 1);
        Runs.does("have(1)");
        bought(0, 0, 0, 1, 0, 1, 0, 0, 0, 0, 0, 0, 1);
        Runs.does("have(6)");
        bought(0);
        Runs.at(28, "the fewest: none in a MONTH in which it would come for nothing");
        want(each(0));
        type(0, 100, 0, 0, each(0));
        type(1, 1, 11, 0, each(0));
        bought(0);
        bought(1);
    }

    private static void buysMany() {
        Runs.at(28, "how many of a TYPE come in a MONTH: the last and the first");
        want(3, 3, 3, 3, 3, 3, 3, 3, 3, 3, 3, 500);
        type(0, 1, 0, 0, each(1));
        bought(0, 3, 0, 0, 0, 0, 0, 0, 0, 0, 0, 0, 497);
        type(1, 100, 11, 0, each(1));
        bought(0, 3);
        bought(1, 0, 0, 0, 0, 0, 0, 0, 0, 0, 0, 0, 5);
        Runs.does("have(3)");
        bought(0);
        bought(1, 0, 0, 0, 0, 0, 0, 0, 0, 0, 0, 0, 5);
        Runs.does("have(100)");
        bought(1, 0, 0, 0, 0, 0, 0, 0, 0, 0, 0, 0, 4);
        Runs.at(28, "how many of a TYPE come in a MONTH: by what is there at 63, 64, 127, 128");
        type(0, 1, 0, 0, each(2));
        type(1, 64, 0, 0, each(100));
        long[] wants = {63, 64, 65, 127, 128, 129, 192, 193};
        int[] ones = {0, 0, 1, 0, 0, 1, 0, 1};
        int[] sixtyFours = {1, 1, 1, 2, 2, 2, 3, 3};
        for (int i = 0; i < wants.length; i++) {
            want(each(wants[i]));
            Runs.gives("buys(0, 0)", ones[i]);
            Runs.gives("buys(0, 1)", sixtyFours[i]);
        }
    }

    private static void buysOfFour() {
        Runs.at(28, "how many of a TYPE come in a MONTH: four TYPES by turns, to the last MONTH");
        tellingFour();
        for (int have : new int[] {0, 20}) {
            Runs.does("have(" + have + ")");
            Runs.gives("cheapest()", 1200 - 66);
            for (int type = 0; type < 4; type++) {
                for (int month = 0; month < 12; month++) {
                    Runs.gives("buys(" + month + ", " + type + ")", month % 4 == type ? 1 : 0);
                }
            }
        }
    }

    private static void buysChanges() {
        Runs.at(28, "what has changed since it was asked last");
        want(from(2, 5));
        type(0, 5, 0, 1, each(9));
        bought(0, 0, 0, 1);
        Runs.does("have(5)");
        bought(0);
        Runs.does("have(4)");
        bought(0, 0, 0, 1);
        want(from(6, 10));
        bought(0, 0, 0, 0, 0, 0, 0, 2);
        type(1, 6, 1, 0, each(9));
        bought(0);
        bought(1, 0, 0, 0, 0, 0, 0, 1);
        want(from(0, 10));
        bought(0, 2);
        Runs.gives("cheapest()", 2 * (9 + 12));
    }
}
