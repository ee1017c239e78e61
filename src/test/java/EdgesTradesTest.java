/** Edges of promises 26 to 34: likes, rings, leaves, turns, blocks, core, good, by, wrong. */
public final class EdgesTradesTest {
    private static final Check CHECK = new Check();
    private static final Refused SETTLED = new Refused(CHECK, Stories::settled);
    private static final int[][] ORDERS = {{1, 10}, {12, 21, 102, 120, 201, 210}, fourDigits()};
    private static final int[] NO_ORDERS = {0, 1, 2, 10, 11, 20, 22, 100, 101, 110, 112, 121, 123, 132, 13, 31, 200,
        202, 220, 212, 211, 221, 213, 231, 310, 301, 999, 1012, 1020, 10120, 2100, 2101, 1210, -1, -12, -21, -102, -210,
        12 + (1 << 8), 12 + (1 << 16), 210 - (1 << 16), Integer.MAX_VALUE, Integer.MIN_VALUE, Integer.MIN_VALUE + 12};

    public static void main(String[] args) {
        likesPeople();
        likesNoOrder();
        ordersOfEach();
        likesTaken();
        ringsAndLeaves();
        leavesRanges();
        turnsNoOrder();
        blocksNoTrade();
        blocksEachHeap();
        blocksNone();
        coreRanges();
        goodNoTrade();
        byNoTrade();
        wrongRanges();
        asking();
        everyOrderOfTwoAndThree();
        someOrdersOfFour();
        CHECK.end();
    }

    private static int[] fourDigits() {
        int[] orders = new int[24];
        int found = 0;
        for (int number = 0; number <= 3210; number++) {
            int seen = 0;
            for (int rest = number, i = 0; i < 4; i++, rest /= 10) {
                seen |= 1 << rest % 10;
            }
            if (seen == 15) {
                orders[found] = number;
                found++;
            }
        }
        return orders;
    }

    private static HonestHouse liking(int... orders) {
        HonestHouse x = new HonestHouse(orders.length - 2, 0);
        for (int person = 0; person < orders.length; person++) {
            x.likes(person, orders[person]);
        }
        return x;
    }

    private static boolean isIn(int[] orders, int number) {
        for (int order : orders) {
            if (order == number) {
                return true;
            }
        }
        return false;
    }

    /** Promise 26: "-1", for a person out of range. */
    private static void likesPeople() {
        SETTLED.outside("likes' person", 0, 2, (x, v) -> x.likes(v, 201));
        SETTLED.due(-1, "no such person, no order", x -> x.likes(3, 122));
        SETTLED.due(-1, "person -1, no order", x -> x.likes(-1, 0));
    }

    /** Promise 26: "-1 (digits are not 0 .. n - 1, each once, the first one the highest)". */
    private static void likesNoOrder() {
        for (int order : NO_ORDERS) {
            for (int person = 0; person < 3; person++) {
                int who = person;
                SETTLED.due(-1, "likes " + order, x -> x.likes(who, order));
            }
        }
    }

    /** Of all numbers those alone that have each digit once are ORDERS, TRADES and orders of the PEOPLE. */
    private static void ordersOfEach() {
        for (int n = 2; n <= 4; n++) {
            HonestHouse x = new HonestHouse(n - 2, 0);
            for (int number = -3300; number <= 33000; number++) {
                boolean taken = isIn(ORDERS[n - 2], number);
                String of = number + " of " + n;
                CHECK.due("likes " + of, x.likes(n - 1, number), taken ? 0 : -1);
                CHECK.holds("turns " + of, (x.turns(number) != -1) == taken);
                CHECK.holds("blocks " + of, (x.blocks(number) != -1) == taken);
                CHECK.holds("good " + of, (x.good(number) != -1) == taken);
                CHECK.holds("by " + of, (x.by(number) != -1) == taken);
            }
        }
    }

    /** Each order is taken as told, "the first one the best", also where it is the one before. */
    private static void likesTaken() {
        for (int n = 2; n <= 4; n++) {
            int first = ORDERS[n - 2][0];
            for (int person = 0; person < n; person++) {
                for (int order : ORDERS[n - 2]) {
                    HonestHouse x = new HonestHouse(n - 2, 0);
                    CHECK.due("an order", x.likes(person, order), 0);
                    CHECK.due("the same again", x.likes(person, order), 0);
                    int best = order / tenTo(n - 1);
                    int digitOfPerson = x.turns(orderWithFirst(n, person)) / tenTo(n - 1 - person) % 10;
                    CHECK.due("who comes first takes the best", digitOfPerson, best);
                    x.likes(person, first);
                    CHECK.due("as at first", x.turns(first), first);
                }
            }
        }
    }

    private static int tenTo(int power) {
        int product = 1;
        for (int i = 0; i < power; i++) {
            product *= 10;
        }
        return product;
    }

    private static int orderWithFirst(int n, int person) {
        for (int order : ORDERS[n - 2]) {
            if (order / tenTo(n - 1) == person) {
                return order;
            }
        }
        throw new AssertionError(person);
    }

    /** Promise 27: from one round, in which all leave, to as many as there are people, "till none is left". */
    private static void ringsAndLeaves() {
        for (int n = 2; n <= 4; n++) {
            HonestHouse all = new HonestHouse(n - 2, 0);
            CHECK.due("each their own", all.rings(), ORDERS[n - 2][0]);
            for (int person = 0; person < n; person++) {
                CHECK.due("one a round", all.leaves(person), person + 1);
            }
        }
        int[][] ringOfAll = {{10, 1}, {120, 201, 12}, {1023, 2013, 3012, 123}};
        int[] trades = {10, 120, 1230};
        for (int n = 2; n <= 4; n++) {
            HonestHouse x = liking(ringOfAll[n - 2]);
            CHECK.due("a ring of all", x.rings(), trades[n - 2]);
            for (int person = 0; person < n; person++) {
                CHECK.due("all in round 1", x.leaves(person), 1);
            }
        }
        HonestHouse y = liking(3210, 3210, 3210, 3210);
        CHECK.due("the last things are the best: still each their own", y.rings(), 123);
        for (int person = 0; person < 4; person++) {
            CHECK.due("from the last person on", y.leaves(person), 4 - person);
        }
    }

    /** Promise 28: "-1". */
    private static void leavesRanges() {
        SETTLED.outside("leaves' person", 0, 2, (x, v) -> x.leaves(v));
        for (int n = 2; n <= 4; n++) {
            int people = n;
            Refused refused = new Refused(CHECK, () -> new HonestHouse(people - 2, 0));
            refused.outside("leaves' person of " + n, 0, n - 1, (x, v) -> x.leaves(v));
        }
    }

    /** Promise 29: "-1: no order of the PEOPLE". */
    private static void turnsNoOrder() {
        for (int order : NO_ORDERS) {
            SETTLED.due(-1, "turns " + order, x -> x.turns(order));
        }
    }

    /** Promise 30: "-1: no TRADE". */
    private static void blocksNoTrade() {
        for (int trade : NO_ORDERS) {
            SETTLED.due(-1, "blocks " + trade, x -> x.blocks(trade));
        }
    }

    /** Promise 30: "The least HEAP (bits) that blocks": one alone, some, and all. */
    private static void blocksEachHeap() {
        CHECK.due("0 would rather keep theirs", liking(123, 123, 2013, 3012).blocks(1023), 1);
        CHECK.due("1 would rather keep theirs", liking(1023, 1023, 2013, 3012).blocks(1023), 2);
        CHECK.due("2 would rather keep theirs", liking(123, 1023, 2013, 2013).blocks(132), 4);
        CHECK.due("3 would rather keep theirs", liking(123, 1023, 3012, 3012).blocks(132), 8);
        CHECK.due("0 and 1 would swap", liking(1023, 123, 2013, 3012).blocks(123), 3);
        CHECK.due("2 and 3 would swap", liking(123, 1023, 3012, 2013).blocks(123), 12);
        CHECK.due("three in a ring: 1, 2, 3", liking(123, 2103, 3201, 1302).blocks(123), 14);
        CHECK.due("all four in a ring", liking(1023, 2103, 3201, 312).blocks(123), 15);
        CHECK.due("all of two", liking(10, 1).blocks(1), 3);
        // trade 1 0 2: person 0 has the best already; 1 wants 2, and 2 wants 0, which 0 and 1 must help to
        CHECK.due("at least as good for one, better for two", liking(120, 201, 21).blocks(102), 7);
    }

    /** Promise 30: "-2: none does": "one better" is wanted, all as good is not enough. */
    private static void blocksNone() {
        CHECK.due("each has the best", liking(123, 1023, 2013, 3012).blocks(123), -2);
        CHECK.due("a ring of all has the best", liking(1023, 2013, 3012, 123).blocks(1230), -2);
        CHECK.due("two", liking(1, 10).blocks(1), -2);
        CHECK.due("one would swap, the other would not", liking(10, 10).blocks(1), -2);
        CHECK.due("who would not keeps theirs", liking(10, 10).blocks(10), 2);
        SETTLED.due(-2, "rings' trade", x -> x.blocks(102));
    }

    /** Promise 31: "TRADE i, from 0, of THE CORE, by numbers. -1 (i below 0); -2: there are not so many." */
    private static void coreRanges() {
        SETTLED.due(102, "the first", x -> x.core(0));
        for (int i : new int[] {-1, -2, Integer.MIN_VALUE, Integer.MIN_VALUE + 1}) {
            SETTLED.due(-1, "core " + i, x -> x.core(i));
        }
        for (int i : new int[] {1, 2, 24, 1 << 16, Integer.MAX_VALUE}) {
            SETTLED.due(-2, "core " + i, x -> x.core(i));
        }
    }

    /** Promise 32: "-1". */
    private static void goodNoTrade() {
        for (int trade : NO_ORDERS) {
            SETTLED.due(-1, "good " + trade, x -> x.good(trade));
        }
    }

    /** Promise 33: "-2: none does. -1." */
    private static void byNoTrade() {
        for (int trade : NO_ORDERS) {
            SETTLED.due(-1, "by " + trade, x -> x.by(trade));
        }
        SETTLED.due(-2, "each their own", x -> x.by(12));
        HonestHouse x = new HonestHouse(2, 0);
        CHECK.due("the first order", x.by(123), 123);
        CHECK.due("the last order", x.by(3210), 3210);
    }

    /** Promise 34: "-2: none. -1." */
    private static void wrongRanges() {
        SETTLED.outside("wrong's person", 0, 2, (x, v) -> x.wrong(v));
        for (int person = 0; person < 3; person++) {
            int who = person;
            SETTLED.due(-2, "wrong of " + person, x -> x.wrong(who));
        }
        for (int n = 2; n <= 4; n++) {
            int people = n;
            Refused refused = new Refused(CHECK, () -> new HonestHouse(people - 2, 0));
            refused.outside("wrong's person of " + n, 0, n - 1, (x, v) -> x.wrong(v));
        }
    }

    /** Calls that ask change nothing, either: orders 1 2 0, 0 1 2 and 0 2 1. */
    private static void asking() {
        SETTLED.due(102, "rings", x -> x.rings());
        SETTLED.due(1, "person 0 leaves", x -> x.leaves(0));
        SETTLED.due(1, "person 1 leaves", x -> x.leaves(1));
        SETTLED.due(2, "person 2 leaves", x -> x.leaves(2));
        SETTLED.due(102, "turns 012", x -> x.turns(12));
        SETTLED.due(210, "turns 210", x -> x.turns(210));
        SETTLED.due(3, "blocks 012", x -> x.blocks(12));
        SETTLED.due(0, "good 012", x -> x.good(12));
        SETTLED.due(1, "good 210", x -> x.good(210));
        SETTLED.due(12, "by 102", x -> x.by(102));
        SETTLED.due(21, "by 120", x -> x.by(120));
        SETTLED.due(210, "by 210", x -> x.by(210));
        SETTLED.due(1, "leaves behind turns", x -> x.turns(210) - 210 + x.leaves(0));
    }

    private static void everyOrderOfTwoAndThree() {
        for (int a : ORDERS[0]) {
            for (int b : ORDERS[0]) {
                agrees(ORDERS[0], liking(a, b), a + " " + b);
            }
        }
        for (int a : ORDERS[1]) {
            for (int b : ORDERS[1]) {
                for (int c : ORDERS[1]) {
                    agrees(ORDERS[1], liking(a, b, c), a + " " + b + " " + c);
                }
            }
        }
    }

    private static void someOrdersOfFour() {
        int[] all = ORDERS[2];
        for (int k = 0; k < 24 * 24 * 24 * 24; k += 2503) {
            int[] orders = {all[k % 24], all[k / 24 % 24], all[k / 576 % 24], all[k / 13824]};
            agrees(all, liking(orders), "run " + k);
        }
    }

    /** What is known of such trades: rings lead to the one trade of the core, turns to the good ones, no lie pays. */
    private static void agrees(int[] orders, HonestHouse x, String likes) {
        int rings = x.rings();
        int good = 0;
        CHECK.due("core of " + likes, x.core(0), rings);
        CHECK.due("one in the core of " + likes, x.count(6), 1);
        CHECK.due("no second of " + likes, x.core(1), -2);
        for (int trade : orders) {
            int by = leastOrderTo(orders, x, trade);
            CHECK.due("by " + trade + " of " + likes, x.by(trade), by);
            CHECK.due("good " + trade + " of " + likes, x.good(trade), by == -2 ? 0 : 1);
            CHECK.holds("blocks " + trade + " of " + likes, (x.blocks(trade) == -2) == (trade == rings));
            good += by == -2 ? 0 : 1;
        }
        CHECK.due("good ones of " + likes, x.count(5), good);
        for (int person = 0; person < x.count(0); person++) {
            CHECK.due("wrong of " + person + " of " + likes, x.wrong(person), -2);
        }
        CHECK.due("rings of " + likes + " as before", x.rings(), rings);
    }

    private static int leastOrderTo(int[] orders, HonestHouse x, int trade) {
        for (int order : orders) {
            if (x.turns(order) == trade) {
                return order;
            }
        }
        return -2;
    }
}
