/** Promises 26 to 34: likes, rings, leaves, turns, blocks, core, good, by, wrong. */
public final class TradesTest {
    private static final Check CHECK = new Check();

    public static void main(String[] args) {
        orders();
        ordersOfTwo();
        rings();
        ringsAtOnce();
        turns();
        blocks();
        cores();
        goods();
        wrongs();
        CHECK.end();
    }

    private static void orders() {
        HonestHouse x = new HonestHouse(1, 0);
        CHECK.due("an order", x.likes(0, 120), 0);
        CHECK.due("the same order", x.likes(0, 120), 0);
        CHECK.due("0 first", x.likes(0, 12), 0);
        int[] none = {0, 1, 10, 11, 20, 112, 121, 123, 13, 30, 1012, 2100, 1120, 9120, -12, -210,
            Integer.MAX_VALUE, Integer.MIN_VALUE};
        for (int order : none) {
            CHECK.due("no order " + order, x.likes(0, order), -1);
            CHECK.due("no order of the people " + order, x.turns(order), -1);
            CHECK.due("no trade to block " + order, x.blocks(order), -1);
            CHECK.due("no good trade " + order, x.good(order), -1);
            CHECK.due("no trade by turns " + order, x.by(order), -1);
        }
        CHECK.due("no such person", x.likes(3, 12), -1);
        CHECK.due("person -1", x.likes(-1, 12), -1);
        CHECK.due("as it was", x.turns(12), 12);
        x.likes(0, 210);
        CHECK.due("no order", x.likes(0, 211), -1);
        CHECK.due("a refused call changes nothing", x.turns(12), 201);
    }

    private static void ordersOfTwo() {
        HonestHouse x = new HonestHouse(0, 0);
        CHECK.due("01", x.likes(0, 1), 0);
        CHECK.due("10", x.likes(0, 10), 0);
        CHECK.due("12", x.likes(0, 12), -1);
        CHECK.due("0", x.likes(0, 0), -1);
        CHECK.due("person 2", x.likes(2, 10), -1);
        CHECK.due("both want to swap", x.rings(), 10);
        CHECK.due("a swap", x.leaves(0), 1);
        x.likes(1, 10);
        CHECK.due("person 1 doesn't", x.rings(), 1);
        CHECK.due("person 1 leaves first", x.leaves(1), 1);
        CHECK.due("person 0 then", x.leaves(0), 2);
    }

    private static HonestHouse four(int a, int b, int c, int d) {
        HonestHouse x = new HonestHouse(2, 0);
        x.likes(0, a);
        x.likes(1, b);
        x.likes(2, c);
        x.likes(3, d);
        return x;
    }

    private static void rings() {
        HonestHouse x = new HonestHouse(2, 0);
        CHECK.due("all want 0, 1, ..: each leaves alone", x.rings(), 123);
        for (int person = 0; person < 4; person++) {
            CHECK.due("one by one", x.leaves(person), person + 1);
        }
        CHECK.due("no such person", x.leaves(4), -1);
        CHECK.due("person -1", x.leaves(-1), -1);
        CHECK.due("before any other call", four(1203, 2013, 123, 123).leaves(3), 2);
        HonestHouse y = four(1203, 2013, 123, 123);
        // 0 points to 1, 1 to 2, 2 to 0; 3 to 0
        CHECK.due("a ring of three", y.rings(), 1203);
        CHECK.due("person 2 leaves in it", y.leaves(2), 1);
        CHECK.due("person 3 stays alone", y.leaves(3), 2);
        HonestHouse z = four(1230, 2310, 1032, 123);
        // 1 and 2 swap; then 0 points to 3, and 3 to 0
        CHECK.due("a ring behind a ring", z.rings(), 3210);
        CHECK.due("round 1", z.leaves(1), 1);
        CHECK.due("round 2", z.leaves(3), 2);
    }

    private static void ringsAtOnce() {
        HonestHouse x = four(1023, 123, 3012, 2013);
        CHECK.due("two rings", x.rings(), 1032);
        CHECK.due("in one round", x.leaves(0), 1);
        CHECK.due("and the other, too", x.leaves(3), 1);
        HonestHouse y = four(123, 1023, 2013, 3012);
        CHECK.due("each their own", y.rings(), 123);
        for (int person = 0; person < 4; person++) {
            CHECK.due("all in round 1", y.leaves(person), 1);
        }
    }

    private static void turns() {
        HonestHouse x = four(3210, 3120, 3012, 123);
        CHECK.due("0 1 2 3", x.turns(123), 3102);
        CHECK.due("3 2 1 0", x.turns(3210), 2130);
        CHECK.due("1 0 2 3", x.turns(1023), 2301);
        CHECK.due("the least order to 3102", x.by(3102), 123);
        CHECK.due("the least order to 2130: 2 goes first", x.by(2130), 2013);
        CHECK.due("none leads where all are badly off", x.by(123), -2);
        CHECK.due("no order", x.turns(1), -1);
        HonestHouse y = new HonestHouse(2, 0);
        CHECK.due("all alike: person 2 first", y.turns(2013), 1203);
        CHECK.due("and back", y.by(1203), 2013);
        HonestHouse z = four(123, 1023, 2013, 3012);
        CHECK.due("any order leads there: the least", z.by(123), 123);
    }

    private static void blocks() {
        HonestHouse x = four(1203, 2013, 123, 123);
        CHECK.due("the trade of rings", x.blocks(1203), -2);
        CHECK.due("each their own: 0 and 1 would swap", x.blocks(123), 3);
        HonestHouse u = four(1023, 2103, 213, 123);
        CHECK.due("each their own: a ring of three is better, no ring of two", u.blocks(123), 7);
        // 3 has thing 0, 0 has thing 3: 0 would rather keep 0
        CHECK.due("person 0 alone", x.blocks(3120), 1);
        HonestHouse y = four(1023, 123, 3012, 2013);
        CHECK.due("of two heaps the least", y.blocks(123), 3);
        CHECK.due("the other pair", y.blocks(1023), 12);
        CHECK.due("neither", y.blocks(1032), -2);
        HonestHouse z = four(123, 1023, 123, 3012);
        // 2 likes 0 best, 0 keeps 0: trade 0 1 2 3 can't be blocked
        CHECK.due("a wish that none shares", z.blocks(123), -2);
        // a heap blocks too if some of it are just as well off
        HonestHouse w = four(123, 2103, 1203, 3012);
        CHECK.due("persons 1 and 2 swap", w.blocks(123), 6);
        HonestHouse v = new HonestHouse(1, 0);
        v.likes(0, 120);
        v.likes(1, 201);
        v.likes(2, 102);
        // trade 1 0 2: person 0 has the best; 1 and 2 swap: 1 better, 2 better
        CHECK.due("persons 1 and 2", v.blocks(102), 6);
        v.likes(2, 21);
        // ring 0 to 1, 1 to 2, 2 to 0; in the trade 1 0 2 person 0 has thing 1 already
        CHECK.due("all three, one of them just as well off", v.blocks(102), 7);
    }

    private static void cores() {
        HonestHouse x = four(1203, 2013, 123, 123);
        CHECK.due("the first", x.core(0), 1203);
        CHECK.due("no second", x.core(1), -2);
        CHECK.due("far", x.core(Integer.MAX_VALUE), -2);
        CHECK.due("-1", x.core(-1), -1);
        CHECK.due("count", x.count(6), 1);
        HonestHouse y = new HonestHouse(0, 0);
        CHECK.due("two people", y.core(0), 1);
        y.likes(0, 10);
        CHECK.due("two who swap", y.core(0), 10);
    }

    private static void goods() {
        HonestHouse x = four(1203, 2013, 123, 123);
        CHECK.due("rings are good", x.good(1203), 1);
        CHECK.due("each their own is not", x.good(123), 0);
        HonestHouse y = new HonestHouse(2, 0);
        CHECK.due("none can gain but at another's cost", y.good(3210), 1);
        HonestHouse z = new HonestHouse(0, 0);
        z.likes(0, 10);
        CHECK.due("each has the worse one", z.good(1), 0);
        CHECK.due("each has the better one", z.good(10), 1);
        CHECK.due("one good trade", z.count(5), 1);
    }

    private static void wrongs() {
        HonestHouse x = four(1203, 2013, 123, 123);
        for (int person = 0; person < 4; person++) {
            CHECK.due("no lie pays in rings", x.wrong(person), -2);
        }
        CHECK.due("no such person", x.wrong(4), -1);
        CHECK.due("person -1", x.wrong(-1), -1);
        CHECK.due("orders are as they were", x.rings(), 1203);
        CHECK.due("orders are as they were, person 3", x.turns(3012), 1230);
    }
}
