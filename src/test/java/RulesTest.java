/** Promises 4 to 10: rule, put, pay, gift, middle, end, pays. */
public final class RulesTest {
    private static final Check CHECK = new Check();

    public static void main(String[] args) {
        rules();
        tables();
        paid();
        weighed();
        weighedTies();
        weighedGifts();
        middles();
        CHECK.end();
    }

    /** 3 people, 3 ends; wish 0: 3 0 1, wish 1: 0 7 0, wish 2: 2 2 5. */
    private static HonestHouse house() {
        HonestHouse x = new HonestHouse(1, 1);
        int[][] numbers = {{3, 0, 1}, {0, 7, 0}, {2, 2, 5}};
        for (int wish = 0; wish < 3; wish++) {
            x.wish();
            for (int end = 0; end < 3; end++) {
                x.worth(wish, end, numbers[wish][end]);
            }
        }
        return x;
    }

    private static void rules() {
        HonestHouse x = new HonestHouse(0, 0);
        CHECK.due("no wishes", x.rule(0), -1);
        x.wish();
        CHECK.due("kind -1", x.rule(-1), -1);
        CHECK.due("kind 4", x.rule(4), -1);
        CHECK.due("none came", x.count(3), 0);
        for (int i = 0; i < 8; i++) {
            CHECK.due("rule", x.rule(i % 4), i);
        }
        CHECK.due("a ninth", x.rule(0), -2);
        CHECK.due("a ninth of no kind", x.rule(4), -1);
        CHECK.due("rules", x.count(3), 8);
    }

    private static void tables() {
        HonestHouse x = house();
        x.rule(0);
        x.rule(1);
        x.rule(2);
        x.rule(3);
        for (int rule = 0; rule < 2; rule++) {
            CHECK.due("0 at first", x.end(rule, 26), 0);
            CHECK.due("the one before", x.put(rule, 26, 2), 0);
            CHECK.due("put", x.end(rule, 26), 2);
            CHECK.due("the one before that", x.put(rule, 26, 1), 2);
            CHECK.due("no such row", x.put(rule, 27, 1), -1);
            CHECK.due("row below 0", x.put(rule, -1, 1), -1);
            CHECK.due("no such end", x.put(rule, 26, 3), -1);
            CHECK.due("end below 0", x.put(rule, 26, -1), -1);
            CHECK.due("as it was", x.end(rule, 26), 1);
            CHECK.due("others as they were", x.end(rule, 25), 0);
            CHECK.due("end of no row", x.end(rule, 27), -1);
            CHECK.due("end of row -1", x.end(rule, -1), -1);
        }
        CHECK.due("put in a weighed rule", x.put(2, 0, 1), -4);
        CHECK.due("put in a middle rule", x.put(3, 0, 1), -4);
        CHECK.due("no such end of a weighed rule", x.put(2, 0, 3), -1);
        CHECK.due("no such rule", x.put(4, 0, 0), -1);
        CHECK.due("rule -1", x.put(-1, 0, 0), -1);
        CHECK.due("end of no rule", x.end(4, 0), -1);
        CHECK.due("end of rule -1", x.end(-1, 0), -1);
        CHECK.due("a table has no payments", x.pays(0, 26, 2), 0);
        CHECK.due("a middle rule has none", x.pays(3, 26, 2), 0);
        CHECK.noSuch("pays of no rule", () -> x.pays(4, 0, 0));
        CHECK.noSuch("pays of rule -1", () -> x.pays(-1, 0, 0));
        CHECK.noSuch("pays of no row", () -> x.pays(0, 27, 0));
        CHECK.noSuch("pays of row -1", () -> x.pays(0, -1, 0));
        CHECK.noSuch("pays of no person", () -> x.pays(0, 0, 3));
        CHECK.noSuch("pays of person -1", () -> x.pays(0, 0, -1));
    }

    private static void paid() {
        HonestHouse x = house();
        x.rule(0);
        x.rule(1);
        x.rule(2);
        x.rule(3);
        CHECK.due("same as at first", x.pay(1, 5, 2, 0), 0);
        CHECK.due("another", x.pay(1, 5, 2, 9999), 1);
        CHECK.due("the same", x.pay(1, 5, 2, 9999), 0);
        CHECK.due("least", x.pay(1, 5, 1, -9999), 1);
        CHECK.due("too much", x.pay(1, 5, 0, 10000), -1);
        CHECK.due("too little", x.pay(1, 5, 0, -10000), -1);
        CHECK.due("no such rule", x.pay(4, 5, 0, 1), -1);
        CHECK.due("no such row", x.pay(1, 27, 0, 1), -1);
        CHECK.due("row -1", x.pay(1, -1, 0, 1), -1);
        CHECK.due("no such person", x.pay(1, 5, 3, 1), -1);
        CHECK.due("person -1", x.pay(1, 5, -1, 1), -1);
        CHECK.due("a table", x.pay(0, 5, 0, 1), -4);
        CHECK.due("a weighed rule", x.pay(2, 5, 0, 1), -4);
        CHECK.due("a middle rule", x.pay(3, 5, 0, 1), -4);
        CHECK.due("a table, and too much", x.pay(0, 5, 0, 10000), -1);
        CHECK.due("pays 0", x.pays(1, 5, 0), 0);
        CHECK.due("pays 1", x.pays(1, 5, 1), -9999);
        CHECK.due("pays 2", x.pays(1, 5, 2), 9999);
        CHECK.due("another row", x.pays(1, 4, 2), 0);
        CHECK.due("least budget", x.budget(1, false), 0);
    }

    private static void weighed() {
        HonestHouse x = house();
        x.rule(2);
        // row 1 + 0 * 3 + 2 * 9 = 19: wishes 1, 0, 2: sums 5, 9, 6
        CHECK.due("greatest sum", x.end(0, 19), 1);
        // without person 0: 5, 2, 6: the greatest 6, at end 1 it is 2
        CHECK.due("person 0 pays", x.pays(0, 19, 0), 4);
        // without person 1: 2, 9, 5; without person 2: 3, 7, 1
        CHECK.due("person 1 pays", x.pays(0, 19, 1), 0);
        CHECK.due("person 2 pays", x.pays(0, 19, 2), 0);
        CHECK.due("a weight", x.gift(0, -1, 0, 3), 1);
        CHECK.due("the same weight", x.gift(0, -1, 0, 3), 0);
        CHECK.due("4 by 3, towards 0", x.pays(0, 19, 0), 1);
        CHECK.due("no weight", x.gift(0, -1, 0, 0), 1);
        // sums 5, 2, 6
        CHECK.due("person 0 does not count", x.end(0, 19), 2);
        CHECK.due("one without a weight pays 0", x.pays(0, 19, 0), 0);
        // without person 2: 3, 0, 1: 3 less 1
        CHECK.due("person 2 pays then", x.pays(0, 19, 2), 2);
        CHECK.due("greatest weight", x.gift(0, -1, 2, 9), 1);
        CHECK.due("2 by 9", x.pays(0, 19, 2), 0);
        CHECK.due("weight 10", x.gift(0, -1, 2, 10), -1);
        CHECK.due("weight -1", x.gift(0, -1, 2, -1), -1);
        CHECK.due("no such person", x.gift(0, -1, 3, 1), -1);
        CHECK.due("neither", x.gift(0, -1, -1, 1), -1);
        CHECK.due("both", x.gift(0, 0, 0, 1), -1);
        CHECK.due("end -2", x.gift(0, -2, 0, 1), -1);
        CHECK.due("who -2", x.gift(0, 0, -2, 1), -1);
        CHECK.due("as it was", x.gift(0, -1, 2, 9), 0);
    }

    private static void weighedTies() {
        HonestHouse x = new HonestHouse(0, 2);
        x.wish();
        x.worth(0, 1, 4);
        x.worth(0, 3, 4);
        x.rule(2);
        CHECK.due("of the greatest the least", x.end(0, 0), 1);
        x.gift(0, 3, -1, 1);
        CHECK.due("a gift decides", x.end(0, 0), 3);
    }

    private static void weighedGifts() {
        HonestHouse x = house();
        x.rule(2);
        x.rule(1);
        CHECK.due("before", x.end(0, 19), 1);
        CHECK.due("a gift", x.gift(0, 2, -1, 99), 1);
        CHECK.due("the same gift", x.gift(0, 2, -1, 99), 0);
        CHECK.due("after", x.end(0, 19), 2);
        CHECK.due("none decides against a great gift", x.pays(0, 19, 2), 0);
        CHECK.due("a small gift", x.gift(0, 2, -1, 4), 1);
        // sums 5, 9, 10; without person 2: 3, 7, 5
        CHECK.due("end", x.end(0, 19), 2);
        CHECK.due("the gift counts in both sums", x.pays(0, 19, 2), 2);
        CHECK.due("least gift", x.gift(0, 2, -1, -99), 1);
        CHECK.due("gift 100", x.gift(0, 2, -1, 100), -1);
        CHECK.due("gift -100", x.gift(0, 2, -1, -100), -1);
        CHECK.due("no such end", x.gift(0, 3, -1, 1), -1);
        CHECK.due("no such rule", x.gift(2, 0, -1, 1), -1);
        CHECK.due("a paid rule", x.gift(1, 0, -1, 1), -4);
        CHECK.due("a paid rule's weight", x.gift(1, -1, 0, 1), -4);
        CHECK.due("a paid rule, gift 100", x.gift(1, 0, -1, 100), -1);
        CHECK.due("as it was", x.gift(0, 2, -1, -99), 0);
    }

    private static void middles() {
        HonestHouse x = house();
        x.rule(3);
        x.rule(0);
        // tops 0, 1, 2; row 19 has 1, 0, 2; with places 0, 0 the third least of 0 0 0 1 2
        CHECK.due("places 0", x.end(0, 19), 0);
        CHECK.due("place 0", x.middle(0, 0, 2), 0);
        CHECK.due("0 0 1 2 2", x.end(0, 19), 1);
        CHECK.due("place 1", x.middle(0, 1, 2), 0);
        CHECK.due("0 1 2 2 2", x.end(0, 19), 2);
        CHECK.due("the end before", x.middle(0, 1, 1), 2);
        CHECK.due("0 1 1 2 2", x.end(0, 19), 1);
        CHECK.due("no such place", x.middle(0, 2, 1), -1);
        CHECK.due("place -1", x.middle(0, -1, 1), -1);
        CHECK.due("no such end", x.middle(0, 0, 3), -1);
        CHECK.due("end -1", x.middle(0, 0, -1), -1);
        CHECK.due("no such rule", x.middle(2, 0, 0), -1);
        CHECK.due("a table", x.middle(1, 0, 0), -4);
        CHECK.due("a table, no such place", x.middle(1, 2, 0), -1);
        CHECK.due("as it was", x.middle(0, 0, 2), 2);
        HonestHouse y = new HonestHouse(0, 1);
        y.wish();
        y.worth(0, 1, 5);
        y.worth(0, 2, 5);
        y.rule(3);
        y.middle(0, 0, 2);
        CHECK.due("of the greatest numbers the least end is the top", y.end(0, 0), 1);
    }
}
