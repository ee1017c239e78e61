/** Promises 20 to 23: span, round, price, honest. */
public final class RoundsTest {
    private static final Check CHECK = new Check();

    public static void main(String[] args) {
        spans();
        prices();
        rounds();
        longRounds();
        workedOut();
        honestRules();
        CHECK.end();
    }

    /** 2 people, 4 ends, 3 wishes: 9 4 1 0, 2 8 5 0, 0 6 7 0; a table whose end is the wish of person 0. */
    private static HonestHouse house() {
        HonestHouse x = new HonestHouse(0, 2);
        int[][] numbers = {{9, 4, 1}, {2, 8, 5}, {0, 6, 7}};
        for (int wish = 0; wish < 3; wish++) {
            x.wish();
            for (int end = 0; end < 3; end++) {
                x.worth(wish, end, numbers[wish][end]);
            }
        }
        x.rule(0);
        for (int row = 0; row < 9; row++) {
            x.put(0, row, row % 3);
        }
        return x;
    }

    private static void spans() {
        HonestHouse x = house();
        CHECK.due("0 to 1", x.span(0, 0, 0, 0, 1), 6);
        CHECK.due("1 to 0", x.span(0, 0, 0, 1, 0), 5);
        CHECK.due("1 to 2", x.span(0, 0, 0, 1, 2), 1);
        CHECK.due("0 to 2", x.span(0, 0, 0, 0, 2), 7);
        CHECK.due("to itself", x.span(0, 0, 0, 2, 2), 0);
        CHECK.due("their own wish doesn't matter", x.span(0, 2, 0, 0, 1), 6);
        CHECK.due("person 1 brings about one end", x.span(0, 4, 1, 1, 1), 0);
        CHECK.notNow("end 3 doesn't come, as e", () -> x.span(0, 0, 0, 3, 0));
        CHECK.notNow("end 3 doesn't come, as f", () -> x.span(0, 0, 0, 0, 3));
        CHECK.notNow("end 0 doesn't come by person 1", () -> x.span(0, 4, 1, 0, 1));
        CHECK.notNow("end 3, twice", () -> x.span(0, 0, 0, 3, 3));
        CHECK.noSuch("no such rule", () -> x.span(1, 0, 0, 0, 1));
        CHECK.noSuch("rule -1", () -> x.span(-1, 0, 0, 0, 1));
        CHECK.noSuch("no such row", () -> x.span(0, 9, 0, 0, 1));
        CHECK.noSuch("row -1", () -> x.span(0, -1, 0, 0, 1));
        CHECK.noSuch("no such person", () -> x.span(0, 0, 2, 0, 1));
        CHECK.noSuch("person -1", () -> x.span(0, 0, -1, 0, 1));
        CHECK.noSuch("no such e", () -> x.span(0, 0, 0, 4, 1));
        CHECK.noSuch("e -1", () -> x.span(0, 0, 0, -1, 1));
        CHECK.noSuch("no such f", () -> x.span(0, 0, 0, 0, 4));
        CHECK.noSuch("f -1, and e that doesn't come", () -> x.span(0, 0, 0, 3, -1));
        x.put(0, 2, 1);
        // others' word 0: wishes 1 and 2 bring end 1: 8 - 2 and 6 - 0
        CHECK.due("of two wishes the least", x.span(0, 0, 0, 0, 1), 6);
        x.put(0, 1, 0);
        x.put(0, 0, 1);
        CHECK.due("of two others the least: 4 - 9 and 6 - 0", x.span(0, 0, 0, 0, 1), -5);
        CHECK.due("another row's others are not touched", x.span(0, 3, 0, 0, 2), 7);
    }

    private static void prices() {
        HonestHouse x = house();
        CHECK.due("the least end", x.price(0, 0, 0, 0), 0);
        CHECK.due("end 1", x.price(0, 0, 0, 1), 6);
        CHECK.due("end 2: 7 at once, 6 and 1 by end 1", x.price(0, 1, 0, 2), 7);
        CHECK.due("the least of one", x.price(0, 2, 1, 2), 0);
        CHECK.notNow("an end that doesn't come", () -> x.price(0, 0, 0, 3));
        CHECK.notNow("an end that doesn't come by person 1", () -> x.price(0, 0, 1, 1));
        CHECK.noSuch("no such rule", () -> x.price(1, 0, 0, 0));
        CHECK.noSuch("rule -1", () -> x.price(-1, 0, 0, 0));
        CHECK.noSuch("no such row", () -> x.price(0, 9, 0, 0));
        CHECK.noSuch("row -1", () -> x.price(0, -1, 0, 0));
        CHECK.noSuch("no such person", () -> x.price(0, 0, 2, 0));
        CHECK.noSuch("person -1", () -> x.price(0, 0, -1, 0));
        CHECK.noSuch("no such end", () -> x.price(0, 0, 0, 4));
        CHECK.noSuch("end -1", () -> x.price(0, 0, 0, -1));
        x.put(0, 0, 1);
        x.put(0, 1, 0);
        // others' word 0: end 1 by wish 0, end 0 by wish 1: a round of -5 and -6
        CHECK.notNow("a round below 0", () -> x.price(0, 0, 0, 0));
        CHECK.notNow("a round below 0 that the end is not on", () -> x.price(0, 0, 0, 2));
        CHECK.due("others' word 1 has none", x.price(0, 3, 0, 1), 6);
        HonestHouse y = new HonestHouse(0, 1);
        int[][] numbers = {{0, 0, 0}, {0, 3, 3}, {0, 9, 11}};
        for (int wish = 0; wish < 3; wish++) {
            y.wish();
            for (int end = 0; end < 3; end++) {
                y.worth(wish, end, numbers[wish][end]);
            }
        }
        y.rule(0);
        for (int row = 0; row < 9; row++) {
            y.put(0, row, row % 3);
        }
        CHECK.due("at once 11", y.span(0, 0, 0, 0, 2), 11);
        CHECK.due("by end 1: 3 and 2", y.price(0, 0, 0, 2), 5);
    }

    private static void rounds() {
        HonestHouse x = house();
        CHECK.due("payments are there", x.round(0, 0), -2);
        CHECK.due("what 3 where payments are there", x.round(0, 3), -1);
        x.put(0, 3, 1);
        x.put(0, 4, 0);
        // others' word 1, person 0: lengths 0 to 1: 4 - 9, 1 to 0: 2 - 8
        CHECK.due("person", x.round(0, 0), 0);
        CHECK.due("row", x.round(0, 1), 3);
        // 0, 1: -11. 0, 2, 1: 7 and 4 - 1 and -6. 0, 1, 2: -5 and 7 - 6 and 2 - 5
        CHECK.due("sum", x.round(0, 2), 11);
        CHECK.due("what -1", x.round(0, -1), -1);
        CHECK.due("what 3", x.round(0, 3), -1);
        CHECK.due("no such rule", x.round(1, 0), -1);
        CHECK.due("rule -1", x.round(-1, 0), -1);
        HonestHouse y = house();
        for (int row = 0; row < 9; row++) {
            y.put(0, row, 0);
        }
        // person 1 at person 0's word 2: wish 0 brings end 1, wish 1 end 0
        y.put(0, 2, 1);
        y.put(0, 8, 1);
        // person 0 at word 0: 6 and -6, which is not below 0
        CHECK.due("person 1", y.round(0, 0), 1);
        CHECK.due("row 2: their own wish in it is 0", y.round(0, 1), 2);
        CHECK.due("-5 and -6", y.round(0, 2), 11);
    }

    /** Rules that are worked out: nothing has asked for their rows before. */
    private static void workedOut() {
        HonestHouse x = house();
        x.rule(2);
        x.rule(3);
        // others' word 0: sums 18 8 2, 11 12 6, 9 10 8: ends 0, 1, 1
        CHECK.due("span of a weighed rule", x.span(1, 0, 0, 0, 1), 6);
        x.gift(1, 1, -1, 1);
        CHECK.due("price of a weighed rule", x.price(1, 2, 0, 1), 6);
        x.gift(1, 2, -1, 3);
        // 18 9 5, 11 13 9, 9 11 11
        CHECK.notNow("end 2 doesn't come", () -> x.span(1, 0, 0, 0, 2));
        x.gift(1, 2, -1, 4);
        // 18 9 6, 11 13 10, 9 11 12
        CHECK.due("end 2 comes", x.price(1, 0, 0, 2), 7);
        x.middle(2, 0, 2);
        // tops 0 1 2; the second least of a top, 0 and 2
        CHECK.due("span of a middle rule", x.span(2, 0, 0, 1, 2), 1);
        x.middle(2, 0, 1);
        CHECK.due("price of a middle rule: 0 and 1 come", x.price(2, 0, 0, 1), 6);
        CHECK.notNow("end 2 doesn't come", () -> x.price(2, 0, 0, 2));
        x.gift(1, 2, -1, 0);
        CHECK.due("payments are there for a weighed rule", x.round(1, 0), -2);
        x.middle(2, 0, 2);
        CHECK.due("they come for a middle rule, too", x.honest(2), 3);
        CHECK.due("as it has them", x.pays(3, 1, 0), 6);
    }

    /** A round through three ends that no round through two shows. */
    private static void longRounds() {
        HonestHouse x = new HonestHouse(0, 1);
        int[][] numbers = {{0, 1, -20}, {-20, 0, 1}, {1, -20, 0}};
        for (int wish = 0; wish < 3; wish++) {
            x.wish();
            for (int end = 0; end < 3; end++) {
                x.worth(wish, end, numbers[wish][end]);
            }
        }
        x.rule(1);
        for (int row = 0; row < 9; row++) {
            x.put(0, row, row % 3);
            x.pay(0, row, 0, row * 7);
        }
        CHECK.due("1 to 0", x.span(0, 0, 0, 1, 0), -1);
        CHECK.due("0 to 1", x.span(0, 0, 0, 0, 1), 20);
        CHECK.due("person", x.round(0, 0), 0);
        CHECK.due("row", x.round(0, 1), 0);
        CHECK.due("1 to 0, 0 to 2, 2 to 1: -1 each", x.round(0, 2), 3);
        CHECK.due("no payments make it honest", x.honest(0), -3);
        CHECK.due("none came", x.count(3), 1);
    }

    private static void honestRules() {
        HonestHouse x = house();
        CHECK.due("it comes", x.honest(0), 1);
        for (int row = 0; row < 9; row++) {
            CHECK.due("its end", x.end(1, row), row % 3);
            CHECK.due("person 0 pays the price", x.pays(1, row, 0), x.price(0, row, 0, row % 3));
            CHECK.due("person 1 pays nothing", x.pays(1, row, 1), 0);
        }
        CHECK.due("it is honest", x.lies(1), 0);
        CHECK.due("it is a paid rule: its payments change", x.pay(1, 0, 0, 44), 1);
        CHECK.due("and its ends", x.put(1, 0, 3), 0);
        CHECK.due("the other one stays", x.end(0, 0), 0);
        x.keep(0, 1, 1);
        CHECK.due("its weight is a paid one's", x.weight(0), 111);
        CHECK.due("no such rule", x.honest(2), -1);
        CHECK.due("rule -1", x.honest(-1), -1);
        x.put(0, 0, 1);
        x.put(0, 1, 0);
        CHECK.due("a round below 0", x.honest(0), -3);
        CHECK.due("none came", x.count(3), 2);
        for (int i = 2; i < 8; i++) {
            x.rule(2);
        }
        CHECK.due("there are 8: the first refusal", x.honest(0), -2);
        CHECK.due("there are 8, and no such rule", x.honest(8), -1);
        CHECK.due("there are 8 still", x.count(3), 8);
    }
}
