/** Promises 16 to 19, 24 and 25: onto, dictator, budget, welfare, same, fair. */
public final class CostsTest {
    private static final Check CHECK = new Check();

    public static void main(String[] args) {
        ontos();
        dictators();
        budgets();
        welfares();
        sames();
        fairs();
        CHECK.end();
    }

    /** 2 people, 3 ends; wish 0: 5 0 0, wish 1: 0 4 4. */
    private static HonestHouse house() {
        HonestHouse x = new HonestHouse(0, 1);
        x.wish();
        x.wish();
        x.worth(0, 0, 5);
        x.worth(1, 1, 4);
        x.worth(1, 2, 4);
        return x;
    }

    private static void ontos() {
        HonestHouse x = house();
        x.rule(0);
        CHECK.due("one end", x.onto(0), 1);
        x.put(0, 3, 2);
        CHECK.due("two ends", x.onto(0), 2);
        x.put(0, 0, 1);
        CHECK.due("three ends", x.onto(0), 3);
        x.put(0, 1, 2);
        CHECK.due("three ends still", x.onto(0), 3);
        CHECK.due("no such rule", x.onto(1), -1);
        CHECK.due("rule -1", x.onto(-1), -1);
        x.rule(2);
        CHECK.due("weighed: ends 0 and 1", x.onto(1), 2);
        x.gift(1, 2, -1, 9);
        CHECK.due("weighed, with a gift: ends 0 (10 to 9) and 2", x.onto(1), 2);
        x.gift(1, 2, -1, 99);
        CHECK.due("weighed, with a great gift", x.onto(1), 1);
    }

    private static void dictators() {
        HonestHouse x = house();
        x.rule(0);
        CHECK.due("none", x.dictator(0), -2);
        x.put(0, 2, 1);
        x.put(0, 3, 1);
        CHECK.due("person 1", x.dictator(0), 1);
        x.put(0, 3, 2);
        CHECK.due("end 2 is as good, but not the top", x.dictator(0), -2);
        x.put(0, 3, 1);
        x.put(0, 2, 0);
        x.put(0, 1, 1);
        CHECK.due("person 0", x.dictator(0), 0);
        x.put(0, 0, 1);
        CHECK.due("all rows count, row 0 too", x.dictator(0), -2);
        CHECK.due("no such rule", x.dictator(1), -1);
        CHECK.due("rule -1", x.dictator(-1), -1);
        HonestHouse y = new HonestHouse(2, 0);
        y.wish();
        y.rule(0);
        CHECK.due("of several the least", y.dictator(0), 0);
    }

    private static void budgets() {
        HonestHouse x = house();
        x.rule(0);
        x.rule(1);
        CHECK.due("a table's least", x.budget(0, false), 0);
        CHECK.due("a table's greatest", x.budget(0, true), 0);
        for (int row = 0; row < 4; row++) {
            x.pay(1, row, 0, 10 + row);
            x.pay(1, row, 1, row == 2 ? -50 : -3);
        }
        CHECK.due("least", x.budget(1, false), -38);
        CHECK.due("greatest", x.budget(1, true), 10);
        x.pay(1, 1, 0, 500);
        CHECK.due("greatest at row 1", x.budget(1, true), 497);
        x.pay(1, 0, 0, -9999);
        x.pay(1, 0, 1, -9999);
        CHECK.due("least of all", x.budget(1, false), -19998);
        CHECK.noSuch("no such rule", () -> x.budget(2, true));
        CHECK.noSuch("rule -1", () -> x.budget(-1, false));
    }

    private static void welfares() {
        HonestHouse x = house();
        x.rule(1);
        // end 0: rows 0 .. 3 give 10, 5, 5, 0
        CHECK.due("end 0", x.welfare(0), 20);
        x.put(0, 3, 2);
        CHECK.due("row 3: 4 and 4", x.welfare(0), 28);
        x.pay(0, 0, 0, 100);
        CHECK.due("payments don't count", x.welfare(0), 28);
        CHECK.noSuch("no such rule", () -> x.welfare(1));
        CHECK.noSuch("rule -1", () -> x.welfare(-1));
    }

    private static void sames() {
        HonestHouse x = house();
        x.rule(0);
        x.rule(1);
        CHECK.due("a table and a paid rule", x.same(0, 1), 1);
        CHECK.due("itself", x.same(1, 1), 1);
        x.put(0, 3, 1);
        CHECK.due("another end", x.same(0, 1), 0);
        x.put(1, 3, 1);
        CHECK.due("the same end", x.same(1, 0), 1);
        x.pay(1, 3, 1, 1);
        CHECK.due("another payment", x.same(0, 1), 0);
        CHECK.due("another payment, the other way", x.same(1, 0), 0);
        x.pay(1, 3, 1, 0);
        x.put(0, 0, 2);
        CHECK.due("another end at row 0", x.same(0, 1), 0);
        CHECK.due("no such rule", x.same(2, 0), -1);
        CHECK.due("no such other", x.same(0, 2), -1);
        CHECK.due("rule -1", x.same(-1, 0), -1);
        CHECK.due("other -1", x.same(0, -1), -1);
    }

    private static void fairs() {
        HonestHouse x = house();
        x.rule(1);
        CHECK.due("one end", x.fair(0), 1);
        x.pay(0, 1, 0, 5);
        CHECK.due("payments don't count", x.fair(0), 1);
        x.put(0, 1, 2);
        CHECK.due("row 1 is not as row 2", x.fair(0), 0);
        x.put(0, 2, 2);
        CHECK.due("rows 1 and 2 alike", x.fair(0), 1);
        CHECK.due("no such rule", x.fair(1), -1);
        CHECK.due("rule -1", x.fair(-1), -1);
        x.rule(2);
        CHECK.due("weighed alike", x.fair(1), 1);
        x.gift(1, -1, 1, 3);
        CHECK.due("weighed otherwise", x.fair(1), 0);
        HonestHouse y = new HonestHouse(2, 0);
        y.wish();
        y.wish();
        y.rule(0);
        y.put(0, 1, 1);
        y.put(0, 2, 1);
        y.put(0, 4, 1);
        CHECK.due("the last person is left out", y.fair(0), 0);
        y.put(0, 8, 1);
        CHECK.due("just one says wish 1", y.fair(0), 1);
    }
}
