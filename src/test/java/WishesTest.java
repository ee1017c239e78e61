/** Promises 1 to 3 and 35: a new object, wish, worth, count. */
public final class WishesTest {
    private static final Check CHECK = new Check();

    public static void main(String[] args) {
        sizes();
        emptyHouse();
        wishes();
        worths();
        counts();
        CHECK.end();
    }

    private static void sizes() {
        int[][] cases = {{0, 2}, {1, 3}, {2, 4}, {3, 2}, {-1, 4}, {-2, 3}, {-3, 2}, {100, 3},
            {Integer.MAX_VALUE, 3}, {Integer.MIN_VALUE, 3}};
        for (int[] c : cases) {
            CHECK.due("people of " + c[0], new HonestHouse(c[0], 0).count(0), c[1]);
        }
        int[][] ends = {{0, 2}, {1, 3}, {2, 4}, {3, 5}, {4, 2}, {-1, 5}, {-4, 2}, {-5, 5},
            {Integer.MAX_VALUE, 5}, {Integer.MIN_VALUE, 2}};
        for (int[] c : ends) {
            CHECK.due("ends of " + c[0], new HonestHouse(0, c[0]).count(1), c[1]);
        }
    }

    private static void emptyHouse() {
        HonestHouse x = new HonestHouse(1, 2);
        CHECK.due("no wishes", x.count(2), 0);
        CHECK.due("no rules", x.count(3), 0);
        CHECK.due("no rows", x.count(4), 0);
        CHECK.due("orders 0, 1, ..: each keeps their own or takes what is left", x.rings(), 12);
        CHECK.due("the second best of person 2 is thing 1", x.turns(21), 21);
        CHECK.due("no row to say in", x.said(0, 0, 0), -1);
        CHECK.due("worth of no wish", x.worth(0, 0, 1), -1);
        CHECK.due("nothing on a shelf", x.weight(0), -11);
        CHECK.due("end of no rule", x.end(0, 0), -1);
    }

    private static void wishes() {
        HonestHouse x = new HonestHouse(0, 0);
        for (int i = 0; i < 6; i++) {
            CHECK.due("wish", x.wish(), i);
        }
        CHECK.due("a seventh wish", x.wish(), -2);
        CHECK.due("wishes", x.count(2), 6);
        x.rule(0);
        CHECK.due("a seventh wish with rules: the first refusal", x.wish(), -2);
        HonestHouse y = new HonestHouse(0, 0);
        y.wish();
        y.rule(0);
        CHECK.due("a wish with rules", y.wish(), -3);
        CHECK.due("it did not come", y.count(2), 1);
        CHECK.due("nor more rows", y.count(4), 1);
    }

    private static void worths() {
        HonestHouse x = new HonestHouse(0, 1);
        x.wish();
        CHECK.due("same as at first", x.worth(0, 0, 0), 0);
        CHECK.due("another", x.worth(0, 2, 99), 1);
        CHECK.due("the same", x.worth(0, 2, 99), 0);
        CHECK.due("least", x.worth(0, 1, -99), 1);
        CHECK.due("too great", x.worth(0, 1, 100), -1);
        CHECK.due("too little", x.worth(0, 1, -100), -1);
        CHECK.due("no such wish", x.worth(1, 0, 1), -1);
        CHECK.due("wish below 0", x.worth(-1, 0, 1), -1);
        CHECK.due("no such end", x.worth(0, 3, 1), -1);
        CHECK.due("end below 0", x.worth(0, -1, 1), -1);
        x.keep(0, 4, 0);
        CHECK.due("number of end 0", x.element(0, 0), 0);
        CHECK.due("number of end 1", x.element(0, 1), -99);
        CHECK.due("number of end 2", x.element(0, 2), 99);
        x.rule(0);
        CHECK.due("with rules", x.worth(0, 0, 5), -3);
        CHECK.due("with rules, and out of range", x.worth(0, 0, 100), -1);
        x.keep(0, 4, 0);
        CHECK.due("nothing changed", x.element(0, 0), 0);
    }

    private static void counts() {
        HonestHouse x = new HonestHouse(2, 3);
        CHECK.due("count(-1)", x.count(-1), -1);
        CHECK.due("count(7)", x.count(7), -1);
        x.wish();
        CHECK.due("rows of one wish", x.count(4), 1);
        for (int i = 0; i < 5; i++) {
            x.wish();
        }
        CHECK.due("rows of six wishes", x.count(4), 1296);
        x.rule(0);
        x.rule(3);
        CHECK.due("rules", x.count(3), 2);
        CHECK.due("good trades: all want the same order, so every trade is good", x.count(5), 24);
        CHECK.due("core", x.count(6), 1);
        x.likes(0, 1023);
        CHECK.due("good trades: those in which person 0 has thing 0 and who has thing 1 would swap are not",
            x.count(5), 24 - 6);
    }
}
