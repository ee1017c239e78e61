/** Promises 36 to 41: keep, make, element, copy, weight, toss. */
public final class ShelvesTest {
    private static final Check CHECK = new Check();

    public static void main(String[] args) {
        keeps();
        keepsFirstSixty();
        makes();
        copies();
        copiesWithin();
        weights();
        tosses();
        CHECK.end();
    }

    /** 2 people, 4 ends, 2 wishes: 1 2 3 4, -5 0 0 9; rules of kinds 3, 2, 1, 0. */
    private static HonestHouse house() {
        HonestHouse x = new HonestHouse(0, 2);
        x.wish();
        x.wish();
        for (int end = 0; end < 4; end++) {
            x.worth(0, end, end + 1);
        }
        x.worth(1, 0, -5);
        x.worth(1, 3, 9);
        for (int kind = 3; kind >= 0; kind--) {
            x.rule(kind);
        }
        return x;
    }

    private static void keeps() {
        HonestHouse x = house();
        x.put(3, 2, 3);
        CHECK.due("ends of a table", x.keep(0, 3, 3), 0);
        CHECK.due("row 0", x.element(0, 0), 0);
        CHECK.due("row 2", x.element(0, 2), 3);
        CHECK.due("row 3", x.element(0, 3), 0);
        CHECK.notNow("no row 4", () -> x.element(0, 4));
        CHECK.notNow("place -1", () -> x.element(0, -1));
        x.put(3, 2, 1);
        CHECK.due("as it was then", x.element(0, 2), 3);
        CHECK.due("numbers of a wish", x.keep(1, 4, 1), 0);
        CHECK.due("end 0", x.element(1, 0), -5);
        CHECK.due("end 3", x.element(1, 3), 9);
        CHECK.notNow("no end 4", () -> x.element(1, 4));
        CHECK.due("ends of a weighed rule", x.keep(2, 3, 1), 0);
        CHECK.due("row 3 of it", x.element(2, 3), 3);
        CHECK.due("a rule", x.keep(7, 1, 0), 0);
        CHECK.notNow("a rule is no row", () -> x.element(7, 0));
        CHECK.notNow("nothing is held", () -> x.element(6, 0));
        CHECK.noSuch("shelf 8", () -> x.element(8, 0));
        CHECK.noSuch("shelf -1", () -> x.element(-1, 0));
        CHECK.due("shelf 8", x.keep(8, 0, 0), -1);
        CHECK.due("shelf -1", x.keep(-1, 0, 0), -1);
        CHECK.due("what 2", x.keep(0, 2, 0), -1);
        CHECK.due("what 5", x.keep(0, 5, 0), -1);
        CHECK.due("what -1", x.keep(0, -1, 0), -1);
        CHECK.due("no such rule", x.keep(0, 1, 4), -1);
        CHECK.due("rule -1", x.keep(0, 1, -1), -1);
        CHECK.due("ends of no rule", x.keep(0, 3, 4), -1);
        CHECK.due("no such wish", x.keep(0, 4, 2), -1);
        CHECK.due("wish -1", x.keep(0, 4, -1), -1);
        CHECK.due("refused calls changed nothing", x.element(0, 2), 3);
        CHECK.due("nothing, whatever k is", x.keep(0, 0, 99), 0);
        CHECK.notNow("nothing is held now", () -> x.element(0, 0));
        CHECK.due("nothing to weigh", x.weight(0), -11);
    }

    private static void keepsFirstSixty() {
        HonestHouse x = new HonestHouse(2, 0);
        x.wish();
        x.wish();
        x.wish();
        x.rule(0);
        x.put(0, 59, 1);
        x.put(0, 60, 1);
        x.keep(0, 3, 0);
        CHECK.due("row 59", x.element(0, 59), 1);
        CHECK.notNow("no row 60", () -> x.element(0, 60));
    }

    private static void makes() {
        HonestHouse x = house();
        CHECK.due("shorts", x.make(0, 3, 60), 0);
        CHECK.due("the last one", x.element(0, 59), 0);
        CHECK.notNow("none behind it", () -> x.element(0, 60));
        CHECK.due("longs", x.make(1, 4, 1), 0);
        CHECK.due("one", x.element(1, 0), 0);
        CHECK.notNow("no second", () -> x.element(1, 1));
        CHECK.due("none", x.make(2, 3, 0), 0);
        CHECK.notNow("not one", () -> x.element(2, 0));
        CHECK.due("but a row", x.weight(2), -12);
        CHECK.due("61", x.make(1, 3, 61), -1);
        CHECK.due("what 2", x.make(1, 2, 1), -1);
        CHECK.due("what 5", x.make(1, 5, 1), -1);
        CHECK.due("what 1", x.make(1, 1, 1), -1);
        CHECK.due("shelf 8", x.make(8, 3, 1), -1);
        CHECK.due("shelf -1", x.make(-1, 3, 1), -1);
        CHECK.due("below 0", x.make(1, 3, -1), -14);
        CHECK.due("far below 0", x.make(1, 4, Integer.MIN_VALUE), -14);
        CHECK.due("below 0, of no kind", x.make(1, 2, -1), -1);
        CHECK.due("below 0, no shelf", x.make(8, 3, -1), -1);
        CHECK.due("a refused call changes nothing", x.copy(1, 0, 1, 0, 1), 1);
        x.keep(1, 4, 0);
        x.make(1, 4, 3);
        CHECK.due("all 0 again", x.element(1, 2), 0);
    }

    private static void copies() {
        HonestHouse x = house();
        x.keep(0, 4, 0);
        x.make(1, 4, 6);
        x.make(2, 3, 6);
        x.keep(3, 1, 0);
        CHECK.due("three", x.copy(0, 1, 1, 2, 3), 3);
        int[] want = {0, 0, 2, 3, 4, 0};
        for (int i = 0; i < 6; i++) {
            CHECK.due("place " + i, x.element(1, i), want[i]);
        }
        CHECK.due("none", x.copy(0, 4, 1, 6, 0), 0);
        CHECK.due("none, beyond the end", x.copy(0, 5, 1, 6, 0), -13);
        CHECK.due("none, beyond the other's end", x.copy(0, 4, 1, 7, 0), -13);
        CHECK.due("n -1", x.copy(0, 0, 1, 0, -1), -13);
        CHECK.due("i -1", x.copy(0, -1, 1, 0, 1), -13);
        CHECK.due("j -1", x.copy(0, 0, 1, -1, 1), -13);
        CHECK.due("beyond the end of d", x.copy(0, 2, 1, 0, 3), -13);
        CHECK.due("beyond the end of e", x.copy(0, 0, 1, 4, 3), -13);
        CHECK.due("great i", x.copy(0, Integer.MAX_VALUE, 1, 0, 1), -13);
        CHECK.due("great j", x.copy(0, 0, 1, Integer.MAX_VALUE, 1), -13);
        CHECK.due("great n", x.copy(0, 1, 1, 1, Integer.MAX_VALUE), -13);
        CHECK.due("shorts to longs", x.copy(2, 0, 1, 0, 1), -12);
        CHECK.due("longs to shorts, beyond the end", x.copy(1, 0, 2, 0, 99), -12);
        CHECK.due("a rule to longs", x.copy(3, 0, 1, 0, 1), -12);
        CHECK.due("longs to a rule", x.copy(1, 0, 3, 0, 1), -12);
        CHECK.due("a rule to itself", x.copy(3, 0, 3, 0, 0), -12);
        CHECK.due("nothing to a rule", x.copy(4, 0, 3, 0, 1), -11);
        CHECK.due("a rule to nothing", x.copy(3, 0, 4, 0, 1), -11);
        CHECK.due("no shelf to nothing", x.copy(8, 0, 4, 0, 1), -1);
        CHECK.due("nothing to no shelf", x.copy(4, 0, -1, 0, 1), -1);
        for (int i = 0; i < 6; i++) {
            CHECK.due("still, place " + i, x.element(1, i), want[i]);
        }
        x.keep(5, 3, 1);
        CHECK.due("shorts to shorts", x.copy(5, 0, 2, 0, 4), 4);
        CHECK.due("the end of row 0", x.element(2, 0), 3);
    }

    private static void copiesWithin() {
        HonestHouse x = house();
        x.keep(0, 4, 0);
        CHECK.due("forward over itself", x.copy(0, 0, 0, 1, 3), 3);
        int[] forward = {1, 1, 2, 3};
        for (int i = 0; i < 4; i++) {
            CHECK.due("forward " + i, x.element(0, i), forward[i]);
        }
        CHECK.due("back over itself", x.copy(0, 1, 0, 0, 3), 3);
        int[] back = {1, 2, 3, 3};
        for (int i = 0; i < 4; i++) {
            CHECK.due("back " + i, x.element(0, i), back[i]);
        }
    }

    private static void weights() {
        HonestHouse x = house();
        x.middle(0, 0, 3);
        for (int rule = 0; rule < 4; rule++) {
            x.keep(rule, 1, rule);
        }
        CHECK.due("middle 0", x.weight(0), 0 + 10 + 500 + 3);
        CHECK.due("weighed 1", x.weight(1), 2 * (1 + 10 + 100));
        CHECK.due("paid 2", x.weight(2), 2 + 10 + 100);
        CHECK.due("table 3", x.weight(3), 3 + 10);
        x.middle(0, 0, 1);
        CHECK.due("as it was then", x.weight(0), 513);
        x.keep(0, 1, 0);
        CHECK.due("as it is now", x.weight(0), 511);
        CHECK.due("nothing", x.weight(4), -11);
        x.make(4, 3, 1);
        CHECK.due("shorts", x.weight(4), -12);
        x.make(4, 4, 1);
        CHECK.due("longs", x.weight(4), -12);
        CHECK.due("shelf 8", x.weight(8), -1);
        CHECK.due("shelf -1", x.weight(-1), -1);
        HonestHouse y = new HonestHouse(2, 3);
        y.wish();
        y.rule(3);
        y.middle(0, 0, 4);
        y.middle(0, 1, 2);
        y.middle(0, 2, 3);
        y.keep(0, 1, 0);
        CHECK.due("three places", y.weight(0), 519);
    }

    private static void tosses() {
        HonestHouse x = house();
        for (int rule = 0; rule < 4; rule++) {
            x.keep(rule + 4, 1, rule);
        }
        CHECK.due("middle 0: its number", x.toss(4), 0);
        CHECK.due("weighed 1", x.toss(5), 1);
        CHECK.due("paid 2", x.toss(6), 2);
        CHECK.due("tables have none", x.toss(7), -15);
        CHECK.due("nothing", x.toss(0), -11);
        x.make(0, 4, 1);
        CHECK.due("longs", x.toss(0), -12);
        x.make(0, 3, 1);
        CHECK.due("shorts", x.toss(0), -12);
        CHECK.due("shelf 8", x.toss(8), -1);
        CHECK.due("shelf -1", x.toss(-1), -1);
        CHECK.due("again", x.toss(6), 2);
    }
}
