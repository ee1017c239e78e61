/** Promises 11 to 15: said, gain, lie, lies, heap. */
public final class LiesTest {
    private static final Check CHECK = new Check();

    public static void main(String[] args) {
        said();
        gains();
        firstLies();
        heaps();
        heapsWithOwnWords();
        heapsWithPayments();
        heapsBehindOthers();
        CHECK.end();
    }

    private static void said() {
        HonestHouse x = new HonestHouse(1, 0);
        CHECK.due("no wishes", x.said(0, 0, 0), -1);
        x.wish();
        x.wish();
        x.wish();
        // row 5 = 2 + 1 * 3 + 0 * 9
        CHECK.due("person 0", x.said(5, 0, 0), 3);
        CHECK.due("person 1", x.said(5, 1, 2), 8);
        CHECK.due("person 2", x.said(5, 2, 2), 23);
        CHECK.due("their own", x.said(5, 1, 1), 5);
        CHECK.due("no such row", x.said(27, 0, 0), -1);
        CHECK.due("row -1", x.said(-1, 0, 0), -1);
        CHECK.due("no such person", x.said(5, 3, 0), -1);
        CHECK.due("person -1", x.said(5, -1, 0), -1);
        CHECK.due("no such wish", x.said(5, 0, 3), -1);
        CHECK.due("wish -1", x.said(5, 0, -1), -1);
        CHECK.due("last row", x.said(26, 2, 2), 26);
    }

    /** 2 people, 2 ends; wish 0: 5 0, wish 1: 0 4; a rule of a kind. */
    private static HonestHouse house(int kind) {
        HonestHouse x = new HonestHouse(0, 0);
        x.wish();
        x.wish();
        x.worth(0, 0, 5);
        x.worth(1, 1, 4);
        x.rule(kind);
        return x;
    }

    private static void gains() {
        HonestHouse x = house(1);
        x.put(0, 0, 1);
        x.pay(0, 1, 0, 2);
        // row 0: person 0 has wish 0, gets end 1: 0; saying wish 1 makes row 1: end 0: 5, less 2
        CHECK.due("a gain", x.gain(0, 0, 0, 1), 3);
        CHECK.due("their own wish", x.gain(0, 0, 0, 0), 0);
        // row 1: person 0 has wish 1: end 0: 0 less 2; saying wish 0: end 1: 4
        CHECK.due("a gain with what is not paid", x.gain(0, 1, 0, 0), 6);
        CHECK.due("another person", x.gain(0, 0, 1, 1), 5);
        // row 2: person 0 has wish 0, end 0; row 3 gives end 0, too
        CHECK.due("no gain", x.gain(0, 2, 0, 1), 0);
        x.pay(0, 3, 0, 7);
        CHECK.due("a loss", x.gain(0, 2, 0, 1), -7);
        CHECK.noSuch("no such rule", () -> x.gain(1, 0, 0, 0));
        CHECK.noSuch("rule -1", () -> x.gain(-1, 0, 0, 0));
        CHECK.noSuch("no such row", () -> x.gain(0, 4, 0, 0));
        CHECK.noSuch("row -1", () -> x.gain(0, -1, 0, 0));
        CHECK.noSuch("no such person", () -> x.gain(0, 0, 2, 0));
        CHECK.noSuch("person -1", () -> x.gain(0, 0, -1, 0));
        CHECK.noSuch("no such wish", () -> x.gain(0, 0, 0, 2));
        CHECK.noSuch("wish -1", () -> x.gain(0, 0, 0, -1));
        HonestHouse w = house(2);
        // rows of a weighed rule that nothing has asked for yet
        CHECK.due("weighed: 5 at end 0, and 0 less 0 when lying", w.gain(0, 0, 0, 1), 0);
        CHECK.due("weighed: row 1 has end 0; saying 0 leaves it", w.gain(0, 1, 0, 0), 0);
    }

    private static void firstLies() {
        HonestHouse x = house(0);
        CHECK.due("a constant rule is honest", x.lie(0, 0), -2);
        CHECK.due("what 4 of an honest rule", x.lie(0, 4), -1);
        CHECK.due("no lies", x.lies(0), 0);
        x.put(0, 2, 1);
        // row 2: wishes 0, 1, end 1: person 0 gains 0; row 3: end 0: person 1 has wish 1 and can only make row 1
        // row 2: person 1 has wish 1, content. row 3: person 0 has wish 1: saying 0 makes row 2, end 1: 4
        // row 2: person 0 has wish 0: saying 1 makes row 3, end 0: 5
        CHECK.due("the row", x.lie(0, 0), 2);
        CHECK.due("the person", x.lie(0, 1), 0);
        CHECK.due("the wish", x.lie(0, 2), 1);
        CHECK.due("the gain", x.lie(0, 3), 5);
        CHECK.due("what -1", x.lie(0, -1), -1);
        CHECK.due("what 4", x.lie(0, 4), -1);
        CHECK.due("no such rule", x.lie(1, 0), -1);
        CHECK.due("rule -1", x.lie(-1, 0), -1);
        CHECK.due("lies", x.lies(0), 2);
        CHECK.due("lies of no rule", x.lies(1), -1);
        CHECK.due("lies of rule -1", x.lies(-1), -1);
        x.put(0, 0, 1);
        // row 0: both have wish 0, end 1: person 0 by row 1 (end 0): 5; person 1 by row 2 (end 1): 0
        CHECK.due("an earlier row", x.lie(0, 0), 0);
        // row 0 person 0; row 1 (1, 0), end 0: person 0 by row 0: 4; row 2 person 0; row 3 person 0
        CHECK.due("more lies", x.lies(0), 4);
    }

    private static void heaps() {
        HonestHouse x = house(0);
        x.put(0, 0, 1);
        x.put(0, 1, 1);
        x.put(0, 2, 1);
        // end 0 comes at row 3 alone: at row 0 both want it, and both must lie
        CHECK.due("person 0 alone", x.heap(0, 1, false), 2);
        CHECK.due("together", x.heap(0, 3, false), 0);
        CHECK.due("together, told", x.heap(0, 3, true), 3);
        CHECK.due("person 1 alone", x.heap(0, 2, false), 1);
        CHECK.due("person 1 alone, told", x.heap(0, 2, true), 3);
        CHECK.due("the empty heap", x.heap(0, 0, false), -1);
        CHECK.due("no such people", x.heap(0, 4, false), -1);
        CHECK.due("people -1", x.heap(0, -1, true), -1);
        CHECK.due("no such rule", x.heap(1, 1, false), -1);
        CHECK.due("rule -1", x.heap(-1, 1, false), -1);
        HonestHouse y = house(0);
        CHECK.due("none lies", y.heap(0, 3, false), -2);
        CHECK.due("none lies, told", y.heap(0, 3, true), -2);
        CHECK.due("the empty heap of a rule with no lies", y.heap(0, 0, true), -1);
    }

    /** 3 people, 2 wishes: one of the heap must lie, the other may say what is true. */
    private static void heapsWithOwnWords() {
        HonestHouse x = new HonestHouse(1, 0);
        x.wish();
        x.wish();
        x.worth(0, 0, 5);
        x.worth(1, 1, 4);
        x.rule(0);
        for (int row = 0; row < 8; row++) {
            x.put(0, row, 1);
        }
        x.put(0, 4, 0);
        x.put(0, 5, 0);
        // at row 0 all wish end 0; persons 0 and 2 get it by rows 4 and 5: of these the least
        CHECK.due("the row", x.heap(0, 5, false), 0);
        CHECK.due("own words, too: the least row said", x.heap(0, 5, true), 4);
        // persons 1 and 2 at row 0: row 4; at row 1 (person 0 says 1): row 5
        CHECK.due("others' words stay", x.heap(0, 6, true), 4);
        x.put(0, 4, 1);
        CHECK.due("row 0 can't be helped by persons 1 and 2", x.heap(0, 6, false), 1);
        CHECK.due("what they say there", x.heap(0, 6, true), 5);
        CHECK.due("all three", x.heap(0, 7, false), 0);
        CHECK.due("all three, told", x.heap(0, 7, true), 5);
    }

    private static void heapsWithPayments() {
        HonestHouse x = house(1);
        x.pay(0, 0, 0, 3);
        x.pay(0, 0, 1, 3);
        x.pay(0, 1, 0, 1);
        x.pay(0, 1, 1, 4);
        x.pay(0, 2, 0, 4);
        x.pay(0, 2, 1, 1);
        // end 0 everywhere; from row 0 each alone could come to pay 1, but both pay less at row 3 alone
        x.pay(0, 3, 0, 2);
        x.pay(0, 3, 1, 2);
        CHECK.due("both pay less", x.heap(0, 3, false), 0);
        CHECK.due("told", x.heap(0, 3, true), 3);
        x.pay(0, 3, 1, 3);
        CHECK.due("there is no row at which both pay more than at another", x.heap(0, 3, false), -2);
        HonestHouse y = house(1);
        y.put(0, 3, 1);
        y.pay(0, 3, 0, -6);
        y.pay(0, 3, 1, -7);
        CHECK.due("what they are paid makes up for the worse end", y.heap(0, 3, false), 0);
        CHECK.due("told", y.heap(0, 3, true), 3);
        y.pay(0, 3, 0, -5);
        // then the first is row 1, in which person 0 has wish 1
        CHECK.due("it must be more than the end is worse by", y.heap(0, 3, false), 1);
        HonestHouse z = house(2);
        // row 1: wishes 1, 0; end 0, for which person 1 pays 4; both saying 0 pay nothing, but end 0 it was for 0
        CHECK.due("one of two can't gain at the end it doesn't want", z.heap(0, 3, false), -2);
        CHECK.due("person 1 pays 4", z.pays(0, 1, 1), 4);
    }

    /** The first row is found behind rows of others' other words, and row 0 is what is said. */
    private static void heapsBehindOthers() {
        HonestHouse x = new HonestHouse(0, 0);
        x.wish();
        x.wish();
        x.worth(0, 0, 5);
        x.worth(1, 0, 9);
        x.worth(1, 1, 4);
        x.rule(0);
        x.put(0, 2, 1);
        CHECK.due("person 1 at row 2", x.heap(0, 2, false), 2);
        CHECK.due("saying row 0", x.heap(0, 2, true), 0);
        CHECK.due("person 0 at row 2", x.heap(0, 1, false), 2);
        CHECK.due("saying row 3", x.heap(0, 1, true), 3);
        CHECK.due("both at row 2", x.heap(0, 3, false), 2);
        CHECK.due("saying row 0, the least", x.heap(0, 3, true), 0);
        x.put(0, 2, 0);
        x.put(0, 1, 1);
        CHECK.due("person 1 at row 1", x.heap(0, 2, false), 1);
        CHECK.due("saying row 3", x.heap(0, 2, true), 3);
    }
}
