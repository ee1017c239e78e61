/** Edges of promises 1 to 10 and 35: a new object, wish, worth, rule, put, pay, gift, middle, end, pays, count. */
public final class EdgesRulesTest {
    private static final Check CHECK = new Check();
    private static final Refused EMPTY = new Refused(CHECK, Stories::empty);
    private static final Refused WISHING = new Refused(CHECK, Stories::wishing);
    private static final Refused SETTLED = new Refused(CHECK, Stories::settled);
    private static final Refused CROWDED = new Refused(CHECK, Stories::crowded);
    private static final Refused SIX_WISHES = new Refused(CHECK, () -> Stories.plain(3, 2, 6));

    public static void main(String[] args) {
        peopleModuloThree();
        endsModuloFour();
        ordersAtFirst();
        wishFull();
        wishBehindRules();
        wishNumbers();
        worthRanges();
        worthSame();
        worthBehindRules();
        ruleKinds();
        ruleOfEmptyList();
        ruleFull();
        putRanges();
        putOtherKind();
        putBefore();
        payRanges();
        payOtherKind();
        paySame();
        giftRanges();
        giftNeitherOrBoth();
        giftOtherKind();
        giftSame();
        middleRanges();
        middleOtherKind();
        endRanges();
        paysRanges();
        askedFirst();
        countRanges();
        CHECK.end();
    }

    /** Promise 1: "PEOPLE 2 + (people modulo 3, from 0)". */
    private static void peopleModuloThree() {
        int[][] due = {{-4, 4}, {-3, 2}, {-2, 3}, {-1, 4}, {0, 2}, {1, 3}, {2, 4}, {3, 2}, {4, 3},
            {Integer.MAX_VALUE, 3}, {Integer.MAX_VALUE - 1, 2}, {Integer.MIN_VALUE, 3}, {Integer.MIN_VALUE + 1, 4}};
        for (int[] c : due) {
            HonestHouse x = new HonestHouse(c[0], 0);
            CHECK.due("people of " + c[0], x.count(0), c[1]);
            CHECK.due("the last of them", x.leaves(c[1] - 1), c[1]);
            CHECK.due("no more", x.leaves(c[1]), -1);
        }
    }

    /** Promise 1: "ENDS 2 + (ends modulo 4, from 0)". */
    private static void endsModuloFour() {
        int[][] due = {{-5, 5}, {-4, 2}, {-3, 3}, {-2, 4}, {-1, 5}, {0, 2}, {1, 3}, {2, 4}, {3, 5}, {4, 2}, {5, 3},
            {Integer.MAX_VALUE, 5}, {Integer.MAX_VALUE - 1, 4}, {Integer.MIN_VALUE, 2}, {Integer.MIN_VALUE + 1, 3}};
        for (int[] c : due) {
            HonestHouse x = new HonestHouse(0, c[0]);
            CHECK.due("ends of " + c[0], x.count(1), c[1]);
            x.wish();
            CHECK.due("the last of them", x.worth(0, c[1] - 1, 1), 1);
            CHECK.due("no more", x.worth(0, c[1], 1), -1);
        }
    }

    /** Promise 1: "THE LIST is empty; each person's ORDER is 0, 1, ..": who comes first by turns gets thing 0. */
    private static void ordersAtFirst() {
        int[][] turns = {{1, 1}, {10, 10}};
        HonestHouse two = new HonestHouse(0, 0);
        for (int[] c : turns) {
            CHECK.due("two", two.turns(c[0]), c[1]);
        }
        HonestHouse three = new HonestHouse(1, 0);
        int[][] ofThree = {{12, 12}, {21, 21}, {102, 102}, {120, 201}, {201, 120}, {210, 210}};
        for (int[] c : ofThree) {
            CHECK.due("three", three.turns(c[0]), c[1]);
        }
        HonestHouse four = new HonestHouse(2, 0);
        int[][] ofFour = {{123, 123}, {1230, 3012}, {3012, 1230}, {3210, 3210}};
        for (int[] c : ofFour) {
            CHECK.due("four", four.turns(c[0]), c[1]);
        }
        CHECK.due("THE LIST is empty", four.count(2), 0);
    }

    /** Promise 2: "-2: there are 6"; where there are RULES, too, it is the first refusal. */
    private static void wishFull() {
        HonestHouse x = Stories.plain(3, 2, 5);
        CHECK.due("the sixth", x.wish(), 5);
        SIX_WISHES.due(-2, "a seventh", y -> y.wish());
        Refused ruled = new Refused(CHECK, () -> {
            HonestHouse y = Stories.plain(2, 2, 6);
            y.rule(0);
            return y;
        });
        ruled.due(-2, "there are 6, and rules", y -> y.wish());
    }

    /** Promise 2: "-3: there are RULES". */
    private static void wishBehindRules() {
        SETTLED.due(-3, "with rules", x -> x.wish());
        CROWDED.due(-3, "with all rules", x -> x.wish());
        Refused five = new Refused(CHECK, () -> {
            HonestHouse y = Stories.plain(2, 2, 5);
            y.rule(3);
            return y;
        });
        five.due(-3, "the sixth, with a rule", y -> y.wish());
    }

    /** Promise 2: "A WISH comes, all its numbers 0", and those before keep theirs. */
    private static void wishNumbers() {
        HonestHouse x = Stories.plain(2, 5, 0);
        for (int wish = 0; wish < 6; wish++) {
            CHECK.due("its number", x.wish(), wish);
            for (int end = 0; end < 5; end++) {
                CHECK.due("0 at first", x.worth(wish, end, 0), 0);
                x.worth(wish, end, 99 - wish);
            }
        }
        for (int wish = 0; wish < 6; wish++) {
            for (int end = 0; end < 5; end++) {
                CHECK.due("as told", x.worth(wish, end, 99 - wish), 0);
            }
        }
    }

    /** Promise 3: "-1", for a wish, an end and a number out of range. */
    private static void worthRanges() {
        WISHING.outside("worth's wish", 0, 1, (x, v) -> x.worth(v, 0, 9));
        WISHING.outside("worth's end", 0, 2, (x, v) -> x.worth(0, v, 9));
        WISHING.outside("worth's number", -99, 99, (x, v) -> x.worth(1, 2, v));
        EMPTY.due(-1, "THE LIST is empty", x -> x.worth(0, 0, 1));
    }

    /** Promise 3: "1 if it is another than before, else 0". */
    private static void worthSame() {
        HonestHouse x = Stories.wishing();
        int[][] due = {{4, 0}, {-4, 1}, {-4, 0}, {99, 1}, {99, 0}, {-99, 1}, {-99, 0}, {0, 1}, {0, 0}, {1, 1}};
        for (int[] c : due) {
            CHECK.due("worth " + c[0], x.worth(1, 2, c[0]), c[1]);
        }
    }

    /** Promise 3: "-3: there are RULES"; -1 goes before it. */
    private static void worthBehindRules() {
        SETTLED.due(-3, "another number", x -> x.worth(0, 0, 6));
        SETTLED.due(-3, "the same number", x -> x.worth(0, 0, 5));
        SETTLED.due(-1, "rules, and no such wish", x -> x.worth(2, 0, 6));
        SETTLED.due(-1, "rules, and wish -1", x -> x.worth(-1, 0, 6));
        SETTLED.due(-1, "rules, and no such end", x -> x.worth(0, 3, 6));
        SETTLED.due(-1, "rules, and end -1", x -> x.worth(0, -1, 6));
        SETTLED.due(-1, "rules, and 100", x -> x.worth(0, 0, 100));
        SETTLED.due(-1, "rules, and -100", x -> x.worth(0, 0, -100));
        CROWDED.due(-3, "all rules", x -> x.worth(1, 2, -99));
        for (int kind = 0; kind < 4; kind++) {
            int first = kind;
            Refused one = new Refused(CHECK, () -> {
                HonestHouse y = Stories.wishing();
                y.rule(first);
                return y;
            });
            one.due(-3, "just one rule", y -> y.worth(0, 0, 6));
            one.due(-3, "just one rule, and a wish", y -> y.wish());
        }
    }

    /** Promise 4: "A RULE of a KIND 0 .. 3: its number. -1". */
    private static void ruleKinds() {
        WISHING.outside("kind", 0, 3, (x, v) -> x.rule(v));
        SETTLED.outside("kind of one more", 0, 3, (x, v) -> x.rule(v));
        for (int kind = 0; kind < 4; kind++) {
            HonestHouse x = Stories.wishing();
            CHECK.due("the first", x.rule(kind), 0);
            CHECK.due("put is for tables and paid rules", x.put(0, 0, 0), kind < 2 ? 0 : -4);
            CHECK.due("pay is for paid rules", x.pay(0, 0, 0, 1), kind == 1 ? 1 : -4);
            CHECK.due("gift is for weighed rules", x.gift(0, 0, -1, 1), kind == 2 ? 1 : -4);
            CHECK.due("middle is for middle rules", x.middle(0, 0, 0), kind == 3 ? 0 : -4);
        }
    }

    /** Promise 4: "-1 (THE LIST is empty, too)". */
    private static void ruleOfEmptyList() {
        for (int kind : new int[] {-1, 0, 1, 2, 3, 4}) {
            EMPTY.due(-1, "THE LIST is empty, kind " + kind, x -> x.rule(kind));
        }
        HonestHouse x = Stories.empty();
        x.rule(0);
        x.wish();
        CHECK.due("with one wish", x.rule(0), 0);
    }

    /** Promise 4: "-2: there are 8"; -1 goes before it. */
    private static void ruleFull() {
        for (int kind = 0; kind < 4; kind++) {
            int ninth = kind;
            CROWDED.due(-2, "a ninth of kind " + kind, x -> x.rule(ninth));
        }
        CROWDED.due(-1, "a ninth of kind 4", x -> x.rule(4));
        CROWDED.due(-1, "a ninth of kind -1", x -> x.rule(-1));
        HonestHouse x = Stories.settled();
        for (int rule = 4; rule < 8; rule++) {
            CHECK.due("its number", x.rule(3), rule);
        }
        CHECK.due("a ninth", x.rule(3), -2);
    }

    /** Promise 5: "-1", for a rule, a row and an end out of range. */
    private static void putRanges() {
        SETTLED.outside("put's rule", 0, 3, (x, v) -> x.put(v, 0, 0));
        SETTLED.outside("put's row", 0, 7, (x, v) -> x.put(0, v, 0));
        SETTLED.outside("put's end", 0, 2, (x, v) -> x.put(0, 0, v));
        SETTLED.outside("put's row of a paid rule", 0, 7, (x, v) -> x.put(1, v, 0));
        SETTLED.outside("put's end of a paid rule", 0, 2, (x, v) -> x.put(1, 0, v));
        CROWDED.outside("put's rule of 8", 0, 7, (x, v) -> x.put(v, 0, 0));
    }

    /** Promise 5: "-4: it is of another KIND"; -1 goes before it. */
    private static void putOtherKind() {
        for (int rule : new int[] {2, 3}) {
            SETTLED.due(-4, "put in rule " + rule, x -> x.put(rule, 0, 0));
            SETTLED.due(-4, "put at the last row of rule " + rule, x -> x.put(rule, 7, 2));
            SETTLED.due(-1, "no such row of rule " + rule, x -> x.put(rule, 8, 0));
            SETTLED.due(-1, "row -1 of rule " + rule, x -> x.put(rule, -1, 0));
            SETTLED.due(-1, "no such end of rule " + rule, x -> x.put(rule, 0, 3));
            SETTLED.due(-1, "end -1 of rule " + rule, x -> x.put(rule, 0, -1));
        }
    }

    /** Promise 5: "The END of a ROW ..: the one before", also where it is the same. */
    private static void putBefore() {
        HonestHouse x = Stories.plain(4, 5, 6);
        x.rule(0);
        x.rule(1);
        for (int rule = 0; rule < 2; rule++) {
            for (int row : new int[] {0, 1295}) {
                CHECK.due("0 at first", x.put(rule, row, 4), 0);
                CHECK.due("the same", x.put(rule, row, 4), 4);
                CHECK.due("back", x.put(rule, row, 0), 4);
                CHECK.due("0 again", x.put(rule, row, rule + 1), 0);
            }
            CHECK.due("row 1 is as it was", x.end(rule, 1), 0);
            CHECK.due("row 1294 is as it was", x.end(rule, 1294), 0);
        }
        CHECK.due("each rule has its own: row 0 of rule 0", x.end(0, 0), 1);
        CHECK.due("each rule has its own: row 1295 of rule 1", x.end(1, 1295), 2);
    }

    /** Promise 6: "-1", for a rule, a row, a person and a payment out of range. */
    private static void payRanges() {
        SETTLED.outside("pay's rule", 0, 3, (x, v) -> x.pay(v, 0, 0, 1));
        SETTLED.outside("pay's row", 0, 7, (x, v) -> x.pay(1, v, 0, 1));
        SETTLED.outside("pay's person", 0, 2, (x, v) -> x.pay(1, 0, v, 1));
        SETTLED.outside("what is paid", -9999, 9999, (x, v) -> x.pay(1, 0, 0, v));
    }

    /** Promise 6: "-4"; -1 goes before it. */
    private static void payOtherKind() {
        for (int rule : new int[] {0, 2, 3}) {
            SETTLED.due(-4, "pay in rule " + rule, x -> x.pay(rule, 0, 0, 1));
            SETTLED.due(-4, "pay nothing in rule " + rule, x -> x.pay(rule, 7, 2, 0));
            SETTLED.due(-1, "no such row of rule " + rule, x -> x.pay(rule, 8, 0, 1));
            SETTLED.due(-1, "row -1 of rule " + rule, x -> x.pay(rule, -1, 0, 1));
            SETTLED.due(-1, "no such person of rule " + rule, x -> x.pay(rule, 0, 3, 1));
            SETTLED.due(-1, "person -1 of rule " + rule, x -> x.pay(rule, 0, -1, 1));
            SETTLED.due(-1, "too much in rule " + rule, x -> x.pay(rule, 0, 0, 10000));
            SETTLED.due(-1, "too little in rule " + rule, x -> x.pay(rule, 0, 0, -10000));
        }
    }

    /** Promise 6: "1 if it is another than before, else 0". */
    private static void paySame() {
        HonestHouse x = Stories.settled();
        int[][] due = {{12, 0}, {-12, 1}, {-12, 0}, {9999, 1}, {9999, 0}, {-9999, 1}, {-9999, 0}, {0, 1}, {0, 0}};
        for (int[] c : due) {
            CHECK.due("pay " + c[0], x.pay(1, 7, 0, c[0]), c[1]);
            CHECK.due("pays " + c[0], x.pays(1, 7, 0), c[0]);
        }
        HonestHouse y = Stories.plain(4, 2, 6);
        y.rule(1);
        CHECK.due("the last row, the last person", y.pay(0, 1295, 3, 9999), 1);
        CHECK.due("they pay it", y.pays(0, 1295, 3), 9999);
        CHECK.due("the person before doesn't", y.pays(0, 1295, 2), 0);
        CHECK.due("nor at the row before", y.pays(0, 1294, 3), 0);
    }

    /** Promise 7: "-1", for a rule, an end, a person, a gift and a weight out of range. */
    private static void giftRanges() {
        SETTLED.outside("gift's rule", 0, 3, (x, v) -> x.gift(v, 0, -1, 1));
        SETTLED.outside("weight's rule", 0, 3, (x, v) -> x.gift(v, -1, 0, 2));
        SETTLED.outside("gift's end", 0, 2, (x, v) -> x.gift(2, v, -1, 1));
        SETTLED.outside("weight's person", 0, 2, (x, v) -> x.gift(2, -1, v, 2));
        SETTLED.outside("gift", -99, 99, (x, v) -> x.gift(2, 0, -1, v));
        SETTLED.outside("weight", 0, 9, (x, v) -> x.gift(2, -1, 0, v));
    }

    /** Promise 7: "The gift of an END (who -1), or the weight of a person (end -1)": one of the two is meant. */
    private static void giftNeitherOrBoth() {
        for (int rule = 0; rule < 4; rule++) {
            int of = rule;
            SETTLED.due(-1, "neither, in rule " + rule, x -> x.gift(of, -1, -1, 1));
            SETTLED.due(-1, "both, in rule " + rule, x -> x.gift(of, 0, 0, 1));
            SETTLED.due(-1, "both at their last, in rule " + rule, x -> x.gift(of, 2, 2, 1));
            SETTLED.due(-1, "end -2, in rule " + rule, x -> x.gift(of, -2, 0, 1));
            SETTLED.due(-1, "who -2, in rule " + rule, x -> x.gift(of, 0, -2, 1));
        }
    }

    /** Promise 7: "-4"; -1 goes before it. */
    private static void giftOtherKind() {
        for (int rule : new int[] {0, 1, 3}) {
            SETTLED.due(-4, "gift in rule " + rule, x -> x.gift(rule, 0, -1, 1));
            SETTLED.due(-4, "gift 0 in rule " + rule, x -> x.gift(rule, 2, -1, 0));
            SETTLED.due(-4, "weight in rule " + rule, x -> x.gift(rule, -1, 0, 2));
            SETTLED.due(-4, "weight 1 in rule " + rule, x -> x.gift(rule, -1, 2, 1));
            SETTLED.due(-1, "no such end in rule " + rule, x -> x.gift(rule, 3, -1, 1));
            SETTLED.due(-1, "no such person in rule " + rule, x -> x.gift(rule, -1, 3, 1));
            SETTLED.due(-1, "gift 100 in rule " + rule, x -> x.gift(rule, 0, -1, 100));
            SETTLED.due(-1, "gift -100 in rule " + rule, x -> x.gift(rule, 0, -1, -100));
            SETTLED.due(-1, "weight 10 in rule " + rule, x -> x.gift(rule, -1, 0, 10));
            SETTLED.due(-1, "weight -1 in rule " + rule, x -> x.gift(rule, -1, 0, -1));
        }
    }

    /** Promise 7: "1 if it is another than before, else 0". */
    private static void giftSame() {
        HonestHouse x = Stories.settled();
        int[][] gifts = {{7, 0}, {-7, 1}, {-7, 0}, {99, 1}, {99, 0}, {-99, 1}, {-99, 0}, {0, 1}, {0, 0}};
        for (int[] c : gifts) {
            CHECK.due("gift " + c[0], x.gift(2, 1, -1, c[0]), c[1]);
        }
        int[][] weights = {{2, 0}, {9, 1}, {9, 0}, {0, 1}, {0, 0}, {1, 1}, {1, 0}};
        for (int[] c : weights) {
            CHECK.due("weight " + c[0], x.gift(2, -1, 1, c[0]), c[1]);
        }
        CHECK.due("another end's gift is its own", x.gift(2, 0, -1, 0), 0);
        CHECK.due("another person's weight is their own", x.gift(2, -1, 2, 1), 0);
    }

    /** Promise 8: "Further place i (0 .. n - 2) of a MIDDLE RULE: the END before. -1". */
    private static void middleRanges() {
        SETTLED.outside("middle's rule", 0, 3, (x, v) -> x.middle(v, 0, 0));
        SETTLED.outside("middle's place", 0, 1, (x, v) -> x.middle(3, v, 0));
        SETTLED.outside("middle's end", 0, 2, (x, v) -> x.middle(3, 0, v));
        HonestHouse x = Stories.settled();
        CHECK.due("place 0", x.middle(3, 0, 0), 2);
        CHECK.due("place 1", x.middle(3, 1, 2), 1);
        CHECK.due("place 0 again", x.middle(3, 0, 0), 0);
        CHECK.due("place 1 again", x.middle(3, 1, 2), 2);
        for (int n = 2; n <= 4; n++) {
            int places = n - 1;
            Refused refused = new Refused(CHECK, () -> {
                HonestHouse y = Stories.plain(places + 1, 2, 1);
                y.rule(3);
                return y;
            });
            refused.outside("place of " + n + " people", 0, n - 2, (y, v) -> y.middle(0, v, 1));
        }
    }

    /** Promise 8: "-4"; -1 goes before it. */
    private static void middleOtherKind() {
        for (int rule : new int[] {0, 1, 2}) {
            SETTLED.due(-4, "middle in rule " + rule, x -> x.middle(rule, 0, 0));
            SETTLED.due(-4, "the last place in rule " + rule, x -> x.middle(rule, 1, 2));
            SETTLED.due(-1, "no such place in rule " + rule, x -> x.middle(rule, 2, 0));
            SETTLED.due(-1, "place -1 in rule " + rule, x -> x.middle(rule, -1, 0));
            SETTLED.due(-1, "no such end in rule " + rule, x -> x.middle(rule, 0, 3));
            SETTLED.due(-1, "end -1 in rule " + rule, x -> x.middle(rule, 0, -1));
        }
    }

    /** Promise 9: "-1", for a rule and a row out of range. */
    private static void endRanges() {
        SETTLED.outside("end's rule", 0, 3, (x, v) -> x.end(v, 0));
        CROWDED.outside("end's rule of 8", 0, 7, (x, v) -> x.end(v, 7));
        for (int rule = 0; rule < 4; rule++) {
            int of = rule;
            SETTLED.outside("row of rule " + rule, 0, 7, (x, v) -> x.end(of, v));
        }
    }

    /** Promise 10: "IllegalArgumentException: no such RULE, ROW, person." */
    private static void paysRanges() {
        SETTLED.thrownOutside("pays' rule", 0, 3, (x, v) -> x.pays(v, 0, 0));
        for (int rule = 0; rule < 4; rule++) {
            int of = rule;
            SETTLED.thrownOutside("row of rule " + rule, 0, 7, (x, v) -> x.pays(of, v, 0));
            SETTLED.thrownOutside("person of rule " + rule, 0, 2, (x, v) -> x.pays(of, 0, v));
        }
        SETTLED.noSuch("no such rule, row and person", x -> x.pays(4, 8, 3));
    }

    /** Nothing need have been asked before: a row that is worked out has its end, its payment and its gains at once. */
    private static void askedFirst() {
        for (int row = 0; row < 8; row++) {
            for (int rule = 2; rule < 4; rule++) {
                HonestHouse asked = Stories.settled();
                int end = asked.end(rule, row);
                CHECK.due("end again", asked.end(rule, row), end);
                for (int person = 0; person < 3; person++) {
                    int payment = asked.pays(rule, row, person);
                    CHECK.due("pays first", Stories.settled().pays(rule, row, person), payment);
                    int gain = asked.gain(rule, row, person, 1 - (row >> person & 1));
                    CHECK.due("gain first", Stories.settled().gain(rule, row, person, 1 - (row >> person & 1)), gain);
                    CHECK.due("span first", Stories.settled().span(rule, row, person, end, end), 0);
                }
                HonestHouse kept = Stories.settled();
                kept.keep(0, 3, rule);
                CHECK.due("kept first", kept.element(0, row), end);
            }
        }
        // row 1 of weighed rule 2: 15 to 11, without person 1 twice 5: 5 to 11; without person 2: 10 to 11
        CHECK.due("person 1 pays 6 by 2", Stories.settled().pays(2, 1, 1), 3);
        CHECK.due("person 2 pays 1", Stories.settled().pays(2, 1, 2), 1);
        CHECK.due("person 0 pays nothing", Stories.settled().pays(2, 1, 0), 0);
    }

    /** Promise 35: "0 PEOPLE, 1 ENDS, .. 6 of THE CORE; -1 for others"; "4 ROWS (0 without WISHES)". */
    private static void countRanges() {
        EMPTY.outside("count", 0, 6, (x, v) -> x.count(v));
        CROWDED.outside("count of a full house", 0, 6, (x, v) -> x.count(v));
        int[] atFirst = {3, 3, 0, 0, 0, 6, 1};
        int[] full = {3, 3, 2, 8, 8, 3, 1};
        for (int what = 0; what <= 6; what++) {
            CHECK.due("at first, count " + what, Stories.empty().count(what), atFirst[what]);
            CHECK.due("in a full house, count " + what, Stories.crowded().count(what), full[what]);
        }
    }
}
