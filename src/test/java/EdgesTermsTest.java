/**
 * Edges of 'What it is' and 'Terms': how many there are of each thing at least and at most, the least and the
 * greatest of each number, what there is at first, what is empty and what is full.
 */
public final class EdgesTermsTest {
    private static final Check CHECK = new Check();

    public static void main(String[] args) {
        calls();
        refusedCalls();
        people();
        ends();
        wishes();
        numbers();
        rows();
        numbersOfRows();
        behindTheFirstRule();
        rules();
        tablesAtFirst();
        paidAtFirst();
        payments();
        weighedAtFirst();
        weighedTies();
        gifts();
        weights();
        ownSums();
        middlesAtFirst();
        tops();
        middles();
        shelves();
        newHouse();
        houseWithoutRules();
        oneWish();
        CHECK.end();
    }

    /** "An object is used for at most 512 calls": the last of them is answered as the first. */
    private static void calls() {
        HonestHouse x = Stories.plain(2, 2, 2);
        x.rule(1);
        for (int call = 4; call <= 512; call++) {
            CHECK.due("call " + call, x.pay(0, call % 4, call % 2, call), 1);
        }
        HonestHouse y = Stories.plain(2, 2, 2);
        y.rule(1);
        for (int call = 4; call < 512; call++) {
            y.pay(0, call % 4, call % 2, call);
        }
        CHECK.due("what call 508 brought, as call 512", y.pays(0, 0, 0), 508);
    }

    /** "A refused call changes nothing", however many come. */
    private static void refusedCalls() {
        HonestHouse x = Stories.plain(2, 2, 2);
        x.rule(0);
        for (int call = 4; call < 512; call++) {
            CHECK.due("call " + call, x.put(0, 3, 2), -1);
        }
        CHECK.due("call 512", x.put(0, 3, 1), 0);
    }

    /** "PEOPLE are 0 .. n - 1 (n 2 .. 4)". */
    private static void people() {
        int[] last = {10, 210, 3210};
        for (int n = 2; n <= 4; n++) {
            HonestHouse x = Stories.plain(n, 2, 1);
            x.rule(1);
            CHECK.due("people", x.count(0), n);
            CHECK.due("the last of " + n, x.pay(0, 0, n - 1, 1), 1);
            CHECK.due("one more than " + n, x.pay(0, 0, n, 1), -1);
            CHECK.due("the first of " + n, x.pay(0, 0, 0, 1), 1);
            CHECK.due("one before the first of " + n, x.pay(0, 0, -1, 1), -1);
            CHECK.due("all others pay nothing", x.budget(0, true), 2);
            CHECK.due("the last has an order", x.likes(n - 1, last[n - 2]), 0);
            CHECK.due("one more has none", x.likes(n, last[n - 2]), -1);
            CHECK.due("the last leaves", x.leaves(n - 1), 1);
            CHECK.due("one more doesn't", x.leaves(n), -1);
        }
    }

    /** "ENDS 0 .. m - 1 (m 2 .. 5)". */
    private static void ends() {
        for (int m : new int[] {2, 3, 4, 5}) {
            HonestHouse x = Stories.plain(2, m, 1);
            CHECK.due("ends", x.count(1), m);
            CHECK.due("a number for the last of " + m, x.worth(0, m - 1, 1), 1);
            CHECK.due("none for one more", x.worth(0, m, 1), -1);
            x.rule(0);
            x.rule(2);
            CHECK.due("the last of " + m + " can be put", x.put(0, 0, m - 1), 0);
            CHECK.due("one more can't", x.put(0, 0, m), -1);
            CHECK.due("the last stands", x.end(0, 0), m - 1);
            CHECK.due("the last is the best one", x.end(1, 0), m - 1);
            x.keep(0, 4, 0);
            CHECK.due("the last number", x.element(0, m - 1), 1);
            CHECK.notNow("no number more", () -> x.element(0, m));
        }
    }

    /** "WISHES 0 .. w - 1 (w 1 .. 6, as they come)"; "Each person may have, and may say, any WISH of THE LIST." */
    private static void wishes() {
        for (int n = 2; n <= 4; n++) {
            HonestHouse x = Stories.plain(n, 2, 0);
            for (int wish = 0; wish < 6; wish++) {
                CHECK.due("not yet a wish", x.worth(wish, 0, 1), -1);
                CHECK.due("not yet said", x.said(0, 0, wish), -1);
                CHECK.due("as they come", x.wish(), wish);
                CHECK.due("a wish", x.worth(wish, 0, 1), 1);
                CHECK.due("wishes", x.count(2), wish + 1);
                for (int person = 0; person < n; person++) {
                    CHECK.holds("anyone may say it", x.said(0, person, wish) >= 0);
                }
            }
            CHECK.due("a seventh", x.wish(), -2);
            CHECK.due("no seventh", x.said(0, n - 1, 6), -1);
            CHECK.due("a number of no seventh", x.worth(6, 0, 1), -1);
            CHECK.due("six wishes", x.count(2), 6);
        }
    }

    /** "of each END a number (-99 .. 99)". */
    private static void numbers() {
        HonestHouse x = Stories.plain(2, 5, 6);
        for (int wish = 0; wish < 6; wish++) {
            for (int end = 0; end < 5; end++) {
                CHECK.due("least", x.worth(wish, end, -99), 1);
                CHECK.due("too small", x.worth(wish, end, -100), -1);
                CHECK.due("the least stays", x.worth(wish, end, -99), 0);
                CHECK.due("greatest", x.worth(wish, end, 99), 1);
                CHECK.due("too great", x.worth(wish, end, 100), -1);
                CHECK.due("the greatest stays", x.worth(wish, end, 99), 0);
                x.worth(wish, end, wish * 10 + end - 50);
            }
        }
        for (int wish = 0; wish < 6; wish++) {
            x.keep(0, 4, wish);
            for (int end = 0; end < 5; end++) {
                CHECK.due("each has its own", x.element(0, end), wish * 10 + end - 50);
            }
        }
    }

    /** "So there are w^n ROWS, at most 1296." */
    private static void rows() {
        int[][] due = {{1, 4, 9, 16, 25, 36}, {1, 8, 27, 64, 125, 216}, {1, 16, 81, 256, 625, 1296}};
        for (int n = 2; n <= 4; n++) {
            HonestHouse growing = Stories.plain(n, 2, 0);
            CHECK.due("no rows without wishes", growing.count(4), 0);
            for (int w = 1; w <= 6; w++) {
                int rows = due[n - 2][w - 1];
                growing.wish();
                CHECK.due("rows", growing.count(4), rows);
                CHECK.due("the last row, said of everyone's last", growing.said(rows - 1, n - 1, w - 1), rows - 1);
                CHECK.due("no row more", growing.said(rows, 0, 0), -1);
                HonestHouse x = Stories.plain(n, 2, w);
                x.rule(0);
                CHECK.due("the last row is put", x.put(0, rows - 1, 1), 0);
                CHECK.due("it stands", x.end(0, rows - 1), 1);
                CHECK.due("one more is not put", x.put(0, rows, 1), -1);
                CHECK.due("one more has no end", x.end(0, rows), -1);
            }
        }
    }

    /** "the sum of WISH of person i times w^i". */
    private static void numbersOfRows() {
        for (int n = 2; n <= 4; n++) {
            for (int w = 1; w <= 6; w++) {
                HonestHouse x = Stories.plain(n, 2, w);
                int step = 1;
                int all = 0;
                for (int person = 0; person < n; person++) {
                    CHECK.due("one alone says the last wish", x.said(0, person, w - 1), (w - 1) * step);
                    all = x.said(all, person, w - 1);
                    step *= w;
                }
                CHECK.due("all say the last wish", all, step - 1);
            }
        }
    }

    /** "Behind the first RULE no WISHES come any more." */
    private static void behindTheFirstRule() {
        for (int kind = 0; kind < 4; kind++) {
            HonestHouse x = Stories.plain(2, 2, 1);
            CHECK.due("before a rule", x.wish(), 1);
            CHECK.due("no kind 4: no rule comes", x.rule(4), -1);
            CHECK.due("behind a refused one", x.wish(), 2);
            CHECK.due("the first rule", x.rule(kind), 0);
            CHECK.due("behind it", x.wish(), -3);
            CHECK.due("wishes are as many", x.count(2), 3);
            CHECK.due("rows are as many", x.count(4), 9);
        }
    }

    /** "RULES 0 .. 7, as they come", by rule() or by honest(). */
    private static void rules() {
        HonestHouse x = Stories.plain(2, 2, 1);
        for (int rule = 0; rule < 8; rule++) {
            CHECK.due("not yet a rule", x.end(rule, 0), -1);
            CHECK.due("as they come", rule % 2 == 0 ? x.rule(0) : x.honest(rule - 1), rule);
            CHECK.due("rules", x.count(3), rule + 1);
            // a table comes with end 0; what honest() brings has end 1 of the table before it
            CHECK.due("a rule", x.end(rule, 0), rule % 2);
            CHECK.due("its own end", x.put(rule, 0, 1), rule % 2);
        }
        CHECK.due("a ninth", x.rule(0), -2);
        CHECK.due("a ninth by honest", x.honest(0), -2);
        CHECK.due("no ninth", x.end(8, 0), -1);
        CHECK.due("none before the first", x.end(-1, 0), -1);
        CHECK.due("eight", x.count(3), 8);
    }

    /** "0 TABLE: ENDS as told, 0 at first; no payments." */
    private static void tablesAtFirst() {
        HonestHouse x = Stories.of(3, new int[][] {{-9, 9}, {-8, 7}});
        x.rule(0);
        for (int row = 0; row < 8; row++) {
            CHECK.due("0 at first", x.end(0, row), 0);
            for (int person = 0; person < 3; person++) {
                CHECK.due("no payment", x.pays(0, row, person), 0);
            }
        }
        CHECK.due("none can be told", x.pay(0, 0, 0, 0), -4);
    }

    /** "1 PAID under TABLE: likewise, and payments as told, 0 at first". */
    private static void paidAtFirst() {
        HonestHouse x = Stories.of(3, new int[][] {{-9, 9}, {-8, 7}});
        x.rule(1);
        for (int row = 0; row < 8; row++) {
            CHECK.due("0 at first", x.put(0, row, 0), 0);
            for (int person = 0; person < 3; person++) {
                CHECK.due("0 is paid at first", x.pays(0, row, person), 0);
                CHECK.due("0 is no other", x.pay(0, row, person, 0), 0);
            }
        }
    }

    /** "payments as told, 0 at first (-9999 .. 9999)": each person has one at each row. */
    private static void payments() {
        HonestHouse x = Stories.plain(4, 2, 2);
        x.rule(1);
        for (int row = 0; row < 16; row++) {
            for (int person = 0; person < 4; person++) {
                CHECK.due("least", x.pay(0, row, person, -9999), 1);
                CHECK.due("too small", x.pay(0, row, person, -10000), -1);
                CHECK.due("the least stays", x.pays(0, row, person), -9999);
                CHECK.due("greatest", x.pay(0, row, person, 9999), 1);
                CHECK.due("too great", x.pay(0, row, person, 10000), -1);
                CHECK.due("the greatest stays", x.pays(0, row, person), 9999);
                x.pay(0, row, person, row * 10 + person);
            }
        }
        for (int row = 0; row < 16; row++) {
            for (int person = 0; person < 4; person++) {
                CHECK.due("each has their own", x.pays(0, row, person), row * 10 + person);
            }
        }
    }

    /** "by a gift for each END (-99 .. 99; 0 at first) and a weight for each person (0 .. 9; 1 at first)". */
    private static void weighedAtFirst() {
        HonestHouse x = Stories.plain(4, 5, 1);
        x.rule(2);
        for (int end = 0; end < 5; end++) {
            CHECK.due("gift 0 at first", x.gift(0, end, -1, 0), 0);
        }
        for (int person = 0; person < 4; person++) {
            CHECK.due("weight 1 at first", x.gift(0, -1, person, 1), 0);
        }
        HonestHouse y = Stories.of(2, new int[][] {{3, 0}, {0, 4}});
        y.rule(2);
        CHECK.due("4 to 3", y.end(0, 1), 1);
        CHECK.due("who brings it about pays 3", y.pays(0, 1, 0), 3);
        CHECK.due("the other pays nothing", y.pays(0, 1, 1), 0);
    }

    /** "the END of the greatest sum of gift and weights times WISHES' numbers for it, of these the least". */
    private static void weighedTies() {
        HonestHouse x = Stories.plain(4, 5, 1);
        x.rule(2);
        CHECK.due("all 0: the least end", x.end(0, 0), 0);
        x.gift(0, 0, -1, -1);
        CHECK.due("four ends of 0", x.end(0, 0), 1);
        x.gift(0, 4, -1, 1);
        CHECK.due("one of 1, the last", x.end(0, 0), 4);
        x.gift(0, 2, -1, 1);
        CHECK.due("two of 1", x.end(0, 0), 2);
        HonestHouse y = Stories.of(2, new int[][] {{-99, -99, -99, -98, -98}});
        y.rule(2);
        CHECK.due("all below 0: the least of the greatest", y.end(0, 0), 3);
        CHECK.due("nobody turned it", y.pays(0, 0, 0), 0);
    }

    /** A gift at its least and its greatest counts in full. */
    private static void gifts() {
        HonestHouse x = Stories.of(2, new int[][] {{0, 99}, {0, 0}});
        x.rule(2);
        CHECK.due("greatest gift of end 0", x.gift(0, 0, -1, 99), 1);
        CHECK.due("too great", x.gift(0, 0, -1, 100), -1);
        CHECK.due("99 to 99: the least end", x.end(0, 2), 0);
        CHECK.due("99 to 198", x.end(0, 0), 1);
        CHECK.due("99 less 99", x.pays(0, 0, 0), 0);
        CHECK.due("least gift of end 1", x.gift(0, 1, -1, -99), 1);
        CHECK.due("too small", x.gift(0, 1, -1, -100), -1);
        CHECK.due("99 to 99 again", x.end(0, 0), 0);
        CHECK.due("98 to 99", x.gift(0, 0, -1, 98), 1);
        CHECK.due("one less: end 1", x.end(0, 0), 1);
        CHECK.due("98 less 0", x.pays(0, 0, 0), 98);
    }

    /** "a weight for each person (0 .. 9; 1 at first)"; "one without a weight 0". */
    private static void weights() {
        HonestHouse x = Stories.of(2, new int[][] {{10, 0}, {0, 90}, {0, 91}});
        x.rule(2);
        CHECK.due("greatest weight of person 1", x.gift(0, -1, 1, 9), 1);
        CHECK.due("too great", x.gift(0, -1, 1, 10), -1);
        // row 1: person 0 has wish 1, person 1 wish 0: 90 for each end
        CHECK.due("9 times 10 to 90: the least end", x.end(0, 1), 0);
        CHECK.due("90 by 9", x.pays(0, 1, 1), 10);
        CHECK.due("9 times 10 to 91", x.end(0, 2), 1);
        CHECK.due("person 0 pays 90", x.pays(0, 2, 0), 90);
        CHECK.due("weight 0", x.gift(0, -1, 0, 0), 1);
        CHECK.due("too small", x.gift(0, -1, 0, -1), -1);
        CHECK.due("weight 0 stays", x.gift(0, -1, 0, 0), 0);
        CHECK.due("person 0 counts no more", x.end(0, 2), 0);
        CHECK.due("and pays nothing", x.pays(0, 2, 0), 0);
        CHECK.due("nor does person 1 now", x.pays(0, 2, 1), 0);
        x.gift(0, -1, 1, 0);
        CHECK.due("none counts: the least end", x.end(0, 8), 0);
        x.gift(0, 1, -1, 1);
        CHECK.due("none counts: the gift", x.end(0, 0), 1);
        CHECK.due("none pays", x.budget(0, true), 0);
        CHECK.due("none is paid", x.budget(0, false), 0);
    }

    /** "that, divided by the weight, towards 0". */
    private static void ownSums() {
        int[][] due = {{1, 0}, {8, 0}, {9, 1}, {17, 1}, {18, 2}, {99, 11}};
        for (int[] c : due) {
            HonestHouse x = Stories.of(2, new int[][] {{0, 99}, {c[0], 0}});
            x.rule(2);
            x.gift(0, -1, 0, 9);
            CHECK.due("person 0 decides", x.end(0, 2), 1);
            CHECK.due(c[0] + " by 9", x.pays(0, 2, 0), c[1]);
        }
        HonestHouse y = Stories.of(2, new int[][] {{-99, 99}, {-1, -99}});
        y.rule(2);
        CHECK.due("100 below the sum of the other", y.end(0, 2), 1);
        CHECK.due("the greatest sum without them is below 0: -1 less -99", y.pays(0, 2, 0), 98);
        HonestHouse z = Stories.of(4, new int[][] {{99, -99}, {-99, 99}});
        z.rule(2);
        for (int person = 0; person < 4; person++) {
            z.gift(0, -1, person, 9);
        }
        // row 3: persons 0 and 1 have wish 1: 0 and 0; row 7: three of them: end 1; without one of them 9 * 99 each
        CHECK.due("two against two: the least end", z.end(0, 3), 0);
        CHECK.due("whoever wants end 0 pays 9 * 198 by 9", z.pays(0, 3, 2), 198);
        CHECK.due("whoever wants end 1 pays nothing", z.pays(0, 3, 0), 0);
        CHECK.due("three against one", z.end(0, 7), 1);
        CHECK.due("without one of three it is even", z.pays(0, 7, 0), 0);
    }

    /** "further places (n - 1 of them, ENDS; 0 at first)". */
    private static void middlesAtFirst() {
        for (int n = 2; n <= 4; n++) {
            HonestHouse x = Stories.plain(n, 5, 1);
            x.rule(3);
            for (int i = 0; i < n - 1; i++) {
                CHECK.due("0 at first", x.middle(0, i, 4), 0);
                CHECK.due("the last end", x.middle(0, i, 4), 4);
            }
            CHECK.due("no place more", x.middle(0, n - 1, 0), -1);
            CHECK.due("none before the first", x.middle(0, -1, 0), -1);
            CHECK.due("all places at the last end: the greatest top", x.end(0, 0), 0);
            x.keep(0, 1, 0);
            CHECK.due("places' sum", x.weight(0), 510 + 4 * (n - 1));
        }
    }

    /** "a TOP of a WISH is its END of the greatest number, of these the least". */
    private static void tops() {
        int[][] numbers = {{0, 0, 0, 0, 0}, {-99, -99, -99, -99, -98}, {-1, 0, 0, -1, 0}, {98, 97, 98, 99, 99}};
        int[] due = {0, 4, 1, 3};
        HonestHouse x = Stories.of(2, numbers);
        x.rule(0);
        for (int wish = 0; wish < 4; wish++) {
            for (int other = 0; other < 4; other++) {
                x.put(0, wish + 4 * other, due[wish]);
            }
        }
        CHECK.due("person 0 has their top at each row", x.dictator(0), 0);
        x.rule(3);
        x.middle(1, 0, 4);
        for (int wish = 0; wish < 4; wish++) {
            // the second least of the top, top 0 and place 4
            CHECK.due("the top of wish " + wish, x.end(1, wish), due[wish]);
        }
    }

    /** "the n-th least of all TOPS and places". */
    private static void middles() {
        for (int n = 2; n <= 4; n++) {
            HonestHouse x = Stories.of(n, new int[][] {{1, 0, 0, 0, 0}, {0, 0, 0, 0, 1}, {0, 0, 1, 0, 0}});
            x.rule(3);
            int last = x.count(4) - 1;
            int allFour = last / 2;
            CHECK.due("places 0: all say top 0", x.end(0, 0), 0);
            CHECK.due("places 0: all say top 4", x.end(0, allFour), 4);
            CHECK.due("places 0: the least top is one's 0", x.end(0, x.said(allFour, n - 1, 0)), 0);
            CHECK.due("places 0: the least top is one's 2", x.end(0, x.said(allFour, n - 1, 2)), 2);
            for (int i = 0; i < n - 1; i++) {
                x.middle(0, i, 4);
            }
            CHECK.due("places 4: all say top 0", x.end(0, 0), 0);
            CHECK.due("places 4: the greatest top is one's 2", x.end(0, x.said(0, n - 1, 2)), 2);
            CHECK.due("places 4: the greatest top is one's 4", x.end(0, x.said(0, n - 1, 1)), 4);
            x.middle(0, 0, 3);
            CHECK.due("a place at 3", x.end(0, x.said(0, n - 1, 1)), 3);
            CHECK.due("all say top 4: it stays", x.end(0, allFour), 4);
        }
    }

    /** "SHELVES 0 .. 7 each hold nothing (at first)". */
    private static void shelves() {
        HonestHouse x = Stories.plain(2, 2, 1);
        for (int d = 0; d < 8; d++) {
            int shelf = d;
            CHECK.due("nothing to weigh", x.weight(d), -11);
            CHECK.due("nothing to toss", x.toss(d), -11);
            CHECK.due("nothing to copy", x.copy(d, 0, d, 0, 0), -11);
            CHECK.notNow("nothing is held", () -> x.element(shelf, 0));
        }
        for (int d = 0; d < 8; d++) {
            CHECK.due("each can hold", x.make(d, 4, d + 1), 0);
        }
        for (int d = 0; d < 8; d++) {
            int shelf = d;
            CHECK.due("the last place of shelf " + d, x.element(d, d), 0);
            CHECK.notNow("none behind it", () -> x.element(shelf, shelf + 1));
        }
        for (int d : new int[] {-1, 8, Integer.MIN_VALUE, Integer.MAX_VALUE}) {
            CHECK.due("no shelf to make", x.make(d, 4, 1), -1);
            CHECK.due("no shelf to keep", x.keep(d, 0, 0), -1);
            CHECK.due("no shelf to weigh", x.weight(d), -1);
            CHECK.due("no shelf to toss", x.toss(d), -1);
            CHECK.noSuch("no shelf", () -> x.element(d, 0));
        }
    }

    /** Nothing is there yet: no wishes, no rules, nothing on shelves. */
    private static void newHouse() {
        Refused refused = new Refused(CHECK, Stories::empty);
        refused.due(-1, "worth", x -> x.worth(0, 0, 0));
        for (int k = 0; k < 4; k++) {
            int kind = k;
            refused.due(-1, "rule: THE LIST is empty", x -> x.rule(kind));
        }
        refused.due(-1, "said", x -> x.said(0, 0, 0));
        refused.due(-1, "keep numbers", x -> x.keep(0, 4, 0));
        nothingThere(refused);
        HonestHouse y = Stories.empty();
        CHECK.due("each keeps their own", y.rings(), 12);
        CHECK.due("by turns", y.turns(12), 12);
        CHECK.due("rows", y.count(4), 0);
        CHECK.due("behind a refused rule a wish comes", y.rule(0) + y.wish(), -1);
    }

    /** Wishes are there, but no rules. */
    private static void houseWithoutRules() {
        Refused refused = new Refused(CHECK, Stories::wishing);
        nothingThere(refused);
        HonestHouse y = Stories.wishing();
        CHECK.due("said", y.said(0, 2, 1), 4);
        CHECK.due("keep numbers", y.keep(0, 4, 1), 0);
        CHECK.due("a number", y.element(0, 2), 4);
    }

    private static void nothingThere(Refused refused) {
        refused.due(-1, "put", x -> x.put(0, 0, 0));
        refused.due(-1, "pay", x -> x.pay(0, 0, 0, 0));
        refused.due(-1, "gift", x -> x.gift(0, 0, -1, 0));
        refused.due(-1, "weight of a person", x -> x.gift(0, -1, 0, 1));
        refused.due(-1, "middle", x -> x.middle(0, 0, 0));
        refused.due(-1, "end", x -> x.end(0, 0));
        refused.noSuch("pays", x -> x.pays(0, 0, 0));
        refused.noSuch("gain", x -> x.gain(0, 0, 0, 0));
        refused.due(-1, "lie", x -> x.lie(0, 0));
        refused.due(-1, "lies", x -> x.lies(0));
        refused.due(-1, "heap", x -> x.heap(0, 1, false));
        refused.due(-1, "heap told", x -> x.heap(0, 1, true));
        refused.due(-1, "onto", x -> x.onto(0));
        refused.due(-1, "dictator", x -> x.dictator(0));
        refused.noSuch("budget", x -> x.budget(0, true));
        refused.noSuch("welfare", x -> x.welfare(0));
        refused.noSuch("span", x -> x.span(0, 0, 0, 0, 0));
        refused.due(-1, "round", x -> x.round(0, 0));
        refused.noSuch("price", x -> x.price(0, 0, 0, 0));
        refused.due(-1, "honest", x -> x.honest(0));
        refused.due(-1, "same", x -> x.same(0, 0));
        refused.due(-1, "fair", x -> x.fair(0));
        refused.due(-1, "keep a rule", x -> x.keep(0, 1, 0));
        refused.due(-1, "keep ends", x -> x.keep(0, 3, 0));
        refused.due(-11, "weight", x -> x.weight(0));
        refused.due(-11, "toss", x -> x.toss(0));
        refused.due(-11, "copy", x -> x.copy(0, 0, 1, 0, 0));
        refused.notNow("element", x -> x.element(0, 0));
    }

    /** "w 1 .. 6": with one wish there is one row, and nobody can lie. */
    private static void oneWish() {
        HonestHouse x = Stories.of(2, new int[][] {{-3, 8}});
        for (int kind = 0; kind < 4; kind++) {
            x.rule(kind);
        }
        x.pay(1, 0, 1, -7);
        for (int rule = 0; rule < 4; rule++) {
            CHECK.due("no lies", x.lies(rule), 0);
            CHECK.due("no first lie", x.lie(rule, 0), -2);
            CHECK.due("no heap lies", x.heap(rule, 3, false), -2);
            CHECK.due("no round", x.round(rule, 2), -2);
            CHECK.due("one end", x.onto(rule), 1);
            CHECK.due("fair", x.fair(rule), 1);
            CHECK.due("their own", x.gain(rule, 0, 1, 0), 0);
            CHECK.due("the one price", x.price(rule, 0, 1, x.end(rule, 0)), 0);
        }
        CHECK.due("end 0 is not the top", x.dictator(0), -2);
        CHECK.due("end 1 is", x.dictator(2), 0);
        CHECK.due("the second least of 0 1 1 is", x.end(3, 0), 1);
        CHECK.due("one row's least", x.budget(1, false), -7);
        CHECK.due("one row's greatest", x.budget(1, true), -7);
        CHECK.due("welfare", x.welfare(0), -6);
        CHECK.due("honest", x.honest(1), 4);
        CHECK.due("without the payment", x.same(4, 1), 0);
        CHECK.due("as the table", x.same(4, 0), 1);
    }
}
