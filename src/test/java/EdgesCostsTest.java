/** Edges of promises 16 to 19, 24 and 25: onto, dictator, budget, welfare, same, fair. */
public final class EdgesCostsTest {
    private static final Check CHECK = new Check();
    private static final Refused SETTLED = new Refused(CHECK, Stories::settled);
    private static final Refused CROWDED = new Refused(CHECK, Stories::crowded);

    public static void main(String[] args) {
        ontoRanges();
        ontoFewestAndMost();
        dictatorRanges();
        dictatorOfEach();
        dictatorNone();
        dictatorLeast();
        budgetRanges();
        budgetLimits();
        budgetAtEachRow();
        welfareRanges();
        welfareLimits();
        sameRanges();
        sameButForOne();
        sameOfKinds();
        fairRanges();
        fairButForOne();
        fairOfThreeWishes();
        CHECK.end();
    }

    /** Promise 16: "-1". */
    private static void ontoRanges() {
        SETTLED.outside("onto's rule", 0, 3, (x, v) -> x.onto(v));
        CROWDED.outside("onto's rule of 8", 0, 7, (x, v) -> x.onto(v));
    }

    /** One end at least, all of them at most. */
    private static void ontoFewestAndMost() {
        HonestHouse x = Stories.plain(3, 5, 2);
        x.rule(0);
        CHECK.due("one", x.onto(0), 1);
        for (int end = 1; end < 5; end++) {
            x.put(0, 8 - end, end);
            CHECK.due("one more", x.onto(0), end + 1);
        }
        for (int row = 0; row < 8; row++) {
            x.put(0, row, 4);
        }
        CHECK.due("the last one alone", x.onto(0), 1);
    }

    /** Promise 17: "-1". */
    private static void dictatorRanges() {
        SETTLED.outside("dictator's rule", 0, 3, (x, v) -> x.dictator(v));
        CROWDED.outside("dictator's rule of 8", 0, 7, (x, v) -> x.dictator(v));
    }

    /** Tops 0 and 1, and the end is that of one person. */
    private static HonestHouse ruledBy(int people, int person) {
        HonestHouse x = Stories.of(people, new int[][] {{1, 0}, {0, 1}});
        x.rule(0);
        for (int row = 0; row < x.count(4); row++) {
            x.put(0, row, row >> person & 1);
        }
        return x;
    }

    /** Promise 17: "whose TOP comes about by each ROW": one row against it is enough, the first and the last, too. */
    private static void dictatorOfEach() {
        for (int n = 2; n <= 4; n++) {
            for (int person = 0; person < n; person++) {
                HonestHouse x = ruledBy(n, person);
                CHECK.due("person " + person + " of " + n, x.dictator(0), person);
                for (int row = 0; row < x.count(4); row++) {
                    int end = x.end(0, row);
                    x.put(0, row, 1 - end);
                    CHECK.due("but for row " + row, x.dictator(0), -2);
                    x.put(0, row, end);
                }
                CHECK.due("person " + person + " again", x.dictator(0), person);
            }
        }
    }

    /** Promise 17: "-2: there is none". */
    private static void dictatorNone() {
        CROWDED.due(-2, "end 0 at each row", x -> x.dictator(4));
        SETTLED.due(-2, "a table", x -> x.dictator(0));
    }

    /** Promise 17: "(the least such one)". */
    private static void dictatorLeast() {
        HonestHouse x = Stories.of(4, new int[][] {{0, 1, 1}, {-5, 3, 2}});
        x.rule(0);
        for (int row = 0; row < 16; row++) {
            CHECK.due("not yet", x.dictator(0), -2);
            x.put(0, row, 1);
        }
        CHECK.due("all have one top: the least", x.dictator(0), 0);
    }

    /** Promise 18: "IllegalArgumentException: no such RULE". */
    private static void budgetRanges() {
        SETTLED.thrownOutside("budget's rule", 0, 3, (x, v) -> x.budget(v, false));
        SETTLED.thrownOutside("budget's rule, most", 0, 3, (x, v) -> x.budget(v, true));
        CROWDED.thrownOutside("budget's rule of 8", 0, 7, (x, v) -> x.budget(v, true));
    }

    /** Everyone pays the most, or the least, that there is. */
    private static void budgetLimits() {
        HonestHouse x = Stories.plain(4, 2, 6);
        x.rule(1);
        for (int person = 0; person < 4; person++) {
            x.pay(0, 1295, person, 9999);
        }
        CHECK.due("the greatest, at the last row", x.budget(0, true), 39996);
        CHECK.due("the least is 0 at others", x.budget(0, false), 0);
        for (int person = 0; person < 4; person++) {
            x.pay(0, 0, person, -9999);
        }
        CHECK.due("the least, at the first row", x.budget(0, false), -39996);
        CHECK.due("the greatest still", x.budget(0, true), 39996);
    }

    /** "of all ROWS", each of them; where all are below 0, or above, 0 is not among them. */
    private static void budgetAtEachRow() {
        for (int row = 0; row < 8; row++) {
            HonestHouse x = Stories.plain(3, 2, 2);
            x.rule(1);
            x.pay(0, row, 2, 1);
            CHECK.due("1 at row " + row, x.budget(0, true), 1);
            CHECK.due("0 at others", x.budget(0, false), 0);
            x.pay(0, row, 0, -2);
            CHECK.due("1 less 2 at row " + row, x.budget(0, false), -1);
            CHECK.due("0 at others still", x.budget(0, true), 0);
        }
        HonestHouse y = Stories.plain(2, 2, 2);
        y.rule(1);
        for (int row = 0; row < 4; row++) {
            y.pay(0, row, 1, -10 - row);
        }
        CHECK.due("greatest below 0", y.budget(0, true), -10);
        CHECK.due("least below 0", y.budget(0, false), -13);
        for (int row = 0; row < 4; row++) {
            y.pay(0, row, 1, 10 + row);
        }
        CHECK.due("least above 0", y.budget(0, false), 10);
        CHECK.due("greatest above 0", y.budget(0, true), 13);
    }

    /** Promise 19: "IllegalArgumentException." */
    private static void welfareRanges() {
        SETTLED.thrownOutside("welfare's rule", 0, 3, (x, v) -> x.welfare(v));
        CROWDED.thrownOutside("welfare's rule of 8", 0, 7, (x, v) -> x.welfare(v));
    }

    /** All numbers at their greatest, or at their least, at each row. */
    private static void welfareLimits() {
        int[][] numbers = new int[6][];
        for (int wish = 0; wish < 6; wish++) {
            numbers[wish] = new int[] {99, -99};
        }
        HonestHouse x = Stories.of(4, numbers);
        x.rule(0);
        CHECK.due("the greatest", x.welfare(0), 4L * 1296 * 99);
        x.put(0, 1295, 1);
        CHECK.due("one row less", x.welfare(0), 4L * 1294 * 99);
        for (int row = 0; row < 1296; row++) {
            x.put(0, row, 1);
        }
        CHECK.due("the least", x.welfare(0), -4L * 1296 * 99);
    }

    /** Promise 24: "-1", for either rule and both. */
    private static void sameRanges() {
        SETTLED.outside("same's rule", 0, 3, (x, v) -> x.same(v, 0));
        SETTLED.outside("same's other", 0, 3, (x, v) -> x.same(0, v));
        SETTLED.outside("one rule, twice", 0, 3, (x, v) -> x.same(v, v));
        SETTLED.due(-1, "neither is there", x -> x.same(4, -1));
        CROWDED.outside("same's other of 8", 0, 7, (x, v) -> x.same(0, v));
    }

    /** One end or one payment, wherever it is, makes another rule of it. */
    private static void sameButForOne() {
        HonestHouse x = Stories.plain(3, 2, 2);
        x.rule(1);
        x.rule(1);
        CHECK.due("as they came", x.same(0, 1), 1);
        for (int row = 0; row < 8; row++) {
            x.put(0, row, 1);
            CHECK.due("another end at row " + row, x.same(0, 1), 0);
            CHECK.due("the other way", x.same(1, 0), 0);
            CHECK.due("with itself", x.same(0, 0), 1);
            x.put(0, row, 0);
            for (int person = 0; person < 3; person++) {
                x.pay(1, row, person, 1);
                CHECK.due("person " + person + " pays at row " + row, x.same(0, 1), 0);
                CHECK.due("the other way", x.same(1, 0), 0);
                x.pay(1, row, person, 0);
            }
        }
        CHECK.due("as they came, again", x.same(0, 1), 1);
    }

    /** Kinds don't count: "the same ENDS and payments". */
    private static void sameOfKinds() {
        HonestHouse x = Stories.plain(2, 2, 2);
        for (int kind = 0; kind < 4; kind++) {
            x.rule(kind);
        }
        for (int rule = 0; rule < 4; rule++) {
            for (int other = 0; other < 4; other++) {
                CHECK.due("all have end 0 and no payments", x.same(rule, other), 1);
            }
        }
        x.gift(2, 1, -1, 1);
        CHECK.due("weighed: end 1 now", x.same(0, 2), 0);
        for (int row = 0; row < 4; row++) {
            x.put(0, row, 1);
        }
        CHECK.due("the table, too", x.same(2, 0), 1);
        x.middle(3, 0, 1);
        CHECK.due("middle: 0 0 1, end 0 still", x.same(3, 1), 1);
    }

    /** Promise 25: "-1". */
    private static void fairRanges() {
        SETTLED.outside("fair's rule", 0, 3, (x, v) -> x.fair(v));
        CROWDED.outside("fair's rule of 8", 0, 7, (x, v) -> x.fair(v));
    }

    /** Rows in which as many say wish 1 must have one end: each row but for the first and the last has others. */
    private static void fairButForOne() {
        for (int n = 2; n <= 4; n++) {
            HonestHouse x = Stories.plain(n, 2, 2);
            x.rule(0);
            int last = x.count(4) - 1;
            CHECK.due("end 0 at each row", x.fair(0), 1);
            for (int row = 0; row <= last; row++) {
                x.put(0, row, 1);
                CHECK.due("end 1 at row " + row + " of " + n + " people", x.fair(0), row == 0 || row == last ? 1 : 0);
                x.put(0, row, 0);
            }
            for (int row = 0; row <= last; row++) {
                x.put(0, row, Integer.bitCount(row) == n - 1 ? 1 : 0);
            }
            CHECK.due("all but one say wish 1", x.fair(0), 1);
        }
    }

    /** Three different words change about in six ways. */
    private static void fairOfThreeWishes() {
        int[] rows = {2 * 9 + 3, 2 * 9 + 1, 9 + 6, 9 + 2, 6 + 1, 3 + 2};
        for (int but : rows) {
            HonestHouse x = Stories.plain(3, 5, 3);
            x.rule(0);
            for (int row : rows) {
                x.put(0, row, 4);
            }
            CHECK.due("all six", x.fair(0), 1);
            x.put(0, but, 3);
            CHECK.due("but for row " + but, x.fair(0), 0);
        }
    }
}
