/** Edges of promises 11 to 15: said, gain, lie, lies, heap. */
public final class EdgesLiesTest {
    private static final Check CHECK = new Check();
    private static final Refused EMPTY = new Refused(CHECK, Stories::empty);
    private static final Refused WISHING = new Refused(CHECK, Stories::wishing);
    private static final Refused SETTLED = new Refused(CHECK, Stories::settled);
    private static final Refused CROWDED = new Refused(CHECK, Stories::crowded);

    public static void main(String[] args) {
        saidRanges();
        saidCorners();
        gainRanges();
        gainOfTheirOwn();
        gainGreatest();
        lieRanges();
        lieNone();
        lieOfGainOne();
        lieFirst();
        liesRanges();
        liesFewest();
        liesMany();
        heapRanges();
        heapNone();
        heapEmpty();
        heapAtTheLastRow();
        heapAtEachRow();
        heapThatIsPaid();
        heapThatNeverAgrees();
        heapOfEachEnd();
        heapOfOtherWishes();
        heapWithOneLeftOut();
        heapWithOwnWords();
        CHECK.end();
    }

    /** So many people and wishes, two ends, all numbers 0, and a paid rule: who pays 1 at a row alone lies there. */
    private static HonestHouse paying(int people, int wishes) {
        HonestHouse x = Stories.plain(people, 2, wishes);
        x.rule(1);
        return x;
    }

    /** Promise 11: "The ROW in which a person says another WISH. -1." */
    private static void saidRanges() {
        for (Refused refused : new Refused[] {WISHING, SETTLED}) {
            refused.outside("said's row", 0, 7, (x, v) -> x.said(v, 0, 0));
            refused.outside("said's person", 0, 2, (x, v) -> x.said(0, v, 0));
            refused.outside("said's wish", 0, 1, (x, v) -> x.said(0, 0, v));
            refused.due(-1, "no such row, person and wish", x -> x.said(8, 3, 2));
        }
        EMPTY.due(-1, "THE LIST is empty", x -> x.said(0, 0, 0));
        EMPTY.due(-1, "THE LIST is empty, wish -1", x -> x.said(0, 0, -1));
    }

    /** The first and the last row, and each person's first and last wish. */
    private static void saidCorners() {
        HonestHouse x = Stories.plain(4, 2, 6);
        int[] step = {1, 6, 36, 216};
        for (int person = 0; person < 4; person++) {
            CHECK.due("from the first row", x.said(0, person, 5), 5 * step[person]);
            CHECK.due("from the last row", x.said(1295, person, 0), 1295 - 5 * step[person]);
            CHECK.due("their own at the first", x.said(0, person, 0), 0);
            CHECK.due("their own at the last", x.said(1295, person, 5), 1295);
        }
        HonestHouse y = Stories.plain(3, 2, 1);
        CHECK.due("one wish: the one row", y.said(0, 2, 0), 0);
    }

    /** Promise 12: "IllegalArgumentException", for a rule, a row, a person and a wish out of range. */
    private static void gainRanges() {
        SETTLED.thrownOutside("gain's rule", 0, 3, (x, v) -> x.gain(v, 0, 0, 0));
        for (int rule = 0; rule < 4; rule++) {
            int of = rule;
            SETTLED.thrownOutside("row of rule " + rule, 0, 7, (x, v) -> x.gain(of, v, 0, 1));
            SETTLED.thrownOutside("person of rule " + rule, 0, 2, (x, v) -> x.gain(of, 0, v, 1));
            SETTLED.thrownOutside("wish of rule " + rule, 0, 1, (x, v) -> x.gain(of, 0, 0, v));
        }
    }

    /** Promise 12: "(their own: 0)". */
    private static void gainOfTheirOwn() {
        for (int rule = 0; rule < 4; rule++) {
            for (int row = 0; row < 8; row++) {
                for (int person = 0; person < 3; person++) {
                    CHECK.due("their own", Stories.settled().gain(rule, row, person, row >> person & 1), 0);
                }
            }
        }
    }

    /** Numbers and payments at their limits add up in a gain. */
    private static void gainGreatest() {
        HonestHouse x = Stories.of(2, new int[][] {{99, -99}, {-99, 99}});
        x.rule(1);
        x.put(0, 0, 1);
        x.pay(0, 0, 0, 9999);
        x.pay(0, 1, 0, -9999);
        CHECK.due("from -99 less 9999 to 99 and 9999", x.gain(0, 0, 0, 1), 20196);
        CHECK.due("it is the first lie", x.lie(0, 3), 20196);
        x.put(0, 3, 1);
        x.pay(0, 2, 0, -9999);
        x.pay(0, 3, 0, 9999);
        CHECK.due("from 99 and 9999 to -99 less 9999", x.gain(0, 2, 0, 1), -20196);
        CHECK.due("neither one nor the other", x.gain(0, 2, 1, 1), 0);
    }

    /** Promise 13: "-1", for a rule and a what out of range, also of an honest rule. */
    private static void lieRanges() {
        SETTLED.outside("lie's rule", 0, 3, (x, v) -> x.lie(v, 0));
        SETTLED.outside("lie's what", 0, 3, (x, v) -> x.lie(0, v));
        CROWDED.outside("what of an honest rule", 0, 3, (x, v) -> x.lie(4, v));
        CROWDED.due(-1, "no such rule, and what 4", x -> x.lie(8, 4));
    }

    /** Promise 13: "-2: the RULE is HONEST", "if no GAIN is above 0". */
    private static void lieNone() {
        for (int what = 0; what < 4; what++) {
            int part = what;
            for (int rule = 4; rule < 7; rule++) {
                int honest = rule;
                CROWDED.due(-2, "what " + what + " of rule " + rule, x -> x.lie(honest, part));
            }
        }
        HonestHouse x = paying(2, 2);
        for (int row = 0; row < 4; row++) {
            x.pay(0, row, 0, 5);
            x.pay(0, row, 1, -5);
        }
        CHECK.due("all gains are 0", x.lie(0, 0), -2);
        CHECK.due("no lies", x.lies(0), 0);
    }

    /** A gain of 1 is above 0, wherever it is. */
    private static void lieOfGainOne() {
        for (int row = 0; row < 8; row++) {
            for (int person = 0; person < 3; person++) {
                HonestHouse x = paying(3, 2);
                x.pay(0, row, person, 1);
                CHECK.due("the row", x.lie(0, 0), row);
                CHECK.due("the person", x.lie(0, 1), person);
                CHECK.due("the wish", x.lie(0, 2), 1 - (row >> person & 1));
                CHECK.due("the gain", x.lie(0, 3), 1);
                CHECK.due("one lie", x.lies(0), 1);
                x.pay(0, row, person, -1);
                CHECK.due("now the row beside it", x.lie(0, 0), row ^ 1 << person);
                CHECK.due("its person", x.lie(0, 1), person);
                CHECK.due("its gain", x.lie(0, 3), 1);
                CHECK.due("one lie again", x.lies(0), 1);
                x.pay(0, row, person, 0);
                CHECK.due("none", x.lie(0, 3), -2);
            }
        }
    }

    /** Promise 13: "The first LIE ..: by ROWS, PEOPLE, WISHES", not the greatest one. */
    private static void lieFirst() {
        HonestHouse x = paying(3, 3);
        x.pay(0, 26, 2, 9);
        x.pay(0, 26, 1, 8);
        CHECK.due("of one row the first person", x.lie(0, 1), 1);
        CHECK.due("their gain", x.lie(0, 3), 8);
        x.pay(0, 25, 2, 7);
        CHECK.due("a row before", x.lie(0, 0), 25);
        CHECK.due("its person", x.lie(0, 1), 2);
        x.pay(0, 0, 0, 6);
        x.pay(0, 1, 0, 4);
        CHECK.due("the first row", x.lie(0, 0), 0);
        CHECK.due("of wishes 1 and 2 the first", x.lie(0, 2), 1);
        CHECK.due("its gain, not that of wish 2", x.lie(0, 3), 2);
        x.pay(0, 1, 0, 6);
        CHECK.due("wish 1 pays no more", x.lie(0, 2), 2);
        CHECK.due("wish 2 does", x.lie(0, 3), 6);
        for (int what = 0; what < 4; what++) {
            int part = what;
            SETTLED.due(new int[] {0, 0, 1, 5}[what], "what " + what + " changes nothing", y -> y.lie(0, part));
        }
    }

    /** Promise 14: "-1". */
    private static void liesRanges() {
        SETTLED.outside("lies' rule", 0, 3, (x, v) -> x.lies(v));
        CROWDED.outside("lies' rule of 8", 0, 7, (x, v) -> x.lies(v));
    }

    /** None, and just one. */
    private static void liesFewest() {
        CROWDED.due(0, "none", x -> x.lies(4));
        HonestHouse x = paying(4, 6);
        CHECK.due("none in the greatest house", x.lies(0), 0);
        x.pay(0, 1295, 3, 1);
        CHECK.due("five wishes to say instead", x.lies(0), 5);
        for (int wish = 1; wish < 5; wish++) {
            x.pay(0, x.said(1295, 3, wish), 3, 1);
        }
        // each of wishes 1 .. 5 costs 1, so that wish 0 is the one lie that pays for each
        CHECK.due("one of each", x.lies(0), 5);
        CHECK.due("the first of them", x.lie(0, 0), x.said(1295, 3, 1));
    }

    /** Each wish costs as much as its number: all lesser ones are lies, at each row, for each person. */
    private static void liesMany() {
        HonestHouse x = paying(4, 6);
        int[] step = {1, 6, 36, 216};
        for (int row = 0; row < 1296; row++) {
            for (int person = 0; person < 4; person++) {
                x.pay(0, row, person, row / step[person] % 6);
            }
        }
        CHECK.due("15 for each person and others' words", x.lies(0), 4 * 216 * 15);
        CHECK.due("all of them", x.heap(0, 15, false), 1 + 6 + 36 + 216);
        CHECK.due("told", x.heap(0, 15, true), 0);
    }

    /** Promise 15: "-1", for a rule and a heap out of range. */
    private static void heapRanges() {
        SETTLED.outside("heap's rule", 0, 3, (x, v) -> x.heap(v, 1, false));
        SETTLED.outside("heap's rule, told", 0, 3, (x, v) -> x.heap(v, 1, true));
        SETTLED.outside("heap's people", 1, 7, (x, v) -> x.heap(0, v, false));
        SETTLED.outside("heap's people, told", 1, 7, (x, v) -> x.heap(0, v, true));
        for (int n = 2; n <= 4; n++) {
            int people = n;
            Refused refused = new Refused(CHECK, () -> paying(people, 1));
            refused.outside("people of " + n, 1, (1 << n) - 1, (x, v) -> x.heap(0, v, false));
        }
    }

    /** Promise 15: "-2: none." */
    private static void heapNone() {
        for (int heap = 1; heap <= 7; heap++) {
            int people = heap;
            CROWDED.due(-2, "heap " + heap, x -> x.heap(4, people, false));
            CROWDED.due(-2, "heap " + heap + ", told", x -> x.heap(4, people, true));
        }
    }

    /** Promise 15: "-1 (the empty HEAP, too)", whether or not a heap lies. */
    private static void heapEmpty() {
        for (boolean told : new boolean[] {false, true}) {
            SETTLED.due(-1, "empty where heaps lie", x -> x.heap(0, 0, told));
            CROWDED.due(-1, "empty where none lies", x -> x.heap(4, 0, told));
            CROWDED.due(-1, "empty, of no rule", x -> x.heap(8, 0, told));
            CROWDED.due(-1, "too great where none lies", x -> x.heap(4, 8, told));
        }
    }

    /** Everyone pays 1 at the last row: each heap lies there, and says the least row that it can. */
    private static void heapAtTheLastRow() {
        HonestHouse x = paying(3, 2);
        for (int person = 0; person < 3; person++) {
            x.pay(0, 7, person, 1);
        }
        for (int heap = 1; heap <= 7; heap++) {
            CHECK.due("the last row, heap " + heap, x.heap(0, heap, false), 7);
            CHECK.due("the least said, heap " + heap, x.heap(0, heap, true), 7 - heap);
        }
        HonestHouse y = paying(4, 6);
        for (int person = 0; person < 4; person++) {
            y.pay(0, 1295, person, 1);
        }
        CHECK.due("the last of 1296", y.heap(0, 15, false), 1295);
        CHECK.due("told", y.heap(0, 15, true), 0);
        CHECK.due("person 3 alone", y.heap(0, 8, true), 215);
    }

    /** Everyone pays 1 at one row: each heap lies there, and says the least row that it can but for it. */
    private static void heapAtEachRow() {
        for (int row = 0; row < 8; row++) {
            HonestHouse x = paying(3, 2);
            for (int person = 0; person < 3; person++) {
                x.pay(0, row, person, 1);
            }
            for (int heap = 1; heap <= 7; heap++) {
                int start = row & ~heap;
                int said = start == row ? row | heap & -heap : start;
                CHECK.due("row " + row + ", heap " + heap, x.heap(0, heap, false), row);
                CHECK.due("the least said, heap " + heap, x.heap(0, heap, true), said);
            }
        }
    }

    /** Everyone is paid 1 at one row: each heap lies at the first row from which it can say that one. */
    private static void heapThatIsPaid() {
        for (int row = 0; row < 8; row++) {
            HonestHouse x = paying(3, 2);
            for (int other = 0; other < 8; other++) {
                // both ends come about by whatever each heap says, and are worth the same
                x.put(0, other, Integer.bitCount(other) % 2);
            }
            for (int person = 0; person < 3; person++) {
                x.pay(0, row, person, -1);
            }
            for (int heap = 1; heap <= 7; heap++) {
                int start = row & ~heap;
                int first = start == row ? row | heap & -heap : start;
                CHECK.due("heap " + heap, x.heap(0, heap, false), first);
                CHECK.due("told row " + row + ", heap " + heap, x.heap(0, heap, true), row);
            }
        }
    }

    /** Each of two could pay less, but at no row both: alone they lie, together they don't. */
    private static void heapThatNeverAgrees() {
        HonestHouse x = paying(2, 2);
        int[][] payments = {{2, 2}, {1, 3}, {3, 1}, {2, 2}};
        for (int row = 0; row < 4; row++) {
            x.pay(0, row, 0, payments[row][0]);
            x.pay(0, row, 1, payments[row][1]);
        }
        CHECK.due("person 0 alone", x.heap(0, 1, false), 0);
        CHECK.due("person 1 alone", x.heap(0, 2, false), 0);
        CHECK.due("together", x.heap(0, 3, false), -2);
        CHECK.due("together, told", x.heap(0, 3, true), -2);
        x.pay(0, 3, 1, 1);
        x.pay(0, 3, 0, 1);
        CHECK.due("together, by row 3", x.heap(0, 3, true), 3);
    }

    /** All want the one end that comes by the last row alone: the heap of all lies wherever it has not come. */
    private static void heapOfEachEnd() {
        for (int end = 0; end < 5; end++) {
            int[][] numbers = new int[2][5];
            numbers[0][end] = 7;
            numbers[1][end] = 1;
            HonestHouse x = Stories.of(3, numbers);
            x.rule(0);
            for (int row = 0; row < 8; row++) {
                x.put(0, row, row == 7 ? end : (end + 1) % 5);
            }
            CHECK.due("the first row, end " + end, x.heap(0, 7, false), 0);
            CHECK.due("told, end " + end, x.heap(0, 7, true), 7);
            CHECK.due("persons 1 and 2, end " + end, x.heap(0, 6, false), 1);
            CHECK.due("person 0 alone, end " + end, x.heap(0, 1, false), 6);
            CHECK.due("told, person 0 alone", x.heap(0, 1, true), 7);
        }
    }

    /** Who has wish 1 does not want what who has wish 0 wants: whose wish it is tells whether they lie. */
    private static void heapOfOtherWishes() {
        HonestHouse x = Stories.of(2, new int[][] {{5, 0}, {0, 4}});
        x.rule(0);
        x.put(0, 0, 1);
        x.put(0, 3, 1);
        // ends 1 0 0 1: at row 0 both want end 0; rows 1 and 2 please one of them, row 3 both
        CHECK.due("both at row 0", x.heap(0, 3, false), 0);
        CHECK.due("saying row 1", x.heap(0, 3, true), 1);
        x.put(0, 0, 0);
        CHECK.due("nowhere both", x.heap(0, 3, false), -2);
        x.put(0, 3, 0);
        x.put(0, 2, 1);
        // ends 0 0 1 0: at row 3 both have wish 1, and want end 1
        CHECK.due("both at row 3", x.heap(0, 3, false), 3);
        CHECK.due("saying row 2", x.heap(0, 3, true), 2);
    }

    /** "each of it has a GAIN above 0": 0 is not enough, for whichever of them. */
    private static void heapWithOneLeftOut() {
        for (int left = 0; left < 3; left++) {
            HonestHouse x = paying(3, 2);
            for (int person = 0; person < 3; person++) {
                x.pay(0, 7, person, person == left ? 0 : 1);
            }
            for (int heap = 1; heap <= 7; heap++) {
                boolean lies = (heap >> left & 1) == 0;
                CHECK.due("heap " + heap + " but for " + left, x.heap(0, heap, false), lies ? 7 : -2);
                CHECK.due("told", x.heap(0, heap, true), lies ? 7 - heap : -2);
            }
        }
    }

    /** "say WISHES (those of THE LIST; their own, too)". */
    private static void heapWithOwnWords() {
        HonestHouse x = paying(3, 2);
        for (int row = 0; row < 8; row++) {
            for (int person = 0; person < 3; person++) {
                x.pay(0, row, person, row == 6 ? 0 : 1);
            }
        }
        // row 6 is free: persons 0 and 1 come to it from rows 4, 5 and 7, at which person 2 says wish 1
        CHECK.due("the first row", x.heap(0, 3, false), 4);
        CHECK.due("told: person 0 says their own", x.heap(0, 3, true), 6);
        CHECK.due("person 0 alone, from row 7", x.heap(0, 1, false), 7);
        CHECK.due("person 1 alone, from row 4", x.heap(0, 2, false), 4);
        CHECK.due("person 2 alone, from row 2", x.heap(0, 4, false), 2);
        CHECK.due("all, from row 0", x.heap(0, 7, false), 0);
        CHECK.due("all, told", x.heap(0, 7, true), 6);
    }
}
