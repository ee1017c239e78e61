/** Edges of promises 36 to 41: keep, make, element, copy, weight, toss. */
public final class EdgesShelvesTest {
    private static final Check CHECK = new Check();
    private static final Refused EMPTY = new Refused(CHECK, Stories::empty);
    private static final Refused SETTLED = new Refused(CHECK, Stories::settled);
    private static final Refused CROWDED = new Refused(CHECK, Stories::crowded);
    /** What the shelves of a settled house hold: R a rule, S shorts, L longs, - nothing. */
    private static final String HELD = "RSLSLRS-";
    private static final int[] FAR = {Integer.MIN_VALUE, Integer.MIN_VALUE + 1, Integer.MAX_VALUE};

    public static void main(String[] args) {
        keepShelves();
        keepWhats();
        keepOfNoRule();
        keepOfNoWish();
        keepNothing();
        keepFirstSixtyRows();
        keepNumbersOfEachEnd();
        keepAsItIsThen();
        keepInsteadOf();
        makeShelves();
        makeWhats();
        makeSizes();
        makeBelowNothing();
        makeAllNothing();
        elementShelves();
        elementNothingHeld();
        elementNoRow();
        elementPlaces();
        copyShelves();
        copyNothingHeld();
        copyOtherKind();
        copyBelowNothing();
        copyBeyond();
        copyWrapsAround();
        copyNone();
        copySeveralRefusals();
        copyOverItself();
        copyWholeRows();
        weightShelves();
        weightRefusals();
        weightOfEach();
        tossShelves();
        tossRefusals();
        tossOfEach();
        CHECK.end();
    }

    /** Promise 36: "-1", for a shelf out of range, whatever it is to get. */
    private static void keepShelves() {
        SETTLED.outside("keep's shelf, nothing", 0, 7, (x, v) -> x.keep(v, 0, 0));
        SETTLED.outside("keep's shelf, a rule", 0, 7, (x, v) -> x.keep(v, 1, 3));
        SETTLED.outside("keep's shelf, ends", 0, 7, (x, v) -> x.keep(v, 3, 3));
        SETTLED.outside("keep's shelf, numbers", 0, 7, (x, v) -> x.keep(v, 4, 1));
    }

    /** Promise 36: "what = 0 nothing; 1 RULE k; 3 ..; 4 ..": 2 is none. */
    private static void keepWhats() {
        for (int what : new int[] {-2, -1, 2, 5, 6, 1 << 16, 3 + (1 << 16), Integer.MIN_VALUE, Integer.MAX_VALUE}) {
            for (int shelf : new int[] {0, 1, 2, 7}) {
                SETTLED.due(-1, "what " + what + " on shelf " + shelf, x -> x.keep(shelf, what, 0));
            }
        }
        for (int what : new int[] {0, 1, 3, 4}) {
            CHECK.due("what " + what, Stories.settled().keep(7, what, 1), 0);
        }
    }

    /** Promise 36: "RULE k": -1 where there is none. */
    private static void keepOfNoRule() {
        for (int what : new int[] {1, 3}) {
            SETTLED.outside("rule of what " + what, 0, 3, (x, v) -> x.keep(0, what, v));
            CROWDED.outside("rule of 8 of what " + what, 0, 7, (x, v) -> x.keep(2, what, v));
            EMPTY.due(-1, "no rules, what " + what, x -> x.keep(0, what, 0));
        }
    }

    /** Promise 36: "WISH k": -1 where there is none. */
    private static void keepOfNoWish() {
        SETTLED.outside("wish", 0, 1, (x, v) -> x.keep(0, 4, v));
        SETTLED.outside("wish, where longs are held", 0, 1, (x, v) -> x.keep(2, 4, v));
        EMPTY.due(-1, "no wishes", x -> x.keep(0, 4, 0));
        HonestHouse x = Stories.plain(2, 2, 6);
        CHECK.due("the last of six", x.keep(0, 4, 5), 0);
        CHECK.due("none behind it", x.keep(0, 4, 6), -1);
    }

    /** Promise 36: "what = 0 nothing": k is no matter. */
    private static void keepNothing() {
        for (int k : new int[] {-1, 0, 8, Integer.MIN_VALUE, Integer.MAX_VALUE}) {
            HonestHouse x = Stories.settled();
            for (int d = 0; d < 8; d++) {
                int shelf = d;
                CHECK.due("k " + k, x.keep(d, 0, k), 0);
                CHECK.due("nothing to weigh", x.weight(d), -11);
                CHECK.due("nothing to toss", x.toss(d), -11);
                CHECK.notNow("nothing is held", () -> x.element(shelf, 0));
            }
            CHECK.due("none is left to copy", x.copy(1, 0, 3, 0, 0), -11);
        }
        HonestHouse y = Stories.empty();
        CHECK.due("where nothing is", y.keep(7, 0, 0), 0);
    }

    /** Promise 36: "ENDS of RULE k at the first 60 ROWS": all of them if there are not so many. */
    private static void keepFirstSixtyRows() {
        int[][] cases = {{2, 1, 1}, {4, 1, 1}, {2, 2, 4}, {3, 3, 27}, {2, 6, 36}, {3, 4, 60}, {4, 3, 60}, {4, 6, 60}};
        for (int[] c : cases) {
            HonestHouse x = Stories.plain(c[0], 5, c[1]);
            int rows = x.count(4);
            int size = c[2];
            x.rule(0);
            for (int row = 0; row < rows; row++) {
                x.put(0, row, row % 5);
            }
            CHECK.due("ends", x.keep(0, 3, 0), 0);
            for (int row = 0; row < size; row++) {
                CHECK.due("end of row " + row + " of " + rows, x.element(0, row), row % 5);
            }
            CHECK.notNow("none behind " + size + " of " + rows, () -> x.element(0, size));
            CHECK.due("all of them can be copied", x.copy(0, 0, 0, 0, size), size);
            CHECK.due("no more", x.copy(0, 0, 0, 0, size + 1), -13);
        }
        HonestHouse y = Stories.settled();
        // end 0: 5 times who says wish 0, person 1 twice; end 1: 7, and 4 times who says wish 1, person 1 twice
        int[] weighed = {0, 0, 1, 1, 0, 1, 1, 1};
        y.keep(0, 3, 2);
        for (int row = 0; row < 8; row++) {
            CHECK.due("a weighed rule's end of row " + row, y.element(0, row), weighed[row]);
        }
        y.keep(0, 3, 3);
        // tops 0 and 1, places 2 and 1: the third least
        CHECK.due("a middle rule's first", y.element(0, 0), 0);
        CHECK.due("a middle rule's last", y.element(0, 7), 1);
    }

    /** Promise 36: "numbers of WISH k": one of each end. */
    private static void keepNumbersOfEachEnd() {
        for (int m : new int[] {2, 3, 4, 5}) {
            HonestHouse x = Stories.plain(2, m, 2);
            x.worth(1, 0, -99);
            x.worth(1, m - 1, 99);
            CHECK.due("numbers", x.keep(0, 4, 1), 0);
            CHECK.due("the first", x.element(0, 0), -99);
            CHECK.due("the last", x.element(0, m - 1), 99);
            CHECK.notNow("none behind it", () -> x.element(0, m));
        }
    }

    /** "a RULE (as it is then)", and rows likewise: what changes later changes nothing on a shelf. */
    private static void keepAsItIsThen() {
        HonestHouse x = Stories.settled();
        x.keep(7, 1, 3);
        CHECK.due("places 2 and 1", x.weight(7), 516);
        x.middle(3, 0, 0);
        CHECK.due("as it was then", x.weight(7), 516);
        x.keep(6, 1, 3);
        CHECK.due("as it is now", x.weight(6), 514);
        CHECK.due("the other one still", x.weight(7), 516);
        CHECK.due("what is tossed stays", x.toss(7), 3);
        x.put(0, 0, 2);
        CHECK.due("the end at row 0 as it was", x.element(1, 0), 1);
        HonestHouse y = Stories.wishing();
        y.keep(0, 4, 0);
        y.worth(0, 0, -99);
        CHECK.due("the number as it was", y.element(0, 0), 5);
        y.keep(1, 4, 0);
        CHECK.due("the number as it is", y.element(1, 0), -99);
    }

    /** What a shelf held before is gone, its size, too. */
    private static void keepInsteadOf() {
        HonestHouse x = Stories.settled();
        for (int d = 0; d < 8; d++) {
            int shelf = d;
            CHECK.due("numbers", x.keep(d, 4, 0), 0);
            CHECK.due("the last", x.element(d, 2), 1);
            CHECK.notNow("none behind it", () -> x.element(shelf, 3));
            CHECK.due("no rule", x.weight(d), -12);
            CHECK.due("a rule", x.keep(d, 1, 2), 0);
            CHECK.notNow("no row", () -> x.element(shelf, 0));
            CHECK.due("its weight", x.weight(d), 224);
            CHECK.due("ends", x.keep(d, 3, 0), 0);
            CHECK.due("the last end", x.element(d, 7), 0);
            CHECK.notNow("no end behind it", () -> x.element(shelf, 8));
            CHECK.due("no rule", x.toss(d), -12);
        }
    }

    /** Promise 37: "-1", for a shelf out of range. */
    private static void makeShelves() {
        SETTLED.outside("make's shelf, shorts", 0, 7, (x, v) -> x.make(v, 3, 1));
        SETTLED.outside("make's shelf, longs", 0, 7, (x, v) -> x.make(v, 4, 60));
    }

    /** Promise 37: "(what 3, 4; ..)". */
    private static void makeWhats() {
        SETTLED.outside("make's what", 3, 4, (x, v) -> x.make(7, v, 2));
        SETTLED.outside("make's what, where shorts are", 3, 4, (x, v) -> x.make(1, v, 0));
        for (int what = 0; what < 3; what++) {
            int none = what;
            SETTLED.due(-1, "what " + what, x -> x.make(0, none, 1));
        }
    }

    /** Promise 37: "n up to 60". */
    private static void makeSizes() {
        for (int what : new int[] {3, 4}) {
            for (int n : new int[] {61, 62, 60 + (1 << 16), Integer.MAX_VALUE}) {
                SETTLED.due(-1, n + " of what " + what, x -> x.make(3, what, n));
            }
            for (int n : new int[] {0, 1, 59, 60}) {
                HonestHouse x = Stories.settled();
                CHECK.due(n + " of what " + what, x.make(2, what, n), 0);
                CHECK.due("all " + n + " are there", x.copy(2, 0, 2, 0, n), n);
                CHECK.due("no more than " + n, x.copy(2, 0, 2, 0, n + 1), -13);
                CHECK.notNow("none behind " + n, () -> x.element(2, n));
                CHECK.due("it is no rule", x.weight(2), -12);
            }
        }
    }

    /** Promise 37: "-14: n is below 0"; -1 goes before it. */
    private static void makeBelowNothing() {
        for (int n : new int[] {-1, -2, -60, -(1 << 16), Integer.MIN_VALUE, Integer.MIN_VALUE + 1}) {
            for (int what : new int[] {3, 4}) {
                SETTLED.due(-14, n + " of what " + what, x -> x.make(1, what, n));
                SETTLED.due(-14, n + " of what " + what + ", where nothing is", x -> x.make(7, what, n));
                SETTLED.due(-1, n + " on shelf 8", x -> x.make(8, what, n));
                SETTLED.due(-1, n + " on shelf -1", x -> x.make(-1, what, n));
            }
            SETTLED.due(-1, n + " of what 2", x -> x.make(1, 2, n));
            SETTLED.due(-1, n + " of what 5", x -> x.make(1, 5, n));
        }
        SETTLED.due(-1, "61 of what 2", x -> x.make(1, 2, 61));
        SETTLED.due(-1, "61 on shelf 8", x -> x.make(8, 3, 61));
    }

    /** Promise 37: "a ROW of n shorts, or longs, 0", whatever was there. */
    private static void makeAllNothing() {
        for (int what : new int[] {3, 4}) {
            HonestHouse x = Stories.plain(3, 2, 4);
            x.rule(0);
            for (int row = 0; row < 64; row++) {
                x.put(0, row, 1);
            }
            x.keep(0, 3, 0);
            CHECK.due("made anew", x.make(0, what, 60), 0);
            for (int i = 0; i < 60; i++) {
                CHECK.due("0 at place " + i, x.element(0, i), 0);
            }
        }
    }

    /** Promise 38: "IllegalArgumentException: no such SHELF", also where there would be no such place. */
    private static void elementShelves() {
        SETTLED.thrownOutside("element's shelf", 0, 7, (x, v) -> x.element(v, 0));
        for (int d : new int[] {-1, 8}) {
            for (int i : new int[] {-1, 60, Integer.MIN_VALUE, Integer.MAX_VALUE}) {
                SETTLED.noSuch("shelf " + d + ", place " + i, x -> x.element(d, i));
            }
        }
    }

    /** Promise 38: "IllegalStateException: nothing is held". */
    private static void elementNothingHeld() {
        for (int i : new int[] {-1, 0, 1, 60}) {
            SETTLED.notNow("nothing is held, place " + i, x -> x.element(7, i));
            EMPTY.notNow("in a new house, place " + i, x -> x.element(0, i));
        }
    }

    /** Promise 38: "it is no ROW". */
    private static void elementNoRow() {
        for (int i : new int[] {-1, 0, 1, 60}) {
            SETTLED.notNow("a paid rule, place " + i, x -> x.element(0, i));
            SETTLED.notNow("a table, place " + i, x -> x.element(5, i));
        }
    }

    /** Promise 38: "Element i, from 0"; "or has no such place". */
    private static void elementPlaces() {
        int[] sizes = {0, 8, 3, 5, 60, 0, 0, 0};
        for (int d : new int[] {1, 2, 3, 4, 6}) {
            int size = sizes[d];
            if (size > 0) {
                SETTLED.due(d == 1 ? 1 : d == 2 ? 5 : 0, "the first of shelf " + d, x -> x.element(d, 0));
                SETTLED.due(d == 2 ? 1 : 0, "the last of shelf " + d, x -> x.element(d, size - 1));
            }
            SETTLED.notNow("behind the last of shelf " + d, x -> x.element(d, size));
            SETTLED.notNow("before the first of shelf " + d, x -> x.element(d, -1));
            for (int i : FAR) {
                SETTLED.notNow("place " + i + " of shelf " + d, x -> x.element(d, i));
            }
        }
    }

    /** Promise 39: "-1", for either shelf, whatever else is wrong. */
    private static void copyShelves() {
        SETTLED.outside("copy's d", 0, 7, (x, v) -> x.copy(v, 0, 1, 0, 1));
        SETTLED.outside("copy's e", 0, 7, (x, v) -> x.copy(1, 0, v, 0, 1));
        SETTLED.outside("copy's d and e", 0, 7, (x, v) -> x.copy(v, 0, v, 0, 1));
    }

    /** Promise 39: "-11: of either". */
    private static void copyNothingHeld() {
        for (int d = 0; d < 8; d++) {
            int shelf = d;
            SETTLED.due(-11, "from nothing to shelf " + d, x -> x.copy(7, 0, shelf, 0, 0));
            SETTLED.due(-11, "from shelf " + d + " to nothing", x -> x.copy(shelf, 0, 7, 0, 0));
        }
        EMPTY.due(-11, "in a new house", x -> x.copy(0, 0, 1, 0, 0));
    }

    /** Promise 39: "-12: one is no ROW, or they are not of one kind". */
    private static void copyOtherKind() {
        for (int d = 0; d < 7; d++) {
            for (int e = 0; e < 7; e++) {
                int from = d;
                int to = e;
                boolean taken = HELD.charAt(d) == HELD.charAt(e) && HELD.charAt(d) != 'R';
                SETTLED.due(taken ? 0 : -12, "from " + d + " to " + e, x -> x.copy(from, 0, to, 0, 0));
            }
        }
    }

    /** Promise 39: "-13: n, i or j is below 0". */
    private static void copyBelowNothing() {
        for (int v : new int[] {-1, -2, -8, -(1 << 16), Integer.MIN_VALUE, Integer.MIN_VALUE + 1}) {
            SETTLED.due(-13, "n " + v, x -> x.copy(1, 0, 3, 0, v));
            SETTLED.due(-13, "n " + v + " from behind", x -> x.copy(1, 8, 3, 5, v));
            SETTLED.due(-13, "i " + v, x -> x.copy(1, v, 3, 0, 1));
            SETTLED.due(-13, "i " + v + ", none", x -> x.copy(1, v, 3, 0, 0));
            SETTLED.due(-13, "j " + v, x -> x.copy(1, 0, 3, v, 1));
            SETTLED.due(-13, "j " + v + ", none", x -> x.copy(1, 0, 3, v, 0));
            SETTLED.due(-13, "i and j " + v + ", as many as would reach", x -> x.copy(1, v, 3, v, 2));
            SETTLED.due(-13, "all " + v, x -> x.copy(1, v, 3, v, v));
        }
    }

    /** Promise 39: "or beyond either's end": shelf 1 has eight places, shelf 3 five. */
    private static void copyBeyond() {
        int[][] taken = {{0, 0, 5}, {3, 0, 5}, {7, 4, 1}, {4, 1, 4}, {0, 4, 1}, {7, 0, 1}};
        for (int[] c : taken) {
            HonestHouse x = Stories.settled();
            CHECK.due("i " + c[0] + " j " + c[1] + " n " + c[2], x.copy(1, c[0], 3, c[1], c[2]), c[2]);
        }
        int[][] beyond = {{0, 0, 6}, {4, 0, 5}, {8, 0, 1}, {7, 0, 2}, {0, 5, 1}, {0, 4, 2}, {0, 1, 5}, {9, 0, 0},
            {0, 6, 0}};
        for (int[] c : beyond) {
            SETTLED.due(-13, "i " + c[0] + " j " + c[1] + " n " + c[2], x -> x.copy(1, c[0], 3, c[1], c[2]));
        }
        HonestHouse y = Stories.settled();
        CHECK.due("five to the longer row's last places", y.copy(3, 0, 1, 3, 5), 5);
        SETTLED.due(-13, "one too far in the longer row", x -> x.copy(3, 0, 1, 4, 5));
        SETTLED.due(-13, "more than the shorter row has", x -> x.copy(3, 0, 1, 0, 6));
    }

    /** Sums of a place and a size that would wrap around are beyond the end. */
    private static void copyWrapsAround() {
        int most = Integer.MAX_VALUE;
        SETTLED.due(-13, "i", x -> x.copy(1, most, 3, 0, 1));
        SETTLED.due(-13, "j", x -> x.copy(1, 0, 3, most, 1));
        SETTLED.due(-13, "n", x -> x.copy(1, 0, 3, 0, most));
        SETTLED.due(-13, "i and n", x -> x.copy(1, most, 3, 0, most));
        SETTLED.due(-13, "j and n", x -> x.copy(1, 0, 3, most, most));
        SETTLED.due(-13, "i 1 and n", x -> x.copy(1, 1, 3, 1, most));
        SETTLED.due(-13, "i and j and n", x -> x.copy(1, most, 3, most, most));
        SETTLED.due(-13, "i and j, two", x -> x.copy(1, most, 3, most, 2));
        SETTLED.due(-13, "n below 0 and i above", x -> x.copy(1, most, 3, most, Integer.MIN_VALUE));
        SETTLED.due(-13, "n such that i and it come to 0", x -> x.copy(1, 3, 3, 3, -3));
        SETTLED.due(-13, "in one row", x -> x.copy(4, most, 4, most, most));
    }

    /** n 0 is taken, also just behind the last place, and changes nothing. */
    private static void copyNone() {
        SETTLED.due(0, "from the first", x -> x.copy(1, 0, 3, 0, 0));
        SETTLED.due(0, "from behind the last to behind the last", x -> x.copy(1, 8, 3, 5, 0));
        SETTLED.due(0, "in a row without places", x -> x.copy(6, 0, 6, 0, 0));
        SETTLED.due(0, "to a row without places", x -> x.copy(1, 8, 6, 0, 0));
        SETTLED.due(-13, "one from a row without places", x -> x.copy(6, 0, 1, 0, 1));
        SETTLED.due(-13, "one to a row without places", x -> x.copy(1, 0, 6, 0, 1));
        SETTLED.due(-13, "none behind a row without places", x -> x.copy(6, 1, 1, 0, 0));
    }

    /** "Answers of several refusals are the first one": -1, -11, -12, -13. */
    private static void copySeveralRefusals() {
        SETTLED.due(-1, "no shelf, nothing held", x -> x.copy(8, 0, 7, 0, 0));
        SETTLED.due(-1, "nothing held, no shelf", x -> x.copy(7, 0, -1, 0, 0));
        SETTLED.due(-1, "no shelf, no row", x -> x.copy(-1, 0, 0, 0, 0));
        SETTLED.due(-1, "no row, no shelf", x -> x.copy(0, 0, 8, 0, 0));
        SETTLED.due(-1, "no shelf, no place", x -> x.copy(8, -1, 1, 99, 1));
        SETTLED.due(-1, "no place, no shelf", x -> x.copy(1, 99, 8, -1, 1));
        SETTLED.due(-11, "nothing held, no row", x -> x.copy(7, 0, 0, 0, 0));
        SETTLED.due(-11, "no row, nothing held", x -> x.copy(5, 0, 7, 0, 0));
        SETTLED.due(-11, "nothing held, no place", x -> x.copy(7, -1, 1, 0, 0));
        SETTLED.due(-11, "no place, nothing held", x -> x.copy(1, 9, 7, 0, -1));
        SETTLED.due(-12, "no row, no place", x -> x.copy(0, 0, 1, 9, 0));
        SETTLED.due(-12, "no place, no row", x -> x.copy(1, -1, 5, 0, 0));
        SETTLED.due(-12, "another kind, no place", x -> x.copy(1, 9, 2, 0, 0));
        SETTLED.due(-12, "another kind, n -1", x -> x.copy(4, 0, 3, 0, -1));
        SETTLED.due(-12, "rules, n -1", x -> x.copy(0, 0, 5, 0, -1));
    }

    /** "(as they all were before)": a row over itself, in both directions. */
    private static void copyOverItself() {
        int[][] numbers = {{11, 22, 33, 44, 55}};
        int[][] due = {{11, 11, 22, 33, 44}, {22, 33, 44, 55, 55}, {11, 22, 33, 44, 55}, {11, 22, 11, 22, 33}};
        int[][] copies = {{0, 1, 4}, {1, 0, 4}, {0, 0, 5}, {0, 2, 3}};
        for (int k = 0; k < 4; k++) {
            HonestHouse x = Stories.of(2, numbers);
            x.keep(0, 4, 0);
            CHECK.due("longs", x.copy(0, copies[k][0], 0, copies[k][1], copies[k][2]), copies[k][2]);
            for (int i = 0; i < 5; i++) {
                CHECK.due("copy " + k + ", place " + i, x.element(0, i), due[k][i]);
            }
        }
        HonestHouse y = Stories.plain(2, 5, 3);
        y.rule(0);
        for (int row = 0; row < 9; row++) {
            y.put(0, row, row % 5);
        }
        y.keep(0, 3, 0);
        CHECK.due("shorts", y.copy(0, 0, 0, 1, 8), 8);
        CHECK.due("the first stays", y.element(0, 0), 0);
        for (int i = 1; i < 9; i++) {
            CHECK.due("shorts, place " + i, y.element(0, i), (i - 1) % 5);
        }
    }

    /** All sixty places, and none beside those that are meant. */
    private static void copyWholeRows() {
        HonestHouse x = Stories.of(2, new int[][] {{-99, 99}});
        x.keep(0, 4, 0);
        x.make(1, 4, 60);
        x.make(2, 4, 60);
        CHECK.due("two to the last places", x.copy(0, 0, 1, 58, 2), 2);
        CHECK.due("the place before", x.element(1, 57), 0);
        CHECK.due("the last but one", x.element(1, 58), -99);
        CHECK.due("the last", x.element(1, 59), 99);
        CHECK.due("sixty", x.copy(1, 0, 2, 0, 60), 60);
        CHECK.due("the last of the other", x.element(2, 59), 99);
        CHECK.due("sixty-one", x.copy(1, 0, 2, 0, 61), -13);
        CHECK.due("what is copied stays where it was", x.element(1, 59), 99);
        CHECK.due("back", x.copy(2, 59, 0, 0, 1), 1);
        CHECK.due("there", x.element(0, 0), 99);
    }

    /** Promise 40: "-1", for a shelf out of range. */
    private static void weightShelves() {
        SETTLED.outside("weight's shelf", 0, 7, (x, v) -> x.weight(v));
    }

    /** Promise 40: "-11, -12". */
    private static void weightRefusals() {
        for (int d = 0; d < 8; d++) {
            int shelf = d;
            int want = d == 0 ? 111 : d == 5 ? 10 : d == 7 ? -11 : -12;
            SETTLED.due(want, "weight of shelf " + d, x -> x.weight(shelf));
        }
    }

    /** Promise 40, for each number that a rule can have. */
    private static void weightOfEach() {
        int[] due = {10, 111, 224, 516, 14, 115, 232, 517};
        HonestHouse x = Stories.crowded();
        for (int rule = 0; rule < 8; rule++) {
            x.keep(rule, 1, rule);
        }
        for (int rule = 0; rule < 8; rule++) {
            CHECK.due("weight of rule " + rule, x.weight(rule), due[rule]);
        }
        HonestHouse y = Stories.plain(4, 5, 1);
        for (int rule = 0; rule < 8; rule++) {
            y.rule(3);
            for (int i = 0; i < 3; i++) {
                y.middle(rule, i, 4);
            }
            y.keep(rule, 1, rule);
            CHECK.due("places at their last", y.weight(rule), rule + 10 + 500 + 12);
        }
    }

    /** Promise 41: "-1", for a shelf out of range. */
    private static void tossShelves() {
        SETTLED.outside("toss's shelf", 0, 7, (x, v) -> x.toss(v));
    }

    /** Promise 41: "-11, -12; -15: TABLES have none". */
    private static void tossRefusals() {
        for (int d = 0; d < 8; d++) {
            int shelf = d;
            int want = d == 0 ? 1 : d == 5 ? -15 : d == 7 ? -11 : -12;
            SETTLED.due(want, "toss of shelf " + d, x -> x.toss(shelf));
        }
    }

    /** Promise 41, for each number that a rule can have; what is thrown is caught. */
    private static void tossOfEach() {
        for (int kind = 0; kind < 4; kind++) {
            HonestHouse x = Stories.plain(2, 2, 1);
            for (int rule = 0; rule < 8; rule++) {
                x.rule(kind);
                x.keep(rule, 1, rule);
                CHECK.due("toss of rule " + rule + " of kind " + kind, x.toss(rule), kind == 0 ? -15 : rule);
            }
        }
        HonestHouse y = Stories.plain(2, 2, 1);
        y.rule(0);
        y.honest(0);
        y.keep(0, 1, 1);
        CHECK.due("what honest() brought is paid", y.toss(0), 1);
    }
}
