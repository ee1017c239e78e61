/** Edges of promises 20 to 23: span, round, price, honest. */
public final class EdgesRoundsTest {
    private static final Check CHECK = new Check();
    private static final Refused SETTLED = new Refused(CHECK, Stories::settled);
    private static final Refused CROWDED = new Refused(CHECK, Stories::crowded);

    public static void main(String[] args) {
        spanRanges();
        spanNotComing();
        spanBothFaults();
        spanLimits();
        spanLeast();
        spanToItself();
        spanOwnWish();
        roundRanges();
        roundNone();
        roundFirst();
        roundOfNothing();
        roundLimits();
        roundOnceAtMost();
        roundsThroughAllWays();
        priceRanges();
        priceNotComing();
        priceWithRound();
        priceBothFaults();
        priceOfTheLeast();
        priceByOtherEnds();
        priceBelowNothing();
        honestRanges();
        honestFull();
        honestNone();
        honestComes();
        honestOfPaid();
        CHECK.end();
    }

    /** 2 people; person 0 brings about an end of their own for each wish, whatever person 1 says. */
    private static HonestHouse bringing(int[][] numbers, int... ends) {
        HonestHouse x = Stories.of(2, numbers);
        x.rule(0);
        for (int row = 0; row < x.count(4); row++) {
            x.put(0, row, ends[row % ends.length]);
        }
        return x;
    }

    /** Promise 20: "IllegalArgumentException: no such RULE, ROW, person, END". */
    private static void spanRanges() {
        SETTLED.thrownOutside("span's rule", 0, 3, (x, v) -> x.span(v, 0, 0, 0, 0));
        SETTLED.thrownOutside("span's e", 0, 2, (x, v) -> x.span(0, 0, 0, v, 0));
        SETTLED.thrownOutside("span's f", 0, 2, (x, v) -> x.span(0, 0, 0, 0, v));
        for (int rule = 0; rule < 4; rule++) {
            int of = rule;
            SETTLED.thrownOutside("row of rule " + rule, 0, 7, (x, v) -> x.span(of, v, 0, 0, 0));
            SETTLED.thrownOutside("person of rule " + rule, 0, 2, (x, v) -> x.span(of, 0, v, 0, 0));
        }
    }

    /** Promise 20: "IllegalStateException: e or f doesn't come about". */
    private static void spanNotComing() {
        SETTLED.due(-5, "both come", x -> x.span(0, 0, 0, 0, 1));
        SETTLED.due(-4, "both come, the other way", x -> x.span(0, 0, 0, 1, 0));
        SETTLED.notNow("e doesn't", x -> x.span(0, 0, 0, 2, 1));
        SETTLED.notNow("f doesn't", x -> x.span(0, 0, 0, 1, 2));
        SETTLED.notNow("neither does", x -> x.span(0, 0, 0, 2, 2));
        SETTLED.notNow("not with others' words of the last row", x -> x.span(0, 7, 0, 0, 1));
        CROWDED.notNow("e doesn't, of an empty table", x -> x.span(4, 0, 2, 1, 0));
    }

    /** Where both exceptions could be thrown, what is no such thing goes first, as -1 does. */
    private static void spanBothFaults() {
        SETTLED.noSuch("no such rule", x -> x.span(4, 0, 0, 2, 2));
        SETTLED.noSuch("no such row", x -> x.span(0, 8, 0, 2, 2));
        SETTLED.noSuch("row -1", x -> x.span(0, -1, 0, 2, 2));
        SETTLED.noSuch("no such person", x -> x.span(0, 0, 3, 2, 2));
        SETTLED.noSuch("person -1", x -> x.span(0, 0, -1, 2, 2));
        SETTLED.noSuch("no such e, f doesn't come", x -> x.span(0, 0, 0, 3, 2));
        SETTLED.noSuch("no such f, e doesn't come", x -> x.span(0, 0, 0, 2, 3));
        SETTLED.noSuch("e -1, f doesn't come", x -> x.span(0, 0, 0, -1, 2));
        SETTLED.noSuch("f -1, e doesn't come", x -> x.span(0, 0, 0, 2, -1));
    }

    /** Numbers at their limits. */
    private static void spanLimits() {
        int[][] numbers = {{99, -99}, {-99, 99}};
        HonestHouse x = bringing(numbers, 0, 1);
        CHECK.due("the greatest", x.span(0, 0, 0, 0, 1), 198);
        CHECK.due("the greatest, the other way", x.span(0, 0, 0, 1, 0), 198);
        HonestHouse y = bringing(numbers, 1, 0);
        CHECK.due("the least", y.span(0, 0, 0, 0, 1), -198);
        CHECK.due("the least, the other way", y.span(0, 0, 0, 1, 0), -198);
    }

    /** "the least, over WISHES of that person by which f comes", whichever it is; other wishes don't count. */
    private static void spanLeast() {
        for (int least = 0; least < 5; least++) {
            int[][] numbers = new int[6][5];
            for (int wish = 0; wish < 5; wish++) {
                numbers[wish][4] = wish == least ? 5 : 9 - wish;
                numbers[wish][0] = wish == least ? 1 : 0;
            }
            numbers[5][0] = 3;
            numbers[5][4] = -99;
            HonestHouse x = bringing(numbers, 4, 4, 4, 4, 4, 0);
            CHECK.due("wish " + least, x.span(0, 0, 0, 0, 4), 4);
            CHECK.due("of one wish", x.span(0, 35, 0, 4, 0), 102);
        }
    }

    /** From an end to itself it is 0, if it comes about. */
    private static void spanToItself() {
        HonestHouse x = bringing(new int[][] {{9, 4, 7}, {2, 8, 7}}, 2, 1);
        CHECK.due("end 1", x.span(0, 0, 0, 1, 1), 0);
        CHECK.due("end 2", x.span(0, 0, 0, 2, 2), 0);
        CHECK.notNow("end 0 doesn't come", () -> x.span(0, 0, 0, 0, 0));
        CHECK.due("person 1 at person 0's wish 1", x.span(0, 1, 1, 1, 1), 0);
        CHECK.notNow("end 2 doesn't come by person 1 there", () -> x.span(0, 1, 1, 2, 2));
    }

    /** Promise 20: "the person's own WISH there doesn't matter". */
    private static void spanOwnWish() {
        HonestHouse x = Stories.settled();
        for (int row = 0; row < 8; row += 4) {
            for (int own = 0; own < 2; own++) {
                int at = row + own;
                if (row == 0) {
                    CHECK.due("own wish " + own, x.span(0, at, 0, 0, 1), -5);
                } else {
                    CHECK.notNow("own wish " + own + " with others' other words", () -> x.span(0, at, 0, 0, 1));
                }
            }
        }
        CHECK.due("the last person, own wish 0", x.span(0, 0, 2, 0, 1), -5);
        CHECK.due("the last person, own wish 1", x.span(0, 4, 2, 0, 1), -5);
    }

    /** Promise 21: "-1", for a rule and a what out of range, also where payments are there. */
    private static void roundRanges() {
        SETTLED.outside("round's rule", 0, 3, (x, v) -> x.round(v, 0));
        SETTLED.outside("round's what", 0, 2, (x, v) -> x.round(0, v));
        CROWDED.outside("what where payments are there", 0, 2, (x, v) -> x.round(4, v));
        CROWDED.outside("round's rule of 8", 0, 7, (x, v) -> x.round(v, 2));
    }

    /** Promise 21: "-2: payments are there". */
    private static void roundNone() {
        for (int what = 0; what < 3; what++) {
            int part = what;
            for (int rule = 4; rule < 7; rule++) {
                int of = rule;
                CROWDED.due(-2, "what " + what + " of rule " + rule, x -> x.round(of, part));
            }
        }
    }

    /** Promise 21: "by PEOPLE, then ROWS", "their own WISH in it is 0": each row in which someone has wish 0. */
    private static void roundFirst() {
        for (int row = 0; row < 8; row++) {
            HonestHouse x = Stories.of(3, new int[][] {{5, 0}, {0, 4}});
            x.rule(0);
            x.put(0, row, 1);
            boolean none = row == 7;
            int person = Integer.numberOfTrailingZeros(~row);
            CHECK.due("person of row " + row, x.round(0, 0), none ? -2 : person);
            CHECK.due("row " + row, x.round(0, 1), none ? -2 : row);
            CHECK.due("-5 and -4", x.round(0, 2), none ? -2 : 9);
        }
        HonestHouse y = Stories.of(3, new int[][] {{5, 0}, {0, 4}});
        y.rule(0);
        y.put(0, 5, 1);
        CHECK.due("person 1", y.round(0, 0), 1);
        CHECK.due("at row 5", y.round(0, 1), 5);
        y.put(0, 6, 1);
        CHECK.due("person 0 goes first", y.round(0, 0), 0);
        CHECK.due("though at a row behind", y.round(0, 1), 6);
        for (int what = 0; what < 3; what++) {
            int part = what;
            SETTLED.due(new int[] {0, 0, 9}[what], "what " + what + " changes nothing", x -> x.round(0, part));
        }
    }

    /** "come to less than 0": a round of just 0 is none, one of -1 is. */
    private static void roundOfNothing() {
        HonestHouse x = bringing(new int[][] {{5, 0}, {5, 0}}, 0, 1);
        CHECK.due("there", x.span(0, 0, 0, 0, 1), -5);
        CHECK.due("and back", x.span(0, 0, 0, 1, 0), 5);
        CHECK.due("0 in all", x.round(0, 0), -2);
        CHECK.due("a price is there", x.price(0, 0, 0, 1), -5);
        CHECK.due("payments are there", x.honest(0), 1);
        CHECK.due("they are honest", x.lies(1), 0);
        HonestHouse y = bringing(new int[][] {{5, 0}, {6, 0}}, 0, 1);
        CHECK.due("-6 and 5: person", y.round(0, 0), 0);
        CHECK.due("-6 and 5: row", y.round(0, 1), 0);
        CHECK.due("-6 and 5: as 0 less it", y.round(0, 2), 1);
        CHECK.notNow("no price", () -> y.price(0, 0, 0, 1));
        CHECK.due("no payments", y.honest(0), -3);
    }

    /** Rounds through two ends and through all five, of numbers at their limits. */
    private static void roundLimits() {
        HonestHouse x = bringing(new int[][] {{99, -99}, {-99, 99}}, 1, 0);
        CHECK.due("two ends", x.round(0, 2), 396);
        int[][] five = new int[5][5];
        for (int wish = 0; wish < 5; wish++) {
            for (int end = 0; end < 5; end++) {
                five[wish][end] = end == (wish + 4) % 5 ? 99 : -99;
            }
        }
        HonestHouse y = bringing(five, 0, 1, 2, 3, 4);
        CHECK.due("to the next end", y.span(0, 0, 0, 4, 0), -198);
        CHECK.due("to the one behind", y.span(0, 0, 0, 1, 0), 0);
        CHECK.due("five ends", y.round(0, 2), 990);
    }

    /** "a round there through each END once at most": two rounds apart don't come together, nor one twice. */
    private static void roundOnceAtMost() {
        int[][] numbers = {{5, 0, -90, -90}, {0, 4, -90, -90}, {-90, -90, 7, 0}, {-90, -90, 0, 6}};
        HonestHouse x = bringing(numbers, 1, 0, 3, 2);
        CHECK.due("the first person", x.round(0, 0), 0);
        CHECK.due("the first row", x.round(0, 1), 0);
        CHECK.due("the least of -9 and -13", x.round(0, 2), 13);
        // 0 to 3: -2, 3 to 0: -3, 2 to 3: -7, 3 to 2: -6, and far between 0 and 2: through 3 twice it would be -18
        HonestHouse y = bringing(new int[][] {{0, 0, -50, 3}, {2, 0, 7, 0}, {-50, 0, 0, 6}}, 0, 3, 2);
        CHECK.due("the least of -5 and -13", y.round(0, 2), 13);
    }

    /** Each round that there can be through two to five ends, in each direction, as the only one. */
    private static void roundsThroughAllWays() {
        int[] way = new int[5];
        for (int first = 0; first < 5; first++) {
            way[0] = first;
            goOn(way, 1, 1 << first);
        }
    }

    /** A round is told from its least end on. */
    private static void goOn(int[] way, int length, int seen) {
        if (length > 1) {
            oneRound(way, length);
        }
        for (int next = way[0] + 1; next < 5; next++) {
            if ((seen >> next & 1) == 0) {
                way[length] = next;
                goOn(way, length + 1, seen | 1 << next);
            }
        }
    }

    /** Each step of the way comes to -1, or the first one to just so much that all are 0; others are far. */
    private static void oneRound(int[] way, int length) {
        StringBuilder told = new StringBuilder("round");
        int[] ends = new int[length];
        int[][] numbers = new int[length][5];
        for (int i = 0; i < length; i++) {
            told.append(' ').append(way[i]);
            ends[i] = way[i];
            java.util.Arrays.fill(numbers[i], -90);
            numbers[i][way[i]] = 0;
            numbers[i][way[(i + length - 1) % length]] = 1;
        }
        HonestHouse x = bringing(numbers, ends);
        CHECK.due(told + ": person", x.round(0, 0), 0);
        CHECK.due(told + ": row", x.round(0, 1), 0);
        CHECK.due(told + ": sum", x.round(0, 2), length);
        CHECK.due(told + ": no payments", x.honest(0), -3);
        for (int end : ends) {
            CHECK.notNow(told + ": no price", () -> x.price(0, 0, 0, end));
        }
        numbers[0][way[length - 1]] = 1 - length;
        HonestHouse y = bringing(numbers, ends);
        CHECK.due(told + ": of 0", y.round(0, 2), -2);
        for (int i = 0; i < length; i++) {
            CHECK.due(told + ": price " + i, y.price(0, 0, 0, ends[i]), -i);
        }
        CHECK.due(told + ": payments are there", y.honest(0), 1);
        CHECK.due(told + ": they are honest", y.lies(1), 0);
        for (int i = 0; i < length; i++) {
            CHECK.due(told + ": payment " + i, y.pays(1, i, 0), -i);
        }
    }

    /** Promise 22: "IllegalArgumentException: as span()". */
    private static void priceRanges() {
        SETTLED.thrownOutside("price's rule", 0, 3, (x, v) -> x.price(v, 7, 0, 0));
        SETTLED.thrownOutside("price's end", 0, 2, (x, v) -> x.price(0, 7, 0, v));
        for (int rule = 0; rule < 4; rule++) {
            int of = rule;
            SETTLED.thrownOutside("row of rule " + rule, 0, 7, (x, v) -> x.price(of, v, 0, 0));
            SETTLED.thrownOutside("person of rule " + rule, 0, 2, (x, v) -> x.price(of, 7, v, 0));
        }
    }

    /** Promise 22: "IllegalStateException: the END doesn't come about". */
    private static void priceNotComing() {
        SETTLED.due(0, "end 0 comes", x -> x.price(0, 7, 0, 0));
        SETTLED.notNow("end 1 doesn't", x -> x.price(0, 7, 0, 1));
        SETTLED.notNow("end 2 doesn't", x -> x.price(0, 7, 0, 2));
        CROWDED.notNow("end 2 doesn't, of an empty table", x -> x.price(4, 0, 2, 2));
    }

    /** Promise 22: "or there is a round there whose LENGTHS come to less than 0"; elsewhere it is no matter. */
    private static void priceWithRound() {
        for (int person = 0; person < 3; person++) {
            int who = person;
            for (int end = 0; end < 2; end++) {
                int of = end;
                SETTLED.notNow("a round, person " + person + ", end " + end, x -> x.price(0, 0, who, of));
            }
            SETTLED.notNow("their own wish 1 in it", x -> x.price(0, 1 << who, who, 0));
            SETTLED.due(0, "no round there", x -> x.price(0, 7, who, 0));
            SETTLED.notNow("a round, and an end that doesn't come", x -> x.price(0, 0, who, 2));
        }
        HonestHouse x = bringing(new int[][] {{5, 0, 0}, {0, 4, 0}, {0, 0, 9}}, 1, 0, 2);
        CHECK.notNow("an end that is not on the round", () -> x.price(0, 0, 0, 2));
        CHECK.due("person 1 has none", x.price(0, 2, 1, 2), 0);
    }

    /** No such thing goes first. */
    private static void priceBothFaults() {
        SETTLED.noSuch("no such rule", x -> x.price(4, 0, 0, 2));
        SETTLED.noSuch("no such row", x -> x.price(0, 8, 0, 2));
        SETTLED.noSuch("no such person at a row with a round", x -> x.price(0, 0, 3, 2));
        SETTLED.noSuch("person -1 at a row with a round", x -> x.price(0, 0, -1, 0));
        SETTLED.noSuch("no such end at a row with a round", x -> x.price(0, 0, 0, 3));
        SETTLED.noSuch("end -1 at a row with a round", x -> x.price(0, 0, 0, -1));
    }

    /** "from the least of these ENDS": it costs 0, whichever it is. */
    private static void priceOfTheLeast() {
        int[][] numbers = {{0, 0, 8, 1, 2}, {0, 0, 1, 9, 3}, {0, 0, 1, 2, 9}};
        HonestHouse x = bringing(numbers, 2, 3, 4);
        CHECK.notNow("end 0 doesn't come", () -> x.price(0, 0, 0, 0));
        CHECK.notNow("end 1 doesn't come", () -> x.price(0, 0, 0, 1));
        CHECK.due("the least is end 2", x.price(0, 0, 0, 2), 0);
        CHECK.due("end 3: 9 less 1", x.price(0, 0, 0, 3), 8);
        CHECK.due("end 4: 9 less 1 at once, 8 and 7 by end 3", x.price(0, 0, 0, 4), 8);
        HonestHouse y = bringing(numbers, 4, 4, 4);
        CHECK.due("the one end, the last", y.price(0, 8, 0, 4), 0);
    }

    /** "the least sum of LENGTHS of a way to it": at once, or through as many ends as there are. */
    private static void priceByOtherEnds() {
        int[][] numbers = new int[5][5];
        for (int wish = 0; wish < 5; wish++) {
            for (int end = 0; end < 5; end++) {
                // to the end of a wish it costs 2 from the one before, and 20 from others
                numbers[wish][end] = end == wish ? 10 : end == wish - 1 ? 8 : -10;
            }
        }
        HonestHouse x = bringing(numbers, 0, 1, 2, 3, 4);
        CHECK.due("end 4 at once", x.span(0, 0, 0, 0, 4), 20);
        for (int end = 0; end < 5; end++) {
            CHECK.due("end " + end + " step by step", x.price(0, 0, 0, end), 2 * end);
        }
        CHECK.due("payments", x.honest(0), 1);
        for (int wish = 0; wish < 5; wish++) {
            CHECK.due("wish " + wish + " pays", x.pays(1, wish, 0), 2 * wish);
        }
        HonestHouse y = bringing(new int[][] {{0, 7}, {5, 0}}, 1, 0);
        CHECK.due("wish 0 brings the dearer end", y.price(0, 0, 0, 1), 7);
        CHECK.due("payments again", y.honest(0), 1);
        CHECK.due("wish 0 pays", y.pays(1, 0, 0), 7);
        CHECK.due("wish 0 pays at the other row, too", y.pays(1, 2, 0), 7);
        CHECK.due("wish 1 pays nothing", y.pays(1, 1, 0), 0);
    }

    /** A price may be below 0, at its least -198 for one step, and is paid as it is. */
    private static void priceBelowNothing() {
        HonestHouse x = bringing(new int[][] {{5, 0}, {3, 0}}, 0, 1);
        CHECK.due("3 for end 0, so -3 for end 1", x.price(0, 0, 0, 1), -3);
        CHECK.due("it comes", x.honest(0), 1);
        CHECK.due("who says wish 1 is paid 3", x.pays(1, 1, 0), -3);
        CHECK.due("with others' other words, too", x.pays(1, 3, 0), -3);
        CHECK.due("no lies", x.lies(1), 0);
        CHECK.due("least", x.budget(1, false), -3);
        HonestHouse y = bringing(new int[][] {{99, -99}, {99, -99}}, 0, 1);
        CHECK.due("the least price", y.price(0, 0, 0, 1), -198);
    }

    /** Promise 23: "-1". */
    private static void honestRanges() {
        SETTLED.outside("honest's rule", 0, 3, (x, v) -> x.honest(v));
        CROWDED.outside("honest's rule of 8", 0, 7, (x, v) -> x.honest(v));
    }

    /** Promise 23: "-2: there are 8": it goes before -3, and behind -1. */
    private static void honestFull() {
        CROWDED.due(-2, "payments would be there", x -> x.honest(4));
        CROWDED.due(-2, "no payments, too", x -> x.honest(0));
        CROWDED.due(-1, "no such rule, too", x -> x.honest(8));
        CROWDED.due(-1, "rule -1, too", x -> x.honest(-1));
        HonestHouse x = Stories.plain(2, 2, 2);
        x.rule(0);
        for (int rule = 1; rule < 8; rule++) {
            CHECK.due("its number", x.honest(rule - 1), rule);
        }
        CHECK.due("a ninth", x.honest(7), -2);
        CHECK.due("eight", x.count(3), 8);
    }

    /** Promise 23: "-3: there are none such". */
    private static void honestNone() {
        SETTLED.due(-3, "a round below 0", x -> x.honest(0));
        for (int row = 0; row < 7; row++) {
            int at = row;
            Refused refused = new Refused(CHECK, () -> {
                HonestHouse x = Stories.of(3, new int[][] {{5, 0}, {0, 4}});
                x.rule(1);
                x.put(0, at, 1);
                return x;
            });
            refused.due(-3, "a round at row " + row, x -> x.honest(0));
        }
    }

    /** Promise 23: "ENDS of another one, and for payments PRICES, at each ROW, for each person". */
    private static void honestComes() {
        for (int kind = 0; kind < 4; kind++) {
            HonestHouse x = Stories.of(3, new int[][] {{5, 0, 1}, {0, 4, 4}, {-3, 2, 6}});
            x.rule(kind);
            x.gift(0, 2, -1, 3);
            x.middle(0, 0, 2);
            CHECK.due("it comes", x.honest(0), 1);
            for (int row = 0; row < 27; row++) {
                CHECK.due("its end", x.end(1, row), x.end(0, row));
                for (int person = 0; person < 3; person++) {
                    CHECK.due("the price", x.pays(1, row, person), x.price(0, row, person, x.end(0, row)));
                }
            }
            CHECK.due("it is paid: its payments change", x.pay(1, 26, 2, 9999), 1);
            CHECK.due("it is paid: no gifts", x.gift(1, 0, -1, 1), -4);
            CHECK.due("it is paid: no places", x.middle(1, 0, 1), -4);
            CHECK.due("another end of it", x.put(1, 0, 2), x.end(0, 0));
            CHECK.holds("leaves the first one as it is", x.end(0, 0) != 2);
        }
    }

    /** "(payments left out)": what is paid already is no matter. */
    private static void honestOfPaid() {
        HonestHouse x = Stories.of(2, new int[][] {{5, 0}, {0, 4}});
        x.rule(1);
        x.pay(0, 0, 0, 9999);
        x.pay(0, 3, 1, -9999);
        CHECK.holds("there are lies", x.lies(0) > 0);
        CHECK.due("no round", x.round(0, 0), -2);
        CHECK.due("it comes", x.honest(0), 1);
        CHECK.due("nothing is paid at least", x.budget(1, false), 0);
        CHECK.due("nothing is paid at most", x.budget(1, true), 0);
        CHECK.due("the first one pays as before", x.pays(0, 0, 0), 9999);
    }
}
