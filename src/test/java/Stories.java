/** The houses that the tests of edges begin with. */
final class Stories {
    private Stories() {
    }

    /** 3 people, 3 ends, no wishes. */
    static HonestHouse empty() {
        return new HonestHouse(1, 1);
    }

    /** 3 people, 3 ends, wish 0: 5 0 1, wish 1: 0 4 4; no rules; orders 1 2 0, 0 1 2 and 0 2 1. */
    static HonestHouse wishing() {
        HonestHouse x = empty();
        x.wish();
        x.wish();
        x.worth(0, 0, 5);
        x.worth(0, 2, 1);
        x.worth(1, 1, 4);
        x.worth(1, 2, 4);
        x.likes(0, 120);
        x.likes(2, 21);
        return x;
    }

    /**
     * The same with rules 0 .. 3 of kinds 0 .. 3. The table has a lie, and a round below 0, at row 0. Shelves hold:
     * 0 paid rule 1, 1 eight shorts, 2 three longs, 3 five shorts, 4 sixty longs, 5 table 0, 6 a row of no shorts,
     * 7 nothing.
     */
    static HonestHouse settled() {
        HonestHouse x = wishing();
        for (int kind = 0; kind < 4; kind++) {
            x.rule(kind);
        }
        x.put(0, 0, 1);
        x.put(1, 7, 1);
        x.pay(1, 7, 0, 12);
        x.pay(1, 0, 2, -3);
        x.gift(2, 1, -1, 7);
        x.gift(2, -1, 1, 2);
        x.middle(3, 0, 2);
        x.middle(3, 1, 1);
        x.keep(0, 1, 1);
        x.keep(1, 3, 0);
        x.keep(2, 4, 0);
        x.make(3, 3, 5);
        x.make(4, 4, 60);
        x.keep(5, 1, 0);
        x.make(6, 3, 0);
        return x;
    }

    /** The same with as many rules as there may be: rules 4 .. 7 are of kinds 0 .. 3, too, and as they came. */
    static HonestHouse crowded() {
        HonestHouse x = settled();
        for (int kind = 0; kind < 4; kind++) {
            x.rule(kind);
        }
        return x;
    }

    /** So many people, ends and wishes, all numbers 0. */
    static HonestHouse plain(int people, int ends, int wishes) {
        HonestHouse x = new HonestHouse(people - 2, ends - 2);
        for (int wish = 0; wish < wishes; wish++) {
            x.wish();
        }
        return x;
    }

    /** So many people, and a wish for each row of numbers. */
    static HonestHouse of(int people, int[][] numbers) {
        HonestHouse x = plain(people, numbers[0].length, numbers.length);
        for (int wish = 0; wish < numbers.length; wish++) {
            for (int end = 0; end < numbers[wish].length; end++) {
                x.worth(wish, end, numbers[wish][end]);
            }
        }
        return x;
    }
}
