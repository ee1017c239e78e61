/**
 * All that can be told of a house from outside, as one text: two houses that are alike give the same text.
 * Looking changes the house (shelves are used, rules changed), so it is the last that is done with it.
 */
final class Sight {
    private final HonestHouse house;
    private final StringBuilder seen = new StringBuilder();

    private Sight(HonestHouse house) {
        this.house = house;
    }

    static String of(HonestHouse house) {
        Sight sight = new Sight(house);
        sight.counts();
        sight.orders();
        sight.shelves();
        sight.rules();
        sight.wishes();
        sight.whatComesNext();
        return sight.seen.toString();
    }

    private void add(long answer) {
        seen.append(answer).append(' ');
    }

    private void part(String name) {
        seen.append('\n').append(name).append(": ");
    }

    private void counts() {
        part("counts");
        for (int what = 0; what <= 6; what++) {
            add(house.count(what));
        }
    }

    private void orders() {
        part("orders");
        add(house.rings());
        for (int person = 0; person < house.count(0); person++) {
            add(house.leaves(person));
        }
        for (int order = 1; order <= 3210; order++) {
            int trade = house.turns(order);
            if (trade != -1) {
                add(trade);
            }
        }
    }

    private void shelves() {
        for (int d = 0; d < 8; d++) {
            part("shelf " + d);
            add(house.weight(d));
            add(house.toss(d));
            elements(d);
            // of which kind a row is shows in what can be copied to it
            for (int e = 0; e < 8; e++) {
                add(house.copy(d, 0, e, 0, 0));
            }
        }
        house.make(7, 3, 0);
        for (int d = 0; d < 7; d++) {
            add(house.copy(d, 0, 7, 0, 0));
        }
    }

    private void elements(int d) {
        try {
            for (int i = 0; i <= 60; i++) {
                add(house.element(d, i));
            }
        } catch (IllegalStateException e) {
            seen.append("end ");
        }
    }

    private void rules() {
        int rows = house.count(4);
        for (int rule = 0; rule < house.count(3); rule++) {
            part("rule " + rule);
            for (int row = 0; row < rows; row++) {
                add(house.end(rule, row));
                for (int person = 0; person < house.count(0); person++) {
                    add(house.pays(rule, row, person));
                }
            }
            kind(rule);
        }
    }

    /** Changes of each kind: what they answer tells the kind, and what a rule has besides its ends and payments. */
    private void kind(int rule) {
        for (int i = 0; i < house.count(0) - 1; i++) {
            add(house.middle(rule, i, 0));
        }
        for (int end = 0; end < house.count(1); end++) {
            add(house.gift(rule, end, -1, 7));
        }
        for (int person = 0; person < house.count(0); person++) {
            add(house.gift(rule, -1, person, 2));
            add(house.pay(rule, 0, person, 12));
        }
        add(house.put(rule, 0, 0));
    }

    private void wishes() {
        for (int wish = 0; wish < house.count(2); wish++) {
            part("wish " + wish);
            house.keep(0, 4, wish);
            elements(0);
        }
    }

    private void whatComesNext() {
        part("next");
        add(house.worth(0, 0, 5));
        add(house.wish());
        add(house.rule(0));
        add(house.rule(4));
    }
}
