import java.util.Arrays;

/**
 * A house of honest asking. The numbered promises of the project's document say what each call answers;
 * words in capitals are its terms.
 */
public final class HonestHouse {
    private static final int MOST_PEOPLE = 4;
    private static final int MOST_ENDS = 5;
    private static final int MOST_WISHES = 6;
    private static final int MOST_RULES = 8;
    private static final int MOST_SHELVES = 8;
    private static final int MOST_ELEMENTS = 60;
    private static final int MOST_WORTH = 99;
    private static final int MOST_PAYMENT = 9999;
    private static final int MOST_WEIGHT = 9;

    private static final int TABLE = 0;
    private static final int PAID = 1;
    private static final int WEIGHED = 2;
    private static final int MIDDLE = 3;

    private static final int NOTHING = 0;
    private static final int A_RULE = 1;
    private static final int SHORTS = 3;
    private static final int LONGS = 4;

    private static final int NO_SUCH = -1;
    private static final int NONE = -2;
    private static final int FULL = -2;
    private static final int TOO_LATE = -3;
    private static final int NO_PAYMENTS = -3;
    private static final int OTHER_KIND = -4;
    private static final int NOTHING_HELD = -11;
    private static final int OTHER_THING = -12;
    private static final int NO_PLACE = -13;
    private static final int BELOW_NOTHING = -14;
    private static final int NO_FAILURE = -15;

    /** In gift(): the END, or the person, that is not meant. */
    private static final int NOT_MEANT = -1;
    /** An END that is still to be worked out. */
    private static final int UNKNOWN = -1;
    /** Above every sum of numbers, payments and LENGTHS that can come about. */
    private static final int FAR = 1000000;

    // Every order of so many digits, by numbers: they tell TRADES, ORDERS and orders of the PEOPLE alike.
    private static final int[] ORDERS_OF_TWO = {1, 10};
    private static final int[] ORDERS_OF_THREE = {12, 21, 102, 120, 201, 210};
    private static final int[] ORDERS_OF_FOUR = {
        123, 132, 213, 231, 312, 321, 1023, 1032, 1203, 1230, 1302, 1320,
        2013, 2031, 2103, 2130, 2301, 2310, 3012, 3021, 3102, 3120, 3201, 3210};

    private final int people;
    private final int ends;
    private final Wishes wishes;
    private final Table[] rules;
    private int ruleCount;
    private final Heap plotters;
    private final Ways ways;
    private final Market market;
    private final Shelf[] shelves;

    public HonestHouse(int people, int ends) {
        int peopleThere = 2 + Math.floorMod(people, 3);
        int endsThere = 2 + Math.floorMod(ends, 4);
        Wishes list = new Wishes(peopleThere, endsThere);
        this.people = peopleThere;
        this.ends = endsThere;
        this.wishes = list;
        this.rules = new Table[MOST_RULES];
        this.plotters = new Heap(list);
        this.ways = new Ways(list);
        this.market = new Market(peopleThere);
        this.shelves = new Shelf[MOST_SHELVES];
        for (int d = 0; d < MOST_SHELVES; d++) {
            this.shelves[d] = new Shelf();
        }
    }

    // ---- wishes and rules

    public int wish() {
        if (wishes.count >= MOST_WISHES) {
            return FULL;
        }
        return ruleCount > 0 ? TOO_LATE : wishes.come();
    }

    public int worth(int wish, int end, int v) {
        if (!isWish(wish) || !isEnd(end) || !isWithin(v, -MOST_WORTH, MOST_WORTH)) {
            return NO_SUCH;
        }
        return ruleCount > 0 ? TOO_LATE : wishes.changeNumber(wish, end, v);
    }

    public int rule(int kind) {
        if (!isWithin(kind, TABLE, MIDDLE) || wishes.count < 1) {
            return NO_SUCH;
        }
        return ruleCount >= MOST_RULES ? FULL : add(newRule(kind, ruleCount, wishes));
    }

    public int put(int rule, int row, int end) {
        Table found = ruleAt(rule);
        if (found == null || !isRow(row) || !isEnd(end)) {
            return NO_SUCH;
        }
        return found.changeEnd(row, end);
    }

    public int pay(int rule, int row, int person, int v) {
        Table found = ruleAt(rule);
        if (found == null || !isRow(row) || !isPerson(person) || !isWithin(v, -MOST_PAYMENT, MOST_PAYMENT)) {
            return NO_SUCH;
        }
        return found.changePayment(row, person, v);
    }

    public int gift(int rule, int end, int who, int v) {
        Table found = ruleAt(rule);
        boolean ofEnd = who == NOT_MEANT && isEnd(end) && isWithin(v, -MOST_WORTH, MOST_WORTH);
        boolean ofPerson = end == NOT_MEANT && isPerson(who) && isWithin(v, 0, MOST_WEIGHT);
        if (found == null || !(ofEnd || ofPerson)) {
            return NO_SUCH;
        }
        return ofEnd ? found.changeGift(end, v) : found.changeWeight(who, v);
    }

    public int middle(int rule, int i, int end) {
        Table found = ruleAt(rule);
        if (found == null || !isWithin(i, 0, people - 2) || !isEnd(end)) {
            return NO_SUCH;
        }
        return found.changePlace(i, end);
    }

    public int end(int rule, int row) {
        Table found = ruleAt(rule);
        if (found == null || !isRow(row)) {
            return NO_SUCH;
        }
        found.settle(row);
        return found.endAt(row);
    }

    public int pays(int rule, int row, int person) throws IllegalArgumentException {
        Table found = ruleAt(rule);
        if (found == null || !isRow(row) || !isPerson(person)) {
            throw new IllegalArgumentException("no such rule, row or person");
        }
        found.settle(row);
        return found.paymentAt(row, person);
    }

    // ---- lies

    public int said(int row, int person, int wish) {
        if (!isRow(row) || !isPerson(person) || !isWish(wish)) {
            return NO_SUCH;
        }
        return wishes.rowSaying(row, person, wish);
    }

    public int gain(int rule, int row, int person, int wish) throws IllegalArgumentException {
        Table found = ruleAt(rule);
        if (found == null || !isRow(row) || !isPerson(person) || !isWish(wish)) {
            throw new IllegalArgumentException("no such rule, row, person or wish");
        }
        int own = wishes.wishIn(row, person);
        int saying = wishes.rowSaying(row, person, wish);
        found.settle(row);
        found.settle(saying);
        return found.profit(saying, person, own) - found.profit(row, person, own);
    }

    public int lie(int rule, int what) {
        Table found = settledRule(rule);
        return found == null || !isWithin(what, 0, 3) ? NO_SUCH : firstLie(found, what);
    }

    public int lies(int rule) {
        Table found = settledRule(rule);
        if (found == null) {
            return NO_SUCH;
        }
        int lies = 0;
        for (int row = 0; row < wishes.rows; row++) {
            for (int person = 0; person < people; person++) {
                lies += liesAt(found, row, person);
            }
        }
        return lies;
    }

    public int heap(int rule, int people, boolean told) {
        Table found = settledRule(rule);
        if (found == null || !isWithin(people, 1, (1 << this.people) - 1)) {
            return NO_SUCH;
        }
        int row = plotters.firstRow(found, people);
        if (row >= wishes.rows) {
            return NONE;
        }
        return told ? plotters.leastSaid(found, row) : row;
    }

    // ---- what a rule is like, and what it costs

    public int onto(int rule) {
        Table found = settledRule(rule);
        if (found == null) {
            return NO_SUCH;
        }
        int seen = 0;
        for (int row = 0; row < wishes.rows; row++) {
            seen |= 1 << found.endAt(row);
        }
        return Integer.bitCount(seen);
    }

    public int dictator(int rule) {
        Table found = settledRule(rule);
        if (found == null) {
            return NO_SUCH;
        }
        for (int person = 0; person < people; person++) {
            if (isDictator(found, person)) {
                return person;
            }
        }
        return NONE;
    }

    public long budget(int rule, boolean most) throws IllegalArgumentException {
        Table found = settledRule(rule);
        if (found == null) {
            throw new IllegalArgumentException("no such rule");
        }
        int budget = paidByAll(found, 0);
        for (int row = 1; row < wishes.rows; row++) {
            int paid = paidByAll(found, row);
            budget = most ? Math.max(budget, paid) : Math.min(budget, paid);
        }
        return budget;
    }

    public long welfare(int rule) throws IllegalArgumentException {
        Table found = settledRule(rule);
        if (found == null) {
            throw new IllegalArgumentException("no such rule");
        }
        long sum = 0;
        for (int row = 0; row < wishes.rows; row++) {
            int end = found.endAt(row);
            for (int person = 0; person < people; person++) {
                sum += wishes.number(wishes.wishIn(row, person), end);
            }
        }
        return sum;
    }

    // ---- rounds and prices

    public int span(int rule, int row, int person, int e, int f)
            throws IllegalArgumentException, IllegalStateException {
        Table found = ruleAt(rule);
        if (found == null || !isRow(row) || !isPerson(person) || !isEnd(e) || !isEnd(f)) {
            throw new IllegalArgumentException("no such rule, row, person or end");
        }
        settleFor(found, row, person);
        ways.look(found, row, person);
        if (!ways.comes[e] || !ways.comes[f]) {
            throw new IllegalStateException("an end that does not come about");
        }
        return ways.lengthOf(e, f);
    }

    public int round(int rule, int what) {
        Table found = settledRule(rule);
        return found == null || !isWithin(what, 0, 2) ? NO_SUCH : firstRound(found, what);
    }

    public int price(int rule, int row, int person, int end)
            throws IllegalArgumentException, IllegalStateException {
        Table found = ruleAt(rule);
        if (found == null || !isRow(row) || !isPerson(person) || !isEnd(end)) {
            throw new IllegalArgumentException("no such rule, row, person or end");
        }
        settleFor(found, row, person);
        ways.look(found, row, person);
        if (!ways.comes[end] || ways.hasRound()) {
            throw new IllegalStateException("an end that does not come about, or a round below 0");
        }
        return ways.priceOf(end);
    }

    public int honest(int rule) {
        Table found = settledRule(rule);
        if (found == null) {
            return NO_SUCH;
        }
        if (ruleCount >= MOST_RULES) {
            return FULL;
        }
        return firstRound(found, 0) == NONE ? add(pricedRule(found)) : NO_PAYMENTS;
    }

    public int same(int rule, int other) {
        Table one = settledRule(rule);
        Table two = settledRule(other);
        if (one == null || two == null) {
            return NO_SUCH;
        }
        for (int row = 0; row < wishes.rows; row++) {
            if (!isSameAt(one, two, row)) {
                return 0;
            }
        }
        return 1;
    }

    public int fair(int rule) {
        Table found = settledRule(rule);
        if (found == null) {
            return NO_SUCH;
        }
        for (int row = 0; row < wishes.rows; row++) {
            if (!isFairAt(found, row)) {
                return 0;
            }
        }
        return 1;
    }

    // ---- trades

    public int likes(int person, int order) {
        if (!isPerson(person) || !market.isOrder(order)) {
            return NO_SUCH;
        }
        market.learn(person, order);
        return 0;
    }

    public int rings() {
        return market.tradeByRings();
    }

    public int leaves(int person) {
        if (!isPerson(person)) {
            return NO_SUCH;
        }
        market.tradeByRings();
        return market.left[person];
    }

    public int turns(int order) {
        return market.isOrder(order) ? market.tradeByTurns(order) : NO_SUCH;
    }

    public int blocks(int trade) {
        if (!market.isOrder(trade)) {
            return NO_SUCH;
        }
        int heap = market.leastBlocking(trade);
        return heap == 0 ? NONE : heap;
    }

    public int core(int i) {
        if (i < 0) {
            return NO_SUCH;
        }
        int before = 0;
        for (int trade : market.orders) {
            if (market.leastBlocking(trade) == 0) {
                if (before == i) {
                    return trade;
                }
                before++;
            }
        }
        return NONE;
    }

    public int good(int trade) {
        if (!market.isOrder(trade)) {
            return NO_SUCH;
        }
        return market.isBettered(trade) ? 0 : 1;
    }

    public int by(int trade) {
        if (!market.isOrder(trade)) {
            return NO_SUCH;
        }
        for (int order : market.orders) {
            if (market.tradeByTurns(order) == trade) {
                return order;
            }
        }
        return NONE;
    }

    public int wrong(int person) {
        return isPerson(person) ? market.leastLie(person) : NO_SUCH;
    }

    public int count(int what) {
        switch (what) {
            case 0:
                return people;
            case 1:
                return ends;
            case 2:
                return wishes.count;
            case 3:
                return ruleCount;
            case 4:
                return wishes.rows;
            case 5:
                return market.goodTrades();
            case 6:
                return market.coreTrades();
            default:
                return NO_SUCH;
        }
    }

    // ---- shelves

    public int keep(int d, int what, int k) {
        Shelf shelf = shelfAt(d);
        if (shelf == null) {
            return NO_SUCH;
        }
        switch (what) {
            case NOTHING:
                shelf.holdNothing();
                return 0;
            case A_RULE:
                return keepRule(shelf, k);
            case SHORTS:
                return keepEnds(shelf, k);
            case LONGS:
                return keepNumbers(shelf, k);
            default:
                return NO_SUCH;
        }
    }

    public int make(int d, int what, int n) {
        Shelf shelf = shelfAt(d);
        if (shelf == null || !isWithin(what, SHORTS, LONGS) || n > MOST_ELEMENTS) {
            return NO_SUCH;
        }
        if (n < 0) {
            return BELOW_NOTHING;
        }
        shelf.holdRow(what, n);
        return 0;
    }

    public long element(int d, int i) throws IllegalArgumentException, IllegalStateException {
        Shelf shelf = shelfAt(d);
        if (shelf == null) {
            throw new IllegalArgumentException("no such shelf");
        }
        if (!shelf.holdsRow() || !isWithin(i, 0, shelf.size - 1)) {
            throw new IllegalStateException("no row, or no such place in it");
        }
        return shelf.elements[i];
    }

    public int copy(int d, int i, int e, int j, int n) {
        Shelf from = shelfAt(d);
        Shelf to = shelfAt(e);
        if (from == null || to == null) {
            return NO_SUCH;
        }
        if (from.what == NOTHING || to.what == NOTHING) {
            return NOTHING_HELD;
        }
        if (!from.holdsRow() || from.what != to.what) {
            return OTHER_THING;
        }
        if (!from.hasPlaces(i, n) || !to.hasPlaces(j, n)) {
            return NO_PLACE;
        }
        System.arraycopy(from.elements, i, to.elements, j, n);
        return n;
    }

    public int weight(int d) {
        Shelf shelf = shelfAt(d);
        int refusal = refusalOfRule(shelf);
        return shelf == null || refusal != 0 ? refusal : shelf.heft;
    }

    public int toss(int d) {
        Shelf shelf = shelfAt(d);
        int refusal = refusalOfRule(shelf);
        return shelf == null || refusal != 0 ? refusal : numberOfFailure(shelf.rule);
    }

    // ---- what there is

    private static boolean isWithin(int v, int least, int greatest) {
        return v >= least && v <= greatest;
    }

    private boolean isPerson(int person) {
        return person >= 0 && person < people;
    }

    private boolean isEnd(int end) {
        return end >= 0 && end < ends;
    }

    private boolean isWish(int wish) {
        return wish >= 0 && wish < wishes.count;
    }

    private boolean isRow(int row) {
        return row >= 0 && row < wishes.rows;
    }

    private Table ruleAt(int rule) {
        return rule >= 0 && rule < ruleCount ? rules[rule] : null;
    }

    /** A RULE whose ENDS and payments are worked out at all ROWS, or null. */
    private Table settledRule(int rule) {
        Table found = ruleAt(rule);
        if (found != null) {
            for (int row = 0; row < wishes.rows; row++) {
                found.settle(row);
            }
        }
        return found;
    }

    /** Works out a RULE at the ROWS that a person can bring about with others' words. */
    private void settleFor(Table rule, int row, int person) {
        for (int wish = 0; wish < wishes.count; wish++) {
            rule.settle(wishes.rowSaying(row, person, wish));
        }
    }

    private Shelf shelfAt(int d) {
        return d >= 0 && d < MOST_SHELVES ? shelves[d] : null;
    }

    // ---- rules

    private static Table newRule(int kind, int number, Wishes wishes) {
        switch (kind) {
            case PAID:
                return new Paid(number, wishes);
            case WEIGHED:
                return new Weighed(number, wishes);
            case MIDDLE:
                return new Middle(number, wishes);
            default:
                return new Table(number, wishes);
        }
    }

    private int add(Table rule) {
        rules[ruleCount] = rule;
        ruleCount++;
        return ruleCount - 1;
    }

    private Table pricedRule(Table rule) {
        Paid priced = new Paid(ruleCount, wishes);
        for (int row = 0; row < wishes.rows; row++) {
            priced.changeEnd(row, rule.endAt(row));
        }
        for (int person = 0; person < people; person++) {
            for (int row = 0; row < wishes.rows; row++) {
                if (wishes.wishIn(row, person) == 0) {
                    payPrices(priced, row, person);
                }
            }
        }
        return priced;
    }

    /** One look at others' words serves all WISHES that the person may say with them. */
    private void payPrices(Paid priced, int row, int person) {
        ways.look(priced, row, person);
        ways.shorten();
        for (int wish = 0; wish < wishes.count; wish++) {
            int saying = wishes.rowSaying(row, person, wish);
            priced.changePayment(saying, person, ways.priceOf(priced.endAt(saying)));
        }
    }

    // ---- lies

    private int firstLie(Table rule, int what) {
        for (int row = 0; row < wishes.rows; row++) {
            for (int person = 0; person < people; person++) {
                int own = wishes.wishIn(row, person);
                int now = rule.profit(row, person, own);
                for (int wish = 0; wish < wishes.count; wish++) {
                    int gain = rule.profit(wishes.rowSaying(row, person, wish), person, own) - now;
                    if (gain > 0) {
                        return partOfLie(what, row, person, wish, gain);
                    }
                }
            }
        }
        return NONE;
    }

    private static int partOfLie(int what, int row, int person, int wish, int gain) {
        switch (what) {
            case 0:
                return row;
            case 1:
                return person;
            case 2:
                return wish;
            default:
                return gain;
        }
    }

    private int liesAt(Table rule, int row, int person) {
        int own = wishes.wishIn(row, person);
        int now = rule.profit(row, person, own);
        int lies = 0;
        for (int wish = 0; wish < wishes.count; wish++) {
            if (rule.profit(wishes.rowSaying(row, person, wish), person, own) > now) {
                lies++;
            }
        }
        return lies;
    }

    // ---- what a rule is like, and what it costs

    private boolean isDictator(Table rule, int person) {
        for (int row = 0; row < wishes.rows; row++) {
            if (rule.endAt(row) != wishes.top(wishes.wishIn(row, person))) {
                return false;
            }
        }
        return true;
    }

    private int paidByAll(Table rule, int row) {
        int sum = 0;
        for (int person = 0; person < people; person++) {
            sum += rule.paymentAt(row, person);
        }
        return sum;
    }

    private boolean isSameAt(Table one, Table two, int row) {
        if (one.endAt(row) != two.endAt(row)) {
            return false;
        }
        for (int person = 0; person < people; person++) {
            if (one.paymentAt(row, person) != two.paymentAt(row, person)) {
                return false;
            }
        }
        return true;
    }

    /** Changes between neighbours are enough: every other change about is made of these. */
    private boolean isFairAt(Table rule, int row) {
        int end = rule.endAt(row);
        for (int person = 0; person + 1 < people; person++) {
            int first = wishes.wishIn(row, person);
            int second = wishes.wishIn(row, person + 1);
            int half = wishes.rowSaying(row, person, second);
            if (rule.endAt(wishes.rowSaying(half, person + 1, first)) != end) {
                return false;
            }
        }
        return true;
    }

    // ---- rounds

    private int firstRound(Table rule, int what) {
        for (int person = 0; person < people; person++) {
            for (int row = 0; row < wishes.rows; row++) {
                if (wishes.wishIn(row, person) == 0 && isRoundAt(rule, row, person)) {
                    return partOfRound(what, person, row);
                }
            }
        }
        return NONE;
    }

    private boolean isRoundAt(Table rule, int row, int person) {
        ways.look(rule, row, person);
        return ways.hasRound();
    }

    private int partOfRound(int what, int person, int row) {
        switch (what) {
            case 0:
                return person;
            case 1:
                return row;
            default:
                return -ways.leastRound();
        }
    }

    // ---- shelves

    private int keepRule(Shelf shelf, int k) {
        Table rule = ruleAt(k);
        if (rule == null) {
            return NO_SUCH;
        }
        shelf.holdRule(rule);
        return 0;
    }

    private int keepEnds(Shelf shelf, int k) {
        Table rule = ruleAt(k);
        if (rule == null) {
            return NO_SUCH;
        }
        shelf.holdRow(SHORTS, Math.min(MOST_ELEMENTS, wishes.rows));
        for (int row = 0; row < shelf.size; row++) {
            rule.settle(row);
            shelf.elements[row] = rule.endAt(row);
        }
        return 0;
    }

    private int keepNumbers(Shelf shelf, int k) {
        if (!isWish(k)) {
            return NO_SUCH;
        }
        shelf.holdRow(LONGS, ends);
        for (int end = 0; end < ends; end++) {
            shelf.elements[end] = wishes.number(k, end);
        }
        return 0;
    }

    private static int refusalOfRule(Shelf shelf) {
        if (shelf == null) {
            return NO_SUCH;
        }
        if (shelf.what == NOTHING) {
            return NOTHING_HELD;
        }
        return shelf.what == A_RULE ? 0 : OTHER_THING;
    }

    private static int numberOfFailure(Table rule) {
        if (rule == null) {
            return NO_FAILURE;
        }
        try {
            rule.fail();
        } catch (IllegalStateException failure) {
            return rule.number;
        }
        return NO_FAILURE;
    }

    /** THE LIST, and the arithmetic of ROWS. */
    private static final class Wishes {
        final int people;
        final int ends;
        final int[] numbers;
        /** The number of WISHES to the power of each person: what one WISH more of them adds to a ROW. */
        final int[] power;
        int count;
        int rows;

        Wishes(int people, int ends) {
            this.people = people;
            this.ends = ends;
            this.numbers = new int[MOST_WISHES * MOST_ENDS];
            this.power = new int[MOST_PEOPLE + 1];
        }

        int come() {
            count++;
            int product = 1;
            for (int person = 0; person <= people; person++) {
                power[person] = product;
                product *= count;
            }
            rows = power[people];
            return count - 1;
        }

        int number(int wish, int end) {
            return numbers[wish * MOST_ENDS + end];
        }

        int changeNumber(int wish, int end, int v) {
            int before = number(wish, end);
            numbers[wish * MOST_ENDS + end] = v;
            return before == v ? 0 : 1;
        }

        int wishIn(int row, int person) {
            int step = power[person];
            return step < 1 || count < 1 ? 0 : row / step % count;
        }

        int rowSaying(int row, int person, int wish) {
            return row + (wish - wishIn(row, person)) * power[person];
        }

        int top(int wish) {
            int top = 0;
            for (int end = 1; end < ends; end++) {
                if (number(wish, end) > number(wish, top)) {
                    top = end;
                }
            }
            return top;
        }
    }

    /** A TABLE, and what every RULE has; each KIND under it takes the changes that are its own. */
    private static class Table {
        final int number;
        final Wishes wishes;
        final int[] endOf;

        Table(int number, Wishes wishes) {
            this.number = number;
            this.wishes = wishes;
            this.endOf = new int[wishes.rows];
        }

        /** Works out a ROW's END and payments, where a KIND has to: before they are read. */
        void settle(int row) {
        }

        int endAt(int row) {
            return endOf[row];
        }

        int paymentAt(int row, int person) {
            return 0;
        }

        /** What a ROW's END is worth to a person who has a WISH, less what they pay. */
        int profit(int row, int person, int wish) {
            return wishes.number(wish, endAt(row)) - paymentAt(row, person);
        }

        int changeEnd(int row, int end) {
            int before = endOf[row];
            endOf[row] = end;
            return before;
        }

        int changePayment(int row, int person, int v) {
            return OTHER_KIND;
        }

        int changeGift(int end, int v) {
            return OTHER_KIND;
        }

        int changeWeight(int person, int v) {
            return OTHER_KIND;
        }

        int changePlace(int i, int end) {
            return OTHER_KIND;
        }

        int heft() {
            return number + 10;
        }

        /** Throws the FAILURE of the RULE's KIND; a TABLE has none. */
        void fail() {
        }
    }

    private static class Paid extends Table {
        final int[] payments;

        Paid(int number, Wishes wishes) {
            super(number, wishes);
            this.payments = new int[wishes.rows * wishes.people];
        }

        int paymentAt(int row, int person) {
            return payments[row * wishes.people + person];
        }

        int changePayment(int row, int person, int v) {
            int place = row * wishes.people + person;
            int before = payments[place];
            payments[place] = v;
            return before == v ? 0 : 1;
        }

        int heft() {
            return super.heft() + 100;
        }

        void fail() {
            throw new IllegalStateException("a paid rule fails");
        }
    }

    /** Its ENDS and payments are worked out when they are first wanted, and kept until a gift or weight changes. */
    private static final class Weighed extends Paid {
        final int[] gifts;
        final int[] weights;
        final int[] sums;

        Weighed(int number, Wishes wishes) {
            super(number, wishes);
            this.gifts = new int[MOST_ENDS];
            this.weights = new int[MOST_PEOPLE];
            this.sums = new int[MOST_ENDS];
            Arrays.fill(this.weights, 1);
            Arrays.fill(this.endOf, UNKNOWN);
        }

        void settle(int row) {
            if (endOf[row] == UNKNOWN) {
                workOut(row);
            }
        }

        int changeEnd(int row, int end) {
            return OTHER_KIND;
        }

        int changePayment(int row, int person, int v) {
            return OTHER_KIND;
        }

        int changeGift(int end, int v) {
            return change(gifts, end, v);
        }

        int changeWeight(int person, int v) {
            return change(weights, person, v);
        }

        int change(int[] values, int place, int v) {
            if (values[place] == v) {
                return 0;
            }
            values[place] = v;
            Arrays.fill(endOf, UNKNOWN);
            return 1;
        }

        void workOut(int row) {
            addUp(row);
            int best = 0;
            for (int end = 1; end < wishes.ends; end++) {
                if (sums[end] > sums[best]) {
                    best = end;
                }
            }
            for (int person = 0; person < wishes.people; person++) {
                int payment = ownPayment(wishes.wishIn(row, person), weights[person], best);
                payments[row * wishes.people + person] = payment;
            }
            endOf[row] = best;
        }

        void addUp(int row) {
            for (int end = 0; end < wishes.ends; end++) {
                sums[end] = gifts[end];
            }
            for (int person = 0; person < wishes.people; person++) {
                int wish = wishes.wishIn(row, person);
                for (int end = 0; end < wishes.ends; end++) {
                    sums[end] += weights[person] * wishes.number(wish, end);
                }
            }
        }

        int ownPayment(int wish, int weight, int best) {
            if (weight < 1) {
                return 0;
            }
            int greatest = -FAR;
            for (int end = 0; end < wishes.ends; end++) {
                greatest = Math.max(greatest, sums[end] - weight * wishes.number(wish, end));
            }
            return (greatest - (sums[best] - weight * wishes.number(wish, best))) / weight;
        }

        int heft() {
            return 2 * super.heft();
        }
    }

    /** Its ENDS are worked out when they are first wanted, and kept until a place changes. */
    private static final class Middle extends Table {
        final int[] places;
        final int[] standing;

        Middle(int number, Wishes wishes) {
            super(number, wishes);
            this.places = new int[MOST_PEOPLE - 1];
            this.standing = new int[MOST_ENDS];
            Arrays.fill(this.endOf, UNKNOWN);
        }

        void settle(int row) {
            if (endOf[row] == UNKNOWN) {
                endOf[row] = middleOf(row);
            }
        }

        int changeEnd(int row, int end) {
            return OTHER_KIND;
        }

        int changePlace(int i, int end) {
            int before = places[i];
            places[i] = end;
            Arrays.fill(endOf, UNKNOWN);
            return before;
        }

        int middleOf(int row) {
            Arrays.fill(standing, 0);
            for (int person = 0; person < wishes.people; person++) {
                standing[wishes.top(wishes.wishIn(row, person))]++;
            }
            for (int i = 0; i + 1 < wishes.people; i++) {
                standing[places[i]]++;
            }
            int upTo = 0;
            for (int end = 0; end < wishes.ends; end++) {
                upTo += standing[end];
                if (upTo >= wishes.people) {
                    return end;
                }
            }
            return wishes.ends - 1;
        }

        int heft() {
            int sum = super.heft() + 500;
            for (int i = 0; i + 1 < wishes.people; i++) {
                sum += places[i];
            }
            return sum;
        }

        void fail() {
            throw new IllegalStateException("a middle rule fails");
        }
    }

    /** A HEAP that looks for a ROW at which it LIES. */
    private static final class Heap {
        final Wishes wishes;
        /** Of each END that the HEAP can bring about with others' words, the least that each person then pays. */
        final int[] cheapest;
        final int[] own;
        final int[] now;
        int members;
        int words;

        Heap(Wishes wishes) {
            this.wishes = wishes;
            this.cheapest = new int[MOST_ENDS * MOST_PEOPLE];
            this.own = new int[MOST_PEOPLE];
            this.now = new int[MOST_PEOPLE];
        }

        /** The number of ROWS if there is none. */
        int firstRow(Table rule, int heap) {
            members = heap;
            words = wishes.power[Math.min(Integer.bitCount(heap), wishes.people)];
            int first = wishes.rows;
            for (int start = 0; start < wishes.rows; start++) {
                if (startOf(start) == start) {
                    first = firstRowFrom(rule, start, first);
                }
            }
            return first;
        }

        /** The first ROW, below a bound, that has others' words as the start has them; else the bound. */
        int firstRowFrom(Table rule, int start, int bound) {
            findCheapest(rule, start);
            int row = start;
            for (int k = 0; k < words && row < bound; k++) {
                stand(rule, row);
                if (mayLie() && leastSaidFrom(rule, start) >= 0) {
                    return row;
                }
                row = nextRow(row);
            }
            return bound;
        }

        int leastSaid(Table rule, int row) {
            stand(rule, row);
            return leastSaidFrom(rule, startOf(row));
        }

        int leastSaidFrom(Table rule, int start) {
            int said = start;
            for (int k = 0; k < words; k++) {
                if (allGain(rule, said)) {
                    return said;
                }
                said = nextRow(said);
            }
            return NONE;
        }

        boolean isMember(int person) {
            return (members >> person & 1) == 1;
        }

        /** The ROW in which the whole HEAP says WISH 0, and others what they say. */
        int startOf(int row) {
            int start = row;
            for (int person = 0; person < wishes.people; person++) {
                if (isMember(person)) {
                    start = wishes.rowSaying(start, person, 0);
                }
            }
            return start;
        }

        /** The next greater ROW that differs in the HEAP's words alone; behind the last one the start. */
        int nextRow(int row) {
            int next = row;
            for (int person = 0; person < wishes.people; person++) {
                if (isMember(person)) {
                    int wish = wishes.wishIn(next, person);
                    if (wish + 1 < wishes.count) {
                        return wishes.rowSaying(next, person, wish + 1);
                    }
                    next = wishes.rowSaying(next, person, 0);
                }
            }
            return next;
        }

        void findCheapest(Table rule, int start) {
            Arrays.fill(cheapest, FAR);
            int row = start;
            for (int k = 0; k < words; k++) {
                int end = rule.endAt(row);
                for (int person = 0; person < wishes.people; person++) {
                    int place = end * MOST_PEOPLE + person;
                    cheapest[place] = Math.min(cheapest[place], rule.paymentAt(row, person));
                }
                row = nextRow(row);
            }
        }

        /** Takes down what each person wishes, and what the ROW is worth to them. */
        void stand(Table rule, int row) {
            for (int person = 0; person < wishes.people; person++) {
                own[person] = wishes.wishIn(row, person);
                now[person] = rule.profit(row, person, own[person]);
            }
        }

        /** Spares the long search at ROWS where no END could be better for all, however little each had to pay. */
        boolean mayLie() {
            for (int end = 0; end < wishes.ends; end++) {
                if (mayLieFor(end)) {
                    return true;
                }
            }
            return false;
        }

        boolean mayLieFor(int end) {
            for (int person = 0; person < wishes.people; person++) {
                int most = wishes.number(own[person], end) - cheapest[end * MOST_PEOPLE + person];
                if (isMember(person) && most <= now[person]) {
                    return false;
                }
            }
            return true;
        }

        boolean allGain(Table rule, int said) {
            for (int person = 0; person < wishes.people; person++) {
                if (isMember(person) && rule.profit(said, person, own[person]) <= now[person]) {
                    return false;
                }
            }
            return true;
        }
    }

    /** The ENDS that one person can bring about with others' words, and the LENGTHS among them. */
    private static final class Ways {
        final Wishes wishes;
        final boolean[] comes;
        final int[] lengths;
        final int[] shortest;
        /** For a set of ENDS and the last of them: the least sum of a way from one END through all of the set. */
        final int[] tours;

        Ways(Wishes wishes) {
            this.wishes = wishes;
            this.comes = new boolean[MOST_ENDS];
            this.lengths = new int[MOST_ENDS * MOST_ENDS];
            this.shortest = new int[MOST_ENDS * MOST_ENDS];
            this.tours = new int[(1 << MOST_ENDS) * MOST_ENDS];
        }

        void look(Table rule, int row, int person) {
            for (int end = 0; end < MOST_ENDS; end++) {
                comes[end] = false;
            }
            for (int wish = 0; wish < wishes.count; wish++) {
                comes[rule.endAt(wishes.rowSaying(row, person, wish))] = true;
            }
            Arrays.fill(lengths, FAR);
            for (int wish = 0; wish < wishes.count; wish++) {
                measure(wish, rule.endAt(wishes.rowSaying(row, person, wish)));
            }
        }

        void measure(int wish, int to) {
            for (int from = 0; from < wishes.ends; from++) {
                int length = wishes.number(wish, to) - wishes.number(wish, from);
                if (comes[from] && length < lengthOf(from, to)) {
                    lengths[from * MOST_ENDS + to] = length;
                }
            }
        }

        int lengthOf(int from, int to) {
            return lengths[from * MOST_ENDS + to];
        }

        boolean hasRound() {
            shorten();
            for (int end = 0; end < wishes.ends; end++) {
                if (comes[end] && shortest[end * MOST_ENDS + end] < 0) {
                    return true;
                }
            }
            return false;
        }

        /** Makes the least sums of all ways; where a round is below 0, that shows in a way from an END to itself. */
        void shorten() {
            System.arraycopy(lengths, 0, shortest, 0, lengths.length);
            for (int through = 0; through < wishes.ends; through++) {
                for (int from = 0; from < wishes.ends; from++) {
                    if (comes[through] && comes[from]) {
                        shortenFrom(from, through);
                    }
                }
            }
        }

        void shortenFrom(int from, int through) {
            int first = shortest[from * MOST_ENDS + through];
            for (int to = 0; to < wishes.ends; to++) {
                int sum = first + shortest[through * MOST_ENDS + to];
                if (comes[to] && sum < shortest[from * MOST_ENDS + to]) {
                    shortest[from * MOST_ENDS + to] = sum;
                }
            }
        }

        int priceOf(int end) {
            for (int least = 0; least < wishes.ends; least++) {
                if (comes[least]) {
                    return shortest[least * MOST_ENDS + end];
                }
            }
            return 0;
        }

        /** A round is looked at from the least END on it, so that each is looked at once. */
        int leastRound() {
            int least = 0;
            for (int start = 0; start < wishes.ends; start++) {
                if (comes[start]) {
                    least = Math.min(least, leastRoundFrom(start));
                }
            }
            return least;
        }

        int leastRoundFrom(int start) {
            Arrays.fill(tours, FAR);
            tours[(1 << start) * MOST_ENDS + start] = 0;
            int least = 0;
            for (int set = 1 << start; set < 1 << wishes.ends; set++) {
                for (int last = start; last < wishes.ends; last++) {
                    int sum = tours[set * MOST_ENDS + last];
                    if (sum < FAR) {
                        least = Math.min(least, sum + lengthOf(last, start));
                        goOn(set, last, start);
                    }
                }
            }
            return least;
        }

        void goOn(int set, int last, int start) {
            int sum = tours[set * MOST_ENDS + last];
            for (int next = start + 1; next < wishes.ends; next++) {
                if (comes[next] && (set >> next & 1) == 0) {
                    int place = (set | 1 << next) * MOST_ENDS + next;
                    tours[place] = Math.min(tours[place], sum + lengthOf(last, next));
                }
            }
        }
    }

    /** THINGS, ORDERS and TRADES. */
    private static final class Market {
        final int people;
        final int[] orders;
        /** Of each person's ORDER: which THING stands at a place, and at which place a THING stands. */
        final int[] thingAt;
        final int[] placeOf;
        final int[] pointed;
        final int[] got;
        final int[] left;
        final int[] trade;
        final int[] other;

        Market(int people) {
            this.people = people;
            this.orders = people == 2 ? ORDERS_OF_TWO : people == 3 ? ORDERS_OF_THREE : ORDERS_OF_FOUR;
            this.thingAt = new int[MOST_PEOPLE * MOST_PEOPLE];
            this.placeOf = new int[MOST_PEOPLE * MOST_PEOPLE];
            this.pointed = new int[MOST_PEOPLE];
            this.got = new int[MOST_PEOPLE];
            this.left = new int[MOST_PEOPLE];
            this.trade = new int[MOST_PEOPLE];
            this.other = new int[MOST_PEOPLE];
            for (int place = 0; place < MOST_PEOPLE * MOST_PEOPLE; place++) {
                this.thingAt[place] = place % MOST_PEOPLE;
                this.placeOf[place] = place % MOST_PEOPLE;
            }
        }

        boolean isOrder(int number) {
            for (int order : orders) {
                if (order == number) {
                    return true;
                }
            }
            return false;
        }

        void read(int number, int[] digits) {
            int rest = number;
            for (int i = people - 1; i >= 0; i--) {
                digits[i] = rest % 10;
                rest /= 10;
            }
        }

        int told(int[] digits) {
            int number = 0;
            for (int i = 0; i < people; i++) {
                number = number * 10 + digits[i];
            }
            return number;
        }

        void learn(int person, int order) {
            read(order, other);
            for (int place = 0; place < people; place++) {
                thingAt[person * MOST_PEOPLE + place] = other[place];
                placeOf[person * MOST_PEOPLE + other[place]] = place;
            }
        }

        int orderOf(int person) {
            for (int place = 0; place < people; place++) {
                other[place] = thingAt[person * MOST_PEOPLE + place];
            }
            return told(other);
        }

        int placeFor(int person, int thing) {
            return placeOf[person * MOST_PEOPLE + thing];
        }

        /** The best THING for a person of those whose bits are set. */
        int bestOf(int person, int things) {
            for (int place = 0; place < people; place++) {
                int thing = thingAt[person * MOST_PEOPLE + place];
                if ((things >> thing & 1) == 1) {
                    return thing;
                }
            }
            return 0;
        }

        int tradeByRings() {
            int staying = (1 << people) - 1;
            for (int turn = 1; turn <= people && staying != 0; turn++) {
                staying = leaveByRings(staying, turn);
            }
            return told(got);
        }

        /** Who stays when all who stand on a ring have left. */
        int leaveByRings(int staying, int turn) {
            for (int person = 0; person < people; person++) {
                pointed[person] = bestOf(person, staying);
            }
            int stay = staying;
            for (int person = 0; person < people; person++) {
                if ((staying >> person & 1) == 1 && isOnRing(person)) {
                    got[person] = pointed[person];
                    left[person] = turn;
                    stay &= ~(1 << person);
                }
            }
            return stay;
        }

        boolean isOnRing(int person) {
            int at = pointed[person];
            for (int step = 1; step < people && at != person; step++) {
                at = pointed[at];
            }
            return at == person;
        }

        int tradeByTurns(int order) {
            read(order, other);
            int things = (1 << people) - 1;
            for (int turn = 0; turn < people; turn++) {
                int person = other[turn];
                got[person] = bestOf(person, things);
                things &= ~(1 << got[person]);
            }
            return told(got);
        }

        /** 0 if no HEAP blocks. */
        int leastBlocking(int number) {
            read(number, trade);
            for (int heap = 1; heap < 1 << people; heap++) {
                for (int swap : orders) {
                    read(swap, other);
                    if (keepsWithin(heap) && isBetterFor(heap)) {
                        return heap;
                    }
                }
            }
            return 0;
        }

        /** Whether the other TRADE gives a HEAP only what it brings itself. */
        boolean keepsWithin(int heap) {
            for (int person = 0; person < people; person++) {
                if ((heap >> person & 1) == 1 && (heap >> other[person] & 1) == 0) {
                    return false;
                }
            }
            return true;
        }

        /** Whether the other TRADE is worse for none of a HEAP, and better for one. */
        boolean isBetterFor(int heap) {
            boolean better = false;
            for (int person = 0; person < people; person++) {
                int gain = placeFor(person, trade[person]) - placeFor(person, other[person]);
                if ((heap >> person & 1) == 1) {
                    if (gain < 0) {
                        return false;
                    }
                    better |= gain > 0;
                }
            }
            return better;
        }

        /** Whether some TRADE is better for one and worse for none. */
        boolean isBettered(int number) {
            read(number, trade);
            for (int swap : orders) {
                read(swap, other);
                if (isBetterFor((1 << people) - 1)) {
                    return true;
                }
            }
            return false;
        }

        int goodTrades() {
            int good = 0;
            for (int number : orders) {
                if (!isBettered(number)) {
                    good++;
                }
            }
            return good;
        }

        int coreTrades() {
            int core = 0;
            for (int number : orders) {
                if (leastBlocking(number) == 0) {
                    core++;
                }
            }
            return core;
        }

        int leastLie(int person) {
            int honest = orderOf(person);
            tradeByRings();
            int due = placeFor(person, got[person]);
            int found = NONE;
            for (int i = 0; i < orders.length && found == NONE; i++) {
                int thing = thingBySaying(person, orders[i]);
                learn(person, honest);
                if (placeFor(person, thing) < due) {
                    found = orders[i];
                }
            }
            return found;
        }

        int thingBySaying(int person, int order) {
            learn(person, order);
            tradeByRings();
            return got[person];
        }
    }

    /** What is held on one SHELF. */
    private static final class Shelf {
        int what;
        Table rule;
        /** The one thing told of a held RULE that could still change: so it is kept as it is then. */
        int heft;
        int size;
        final long[] elements;

        Shelf() {
            this.elements = new long[MOST_ELEMENTS];
        }

        void holdNothing() {
            what = NOTHING;
            rule = null;
        }

        void holdRule(Table held) {
            what = A_RULE;
            rule = held;
            heft = held.heft();
        }

        void holdRow(int kind, int length) {
            what = kind;
            rule = null;
            size = length;
            Arrays.fill(elements, 0);
        }

        boolean holdsRow() {
            return what == SHORTS || what == LONGS;
        }

        boolean hasPlaces(int from, int length) {
            return from >= 0 && length >= 0 && length <= size && from <= size - length;
        }
    }
}
