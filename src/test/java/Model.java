import java.util.ArrayList;
import java.util.Arrays;
import java.util.HashMap;
import java.util.HashSet;
import java.util.List;
import java.util.Map;
import java.util.Set;
import java.util.TreeSet;

/**
 * The document again, written for being read beside it and not for speed: each call follows the words of its
 * promise from the beginning and keeps nothing that can be worked out. ModelTest sets the class against it.
 */
public final class Model {
    private static final class Rule implements Cloneable {
        int kind;
        int number;
        int[] ends;
        int[][] payments;
        int[] gifts;
        int[] weights;
        int[] places;
    }

    private static final class Held {
        int what;
        Rule rule;
        short[] shorts;
        long[] longs;

        int size() {
            return what == 3 ? shorts.length : longs.length;
        }
    }

    private final int n;
    private final int m;
    private final List<int[]> list = new ArrayList<>();
    private final List<Rule> rules = new ArrayList<>();
    private final List<List<Integer>> likings = new ArrayList<>();
    private final Held[] shelves = new Held[8];
    private final List<Integer> allOrders = new ArrayList<>();

    public Model(int people, int ends) {
        n = 2 + ((people % 3) + 3) % 3;
        m = 2 + ((ends % 4) + 4) % 4;
        for (int i = 0; i < n; i++) {
            List<Integer> order = new ArrayList<>();
            for (int thing = 0; thing < n; thing++) {
                order.add(thing);
            }
            likings.add(order);
        }
        for (int number = 0; number < 10000; number++) {
            if (digits(number) != null) {
                allOrders.add(number);
            }
        }
    }

    private static boolean in(int v, int low, int high) {
        return low <= v && v <= high;
    }

    private boolean noRule(int rule) {
        return !in(rule, 0, rules.size() - 1);
    }

    private boolean noRow(int row) {
        return !in(row, 0, rows() - 1);
    }

    private boolean noPerson(int person) {
        return !in(person, 0, n - 1);
    }

    private boolean noEnd(int end) {
        return !in(end, 0, m - 1);
    }

    private boolean noWish(int wish) {
        return !in(wish, 0, list.size() - 1);
    }

    private int rows() {
        return list.isEmpty() ? 0 : (int) Math.round(Math.pow(list.size(), n));
    }

    private int[] wishesOf(int row) {
        int[] said = new int[n];
        for (int i = 0; i < n; i++) {
            said[i] = row % list.size();
            row /= list.size();
        }
        return said;
    }

    private int rowOf(int[] said) {
        int row = 0;
        for (int i = n - 1; i >= 0; i--) {
            row = row * list.size() + said[i];
        }
        return row;
    }

    private int saying(int row, int person, int wish) {
        int[] said = wishesOf(row);
        said[person] = wish;
        return rowOf(said);
    }

    private int top(int wish) {
        int greatest = Arrays.stream(list.get(wish)).max().getAsInt();
        for (int end = 0; ; end++) {
            if (list.get(wish)[end] == greatest) {
                return end;
            }
        }
    }

    private int sum(Rule rule, int row, int end, int without) {
        int sum = rule.gifts[end];
        int[] said = wishesOf(row);
        for (int i = 0; i < n; i++) {
            if (i != without) {
                sum += rule.weights[i] * list.get(said[i])[end];
            }
        }
        return sum;
    }

    private int endOf(Rule rule, int row) {
        if (rule.kind == 2) {
            int best = 0;
            for (int end = 0; end < m; end++) {
                if (sum(rule, row, end, -1) > sum(rule, row, best, -1)) {
                    best = end;
                }
            }
            return best;
        }
        if (rule.kind == 3) {
            List<Integer> all = new ArrayList<>();
            for (int wish : wishesOf(row)) {
                all.add(top(wish));
            }
            for (int place : rule.places) {
                all.add(place);
            }
            all.sort(null);
            return all.get(n - 1);
        }
        return rule.ends[row];
    }

    private int paymentOf(Rule rule, int row, int person) {
        if (rule.kind == 1) {
            return rule.payments[row][person];
        }
        if (rule.kind != 2 || rule.weights[person] == 0) {
            return 0;
        }
        int greatest = Integer.MIN_VALUE;
        for (int end = 0; end < m; end++) {
            greatest = Math.max(greatest, sum(rule, row, end, person));
        }
        return (greatest - sum(rule, row, endOf(rule, row), person)) / rule.weights[person];
    }

    private int gainOf(Rule rule, int row, int said, int person) {
        int[] own = list.get(wishesOf(row)[person]);
        int lying = own[endOf(rule, said)] - paymentOf(rule, said, person);
        return lying - (own[endOf(rule, row)] - paymentOf(rule, row, person));
    }

    public int wish() {
        if (list.size() == 6) {
            return -2;
        }
        if (!rules.isEmpty()) {
            return -3;
        }
        list.add(new int[m]);
        return list.size() - 1;
    }

    public int worth(int wish, int end, int v) {
        if (noWish(wish) || noEnd(end) || !in(v, -99, 99)) {
            return -1;
        }
        if (!rules.isEmpty()) {
            return -3;
        }
        int before = list.get(wish)[end];
        list.get(wish)[end] = v;
        return before != v ? 1 : 0;
    }

    private Rule newRule(int kind) {
        Rule rule = new Rule();
        rule.kind = kind;
        rule.number = rules.size();
        rule.ends = new int[rows()];
        rule.payments = new int[rows()][n];
        rule.gifts = new int[m];
        rule.weights = new int[n];
        Arrays.fill(rule.weights, 1);
        rule.places = new int[n - 1];
        return rule;
    }

    public int rule(int kind) {
        if (!in(kind, 0, 3) || list.isEmpty()) {
            return -1;
        }
        if (rules.size() == 8) {
            return -2;
        }
        rules.add(newRule(kind));
        return rules.size() - 1;
    }

    public int put(int rule, int row, int end) {
        if (noRule(rule) || noRow(row) || noEnd(end)) {
            return -1;
        }
        Rule r = rules.get(rule);
        if (r.kind > 1) {
            return -4;
        }
        int before = r.ends[row];
        r.ends[row] = end;
        return before;
    }

    public int pay(int rule, int row, int person, int v) {
        if (noRule(rule) || noRow(row) || noPerson(person) || !in(v, -9999, 9999)) {
            return -1;
        }
        Rule r = rules.get(rule);
        if (r.kind != 1) {
            return -4;
        }
        int before = r.payments[row][person];
        r.payments[row][person] = v;
        return before != v ? 1 : 0;
    }

    public int gift(int rule, int end, int who, int v) {
        if (noRule(rule) || (end == -1) == (who == -1)) {
            return -1;
        }
        boolean wrong = who == -1 ? noEnd(end) || !in(v, -99, 99) : noPerson(who) || end != -1 || !in(v, 0, 9);
        if (wrong) {
            return -1;
        }
        Rule r = rules.get(rule);
        if (r.kind != 2) {
            return -4;
        }
        int[] row = who == -1 ? r.gifts : r.weights;
        int place = who == -1 ? end : who;
        int before = row[place];
        row[place] = v;
        return before != v ? 1 : 0;
    }

    public int middle(int rule, int i, int end) {
        if (noRule(rule) || !in(i, 0, n - 2) || noEnd(end)) {
            return -1;
        }
        Rule r = rules.get(rule);
        if (r.kind != 3) {
            return -4;
        }
        int before = r.places[i];
        r.places[i] = end;
        return before;
    }

    public int end(int rule, int row) {
        return noRule(rule) || noRow(row) ? -1 : endOf(rules.get(rule), row);
    }

    public int pays(int rule, int row, int person) {
        if (noRule(rule) || noRow(row) || noPerson(person)) {
            throw new IllegalArgumentException();
        }
        return paymentOf(rules.get(rule), row, person);
    }

    public int said(int row, int person, int wish) {
        return noRow(row) || noPerson(person) || noWish(wish) ? -1 : saying(row, person, wish);
    }

    public int gain(int rule, int row, int person, int wish) {
        if (noRule(rule) || noRow(row) || noPerson(person) || noWish(wish)) {
            throw new IllegalArgumentException();
        }
        return gainOf(rules.get(rule), row, saying(row, person, wish), person);
    }

    private List<int[]> allLies(Rule rule) {
        List<int[]> lies = new ArrayList<>();
        for (int row = 0; row < rows(); row++) {
            for (int person = 0; person < n; person++) {
                for (int wish = 0; wish < list.size(); wish++) {
                    int gain = gainOf(rule, row, saying(row, person, wish), person);
                    if (gain > 0) {
                        lies.add(new int[] {row, person, wish, gain});
                    }
                }
            }
        }
        return lies;
    }

    public int lie(int rule, int what) {
        if (noRule(rule) || !in(what, 0, 3)) {
            return -1;
        }
        List<int[]> lies = allLies(rules.get(rule));
        return lies.isEmpty() ? -2 : lies.get(0)[what];
    }

    public int lies(int rule) {
        return noRule(rule) ? -1 : allLies(rules.get(rule)).size();
    }

    /** What each person has of a ROW with each WISH: written down once, as a search looks at it for all ROWS. */
    private int[][][] allProfits(Rule rule) {
        int[][][] profits = new int[rows()][n][list.size()];
        for (int row = 0; row < rows(); row++) {
            for (int person = 0; person < n; person++) {
                for (int wish = 0; wish < list.size(); wish++) {
                    int number = list.get(wish)[endOf(rule, row)];
                    profits[row][person][wish] = number - paymentOf(rule, row, person);
                }
            }
        }
        return profits;
    }

    private static boolean liesTogether(int[][] honest, int[][] lying, int[] own, int[] words, int heap) {
        for (int i = 0; i < own.length; i++) {
            boolean member = (heap & 1 << i) != 0;
            if (member ? lying[i][own[i]] <= honest[i][own[i]] : own[i] != words[i]) {
                return false;
            }
        }
        return true;
    }

    public int heap(int rule, int people, boolean told) {
        if (noRule(rule) || !in(people, 1, (1 << n) - 1)) {
            return -1;
        }
        int[][][] profits = allProfits(rules.get(rule));
        int[][] words = new int[rows()][];
        for (int row = 0; row < rows(); row++) {
            words[row] = wishesOf(row);
        }
        for (int row = 0; row < words.length; row++) {
            for (int said = 0; said < words.length; said++) {
                if (liesTogether(profits[row], profits[said], words[row], words[said], people)) {
                    return told ? said : row;
                }
            }
        }
        return -2;
    }

    public int onto(int rule) {
        if (noRule(rule)) {
            return -1;
        }
        Set<Integer> seen = new HashSet<>();
        for (int row = 0; row < rows(); row++) {
            seen.add(endOf(rules.get(rule), row));
        }
        return seen.size();
    }

    public int dictator(int rule) {
        if (noRule(rule)) {
            return -1;
        }
        for (int person = 0; person < n; person++) {
            int hits = 0;
            for (int row = 0; row < rows(); row++) {
                hits += endOf(rules.get(rule), row) == top(wishesOf(row)[person]) ? 1 : 0;
            }
            if (hits == rows()) {
                return person;
            }
        }
        return -2;
    }

    public long budget(int rule, boolean most) {
        if (noRule(rule)) {
            throw new IllegalArgumentException();
        }
        TreeSet<Integer> sums = new TreeSet<>();
        for (int row = 0; row < rows(); row++) {
            int sum = 0;
            for (int person = 0; person < n; person++) {
                sum += paymentOf(rules.get(rule), row, person);
            }
            sums.add(sum);
        }
        return most ? sums.last() : sums.first();
    }

    public long welfare(int rule) {
        if (noRule(rule)) {
            throw new IllegalArgumentException();
        }
        long sum = 0;
        for (int row = 0; row < rows(); row++) {
            for (int wish : wishesOf(row)) {
                sum += list.get(wish)[endOf(rules.get(rule), row)];
            }
        }
        return sum;
    }

    /** LENGTHS among the ENDS that come about, keyed by the two ENDS. */
    private Map<List<Integer>, Integer> lengths(Rule rule, int row, int person) {
        Set<Integer> come = coming(rule, row, person);
        Map<List<Integer>, Integer> lengths = new HashMap<>();
        for (int wish = 0; wish < list.size(); wish++) {
            int f = endOf(rule, saying(row, person, wish));
            for (int e : come) {
                lengths.merge(List.of(e, f), list.get(wish)[f] - list.get(wish)[e], Math::min);
            }
        }
        return lengths;
    }

    private TreeSet<Integer> coming(Rule rule, int row, int person) {
        TreeSet<Integer> come = new TreeSet<>();
        for (int wish = 0; wish < list.size(); wish++) {
            come.add(endOf(rule, saying(row, person, wish)));
        }
        return come;
    }

    /** The least sum of all ways through ENDS once each, from the path's last END to the goal. */
    private int leastWay(Map<List<Integer>, Integer> lengths, Set<Integer> come, List<Integer> path, int goal) {
        int last = path.get(path.size() - 1);
        int least = lengths.get(List.of(last, goal));
        for (int next : come) {
            if (!path.contains(next) && next != goal) {
                List<Integer> longer = new ArrayList<>(path);
                longer.add(next);
                least = Math.min(least, lengths.get(List.of(last, next)) + leastWay(lengths, come, longer, goal));
            }
        }
        return least;
    }

    private int leastRound(Rule rule, int row, int person) {
        Map<List<Integer>, Integer> lengths = lengths(rule, row, person);
        Set<Integer> come = coming(rule, row, person);
        int least = 0;
        for (int start : come) {
            least = Math.min(least, leastWay(lengths, come, List.of(start), start));
        }
        return least;
    }

    public int span(int rule, int row, int person, int e, int f) {
        if (noRule(rule) || noRow(row) || noPerson(person) || noEnd(e) || noEnd(f)) {
            throw new IllegalArgumentException();
        }
        Integer length = lengths(rules.get(rule), row, person).get(List.of(e, f));
        if (length == null) {
            throw new IllegalStateException();
        }
        return length;
    }

    private int[] firstRound(Rule rule) {
        for (int person = 0; person < n; person++) {
            for (int row = 0; row < rows(); row++) {
                if (wishesOf(row)[person] == 0 && leastRound(rule, row, person) < 0) {
                    return new int[] {person, row, -leastRound(rule, row, person)};
                }
            }
        }
        return null;
    }

    public int round(int rule, int what) {
        if (noRule(rule) || !in(what, 0, 2)) {
            return -1;
        }
        int[] first = firstRound(rules.get(rule));
        return first == null ? -2 : first[what];
    }

    private int priceOf(Rule rule, int row, int person, int end) {
        TreeSet<Integer> come = coming(rule, row, person);
        int from = come.first();
        return from == end ? 0 : leastWay(lengths(rule, row, person), come, List.of(from), end);
    }

    public int price(int rule, int row, int person, int end) {
        if (noRule(rule) || noRow(row) || noPerson(person) || noEnd(end)) {
            throw new IllegalArgumentException();
        }
        Rule r = rules.get(rule);
        if (!coming(r, row, person).contains(end) || leastRound(r, row, person) < 0) {
            throw new IllegalStateException();
        }
        return priceOf(r, row, person, end);
    }

    public int honest(int rule) {
        if (noRule(rule)) {
            return -1;
        }
        if (rules.size() == 8) {
            return -2;
        }
        Rule r = rules.get(rule);
        if (firstRound(r) != null) {
            return -3;
        }
        Rule priced = newRule(1);
        for (int row = 0; row < rows(); row++) {
            priced.ends[row] = endOf(r, row);
            for (int person = 0; person < n; person++) {
                priced.payments[row][person] = priceOf(r, row, person, priced.ends[row]);
            }
        }
        rules.add(priced);
        return priced.number;
    }

    public int same(int rule, int other) {
        if (noRule(rule) || noRule(other)) {
            return -1;
        }
        for (int row = 0; row < rows(); row++) {
            if (end(rule, row) != end(other, row)) {
                return 0;
            }
            for (int person = 0; person < n; person++) {
                if (pays(rule, row, person) != pays(other, row, person)) {
                    return 0;
                }
            }
        }
        return 1;
    }

    public int fair(int rule) {
        if (noRule(rule)) {
            return -1;
        }
        Map<List<Integer>, Integer> endOfWords = new HashMap<>();
        for (int row = 0; row < rows(); row++) {
            List<Integer> words = new ArrayList<>();
            for (int wish : wishesOf(row)) {
                words.add(wish);
            }
            words.sort(null);
            Integer before = endOfWords.put(words, end(rule, row));
            if (before != null && before != end(rule, row)) {
                return 0;
            }
        }
        return 1;
    }

    /** The digits of an order of 0 .. n - 1, or null. */
    private List<Integer> digits(int number) {
        if (number < 0) {
            return null;
        }
        StringBuilder text = new StringBuilder(Integer.toString(number));
        while (text.length() < n) {
            text.insert(0, '0');
        }
        List<Integer> digits = new ArrayList<>();
        for (char sign : text.toString().toCharArray()) {
            digits.add(sign - '0');
        }
        List<Integer> sorted = new ArrayList<>(digits);
        sorted.sort(null);
        List<Integer> wanted = new ArrayList<>();
        for (int i = 0; i < n; i++) {
            wanted.add(i);
        }
        return sorted.equals(wanted) ? digits : null;
    }

    private static int number(int[] digits) {
        int number = 0;
        for (int digit : digits) {
            number = number * 10 + digit;
        }
        return number;
    }

    public int likes(int person, int order) {
        if (noPerson(person) || digits(order) == null) {
            return -1;
        }
        likings.set(person, digits(order));
        return 0;
    }

    private int bestOf(int person, Set<Integer> left) {
        for (int thing : likings.get(person)) {
            if (left.contains(thing)) {
                return thing;
            }
        }
        throw new AssertionError();
    }

    private int[][] ringsAndRounds() {
        Set<Integer> left = new TreeSet<>(likings.get(0));
        int[] got = new int[n];
        int[] when = new int[n];
        for (int round = 1; !left.isEmpty(); round++) {
            Set<Integer> leaving = new TreeSet<>();
            for (int person : left) {
                Set<Integer> path = new HashSet<>();
                int at = person;
                while (path.add(at)) {
                    at = bestOf(at, left);
                }
                // the walk ends where it first comes back to: on a ring, and on the person's own if it is them
                if (at == person) {
                    leaving.add(person);
                    got[person] = bestOf(person, left);
                    when[person] = round;
                }
            }
            left.removeAll(leaving);
        }
        return new int[][] {got, when};
    }

    public int rings() {
        return number(ringsAndRounds()[0]);
    }

    public int leaves(int person) {
        return noPerson(person) ? -1 : ringsAndRounds()[1][person];
    }

    public int turns(int order) {
        if (digits(order) == null) {
            return -1;
        }
        Set<Integer> left = new TreeSet<>(likings.get(0));
        int[] got = new int[n];
        for (int person : digits(order)) {
            got[person] = bestOf(person, left);
            left.remove(got[person]);
        }
        return number(got);
    }

    private int place(int person, int thing) {
        return likings.get(person).indexOf(thing);
    }

    /** Whether a HEAP can share out its things so that none of it is worse off and one is better off. */
    private boolean canBlock(int heap, int person, Set<Integer> things, List<Integer> trade, boolean better) {
        if (person == n) {
            return better;
        }
        if ((heap & 1 << person) == 0) {
            return canBlock(heap, person + 1, things, trade, better);
        }
        for (int thing : things) {
            int gain = place(person, trade.get(person)) - place(person, thing);
            if (gain >= 0) {
                Set<Integer> rest = new TreeSet<>(things);
                rest.remove(thing);
                if (canBlock(heap, person + 1, rest, trade, better || gain > 0)) {
                    return true;
                }
            }
        }
        return false;
    }

    public int blocks(int trade) {
        if (digits(trade) == null) {
            return -1;
        }
        for (int heap = 1; heap < 1 << n; heap++) {
            Set<Integer> things = new TreeSet<>();
            for (int i = 0; i < n; i++) {
                if ((heap & 1 << i) != 0) {
                    things.add(i);
                }
            }
            if (canBlock(heap, 0, things, digits(trade), false)) {
                return heap;
            }
        }
        return -2;
    }

    private List<Integer> theCore() {
        List<Integer> core = new ArrayList<>();
        for (int trade : allOrders) {
            if (blocks(trade) == -2) {
                core.add(trade);
            }
        }
        return core;
    }

    public int core(int i) {
        if (i < 0) {
            return -1;
        }
        return i < theCore().size() ? theCore().get(i) : -2;
    }

    public int good(int trade) {
        if (digits(trade) == null) {
            return -1;
        }
        for (int other : allOrders) {
            boolean worse = false;
            boolean better = false;
            for (int i = 0; i < n; i++) {
                int gain = place(i, digits(trade).get(i)) - place(i, digits(other).get(i));
                worse |= gain < 0;
                better |= gain > 0;
            }
            if (better && !worse) {
                return 0;
            }
        }
        return 1;
    }

    public int by(int trade) {
        if (digits(trade) == null) {
            return -1;
        }
        for (int order : allOrders) {
            if (turns(order) == trade) {
                return order;
            }
        }
        return -2;
    }

    public int wrong(int person) {
        if (noPerson(person)) {
            return -1;
        }
        List<Integer> own = likings.get(person);
        int honest = own.indexOf(ringsAndRounds()[0][person]);
        for (int order : allOrders) {
            likings.set(person, digits(order));
            int lying = own.indexOf(ringsAndRounds()[0][person]);
            likings.set(person, own);
            if (lying < honest) {
                return order;
            }
        }
        return -2;
    }

    public int count(int what) {
        switch (what) {
            case 0:
                return n;
            case 1:
                return m;
            case 2:
                return list.size();
            case 3:
                return rules.size();
            case 4:
                return rows();
            case 5:
                return (int) allOrders.stream().filter(trade -> good(trade) == 1).count();
            case 6:
                return theCore().size();
            default:
                return -1;
        }
    }

    private static Held rowOfShorts(int size) {
        Held held = new Held();
        held.what = 3;
        held.shorts = new short[size];
        return held;
    }

    private static Held rowOfLongs(int size) {
        Held held = new Held();
        held.what = 4;
        held.longs = new long[size];
        return held;
    }

    private Rule copyOf(Rule rule) {
        Rule copy = newRule(rule.kind);
        copy.number = rule.number;
        copy.places = rule.places.clone();
        return copy;
    }

    public int keep(int d, int what, int k) {
        if (!in(d, 0, 7) || !in(what, 0, 4) || what == 2) {
            return -1;
        }
        if ((what == 1 || what == 3) && noRule(k) || what == 4 && noWish(k)) {
            return -1;
        }
        if (what == 0) {
            shelves[d] = null;
        } else if (what == 1) {
            shelves[d] = new Held();
            shelves[d].what = 1;
            shelves[d].rule = copyOf(rules.get(k));
        } else if (what == 3) {
            shelves[d] = rowOfShorts(Math.min(60, rows()));
            for (int row = 0; row < shelves[d].size(); row++) {
                shelves[d].shorts[row] = (short) end(k, row);
            }
        } else {
            shelves[d] = rowOfLongs(m);
            for (int end = 0; end < m; end++) {
                shelves[d].longs[end] = list.get(k)[end];
            }
        }
        return 0;
    }

    public int make(int d, int what, int n) {
        if (!in(d, 0, 7) || !in(what, 3, 4) || n > 60) {
            return -1;
        }
        if (n < 0) {
            return -14;
        }
        shelves[d] = what == 3 ? rowOfShorts(n) : rowOfLongs(n);
        return 0;
    }

    public long element(int d, int i) {
        if (!in(d, 0, 7)) {
            throw new IllegalArgumentException();
        }
        Held held = shelves[d];
        if (held == null || held.what == 1 || !in(i, 0, held.size() - 1)) {
            throw new IllegalStateException();
        }
        return held.what == 3 ? held.shorts[i] : held.longs[i];
    }

    public int copy(int d, int i, int e, int j, int n) {
        if (!in(d, 0, 7) || !in(e, 0, 7)) {
            return -1;
        }
        Held from = shelves[d];
        Held to = shelves[e];
        if (from == null || to == null) {
            return -11;
        }
        if (from.what == 1 || to.what == 1 || from.what != to.what) {
            return -12;
        }
        if (n < 0 || i < 0 || j < 0 || (long) i + n > from.size() || (long) j + n > to.size()) {
            return -13;
        }
        long[] before = new long[n];
        for (int k = 0; k < n; k++) {
            before[k] = element(d, i + k);
        }
        for (int k = 0; k < n; k++) {
            if (to.what == 3) {
                to.shorts[j + k] = (short) before[k];
            } else {
                to.longs[j + k] = before[k];
            }
        }
        return n;
    }

    private int refusal(int d) {
        if (!in(d, 0, 7)) {
            return -1;
        }
        if (shelves[d] == null) {
            return -11;
        }
        return shelves[d].what == 1 ? 0 : -12;
    }

    public int weight(int d) {
        if (refusal(d) != 0) {
            return refusal(d);
        }
        Rule rule = shelves[d].rule;
        int plain = rule.number + 10;
        switch (rule.kind) {
            case 1:
                return plain + 100;
            case 2:
                return 2 * (plain + 100);
            case 3:
                return plain + 500 + Arrays.stream(rule.places).sum();
            default:
                return plain;
        }
    }

    public int toss(int d) {
        if (refusal(d) != 0) {
            return refusal(d);
        }
        return shelves[d].rule.kind == 0 ? -15 : shelves[d].rule.number;
    }
}
