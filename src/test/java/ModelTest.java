import java.lang.reflect.InvocationTargetException;
import java.lang.reflect.Method;
import java.util.ArrayList;
import java.util.Arrays;
import java.util.HashMap;
import java.util.List;
import java.util.Map;
import java.util.Random;

/** All promises: runs of calls, chosen by a fixed seed, on the class and on the model; their answers must agree. */
public final class ModelTest {
    /** Of each call, what its arguments are. */
    private static final String[] CALLS = {
        "wish", "worth wish end worth", "rule kind", "put rule row end", "pay rule row person payment",
        "gift rule end none worth", "gift rule none person weight", "gift rule end person weight",
        "middle rule place end", "end rule row", "pays rule row person", "said row person wish",
        "gain rule row person wish", "lie rule what", "lies rule", "heap rule heap bool", "onto rule",
        "dictator rule", "budget rule bool", "welfare rule", "span rule row person end end", "round rule turn",
        "price rule row person end", "honest rule", "same rule rule", "fair rule", "likes person order", "rings",
        "leaves person", "turns order", "blocks order", "core place", "good order", "by order", "wrong person",
        "count count", "keep shelf held rule", "make shelf held size", "element shelf size",
        "copy shelf size shelf size size", "weight shelf", "toss shelf"};
    /** Calls that would soon fill the house. */
    private static final List<String> RARE = List.of("wish", "worth", "rule", "honest");
    private static final int[] ODD = {-1, -2, 5, 7, 61, 1296, 10000, Integer.MAX_VALUE, Integer.MIN_VALUE};

    private final Random random;
    private final Check check;
    private final Map<String, Integer> answered = new HashMap<>();
    private HonestHouse house;
    private Model model;

    private ModelTest(Check check, long seed) {
        this.check = check;
        this.random = new Random(seed);
    }

    public static void main(String[] args) throws Exception {
        Check check = new Check();
        ModelTest test = new ModelTest(check, 20261116);
        for (int run = 0; run < 400; run++) {
            test.run(run, 2 + run % 3, 2 + run / 3 % 4, run % 50 == 0 ? 6 : run % 29 == 0 ? 5 : 1 + run % 4);
        }
        for (String call : CALLS) {
            check.holds(call + " had an answer that was no refusal", test.answered.containsKey(name(call)));
        }
        check.end();
    }

    private static String name(String call) {
        return call.split(" ")[0];
    }

    private void run(int run, int people, int ends, int wishes) throws Exception {
        house = new HonestHouse(people - 2, ends - 2);
        model = new Model(people - 2, ends - 2);
        boolean plain = random.nextInt(4) == 0;
        int calls = wishes > 4 || people > 3 && wishes > 3 ? 60 : 300;
        for (int i = 0; i < wishes; i++) {
            make(run, "wish");
        }
        for (int i = 0; i < wishes * ends; i++) {
            make(run, "worth", i / ends, i % ends, plain ? random.nextInt(4) : random.nextInt(199) - 99);
        }
        for (int i = random.nextInt(5); i >= 0; i--) {
            make(run, "rule", random.nextInt(4));
        }
        fillTables(run);
        for (int i = 0; i < calls; i++) {
            String[] call = CALLS[random.nextInt(CALLS.length)].split(" ");
            if (RARE.contains(call[0]) && random.nextInt(8) != 0) {
                continue;
            }
            Object[] arguments = new Object[call.length - 1];
            for (int k = 0; k < arguments.length; k++) {
                arguments[k] = argument(call[k + 1]);
            }
            make(run, call[0], arguments);
        }
    }

    private void fillTables(int run) throws Exception {
        int rows = house.count(4);
        for (int rule = 0; rule < house.count(3); rule++) {
            boolean few = random.nextBoolean();
            for (int row = 0; row < rows && random.nextInt(rows + 1) != 0; row++) {
                int end = few ? Integer.bitCount(row) % house.count(1) : random.nextInt(house.count(1));
                make(run, "put", rule, row, end);
            }
        }
    }

    private Object argument(String kind) {
        if (kind.equals("bool")) {
            return random.nextBoolean();
        }
        if (kind.equals("none")) {
            return -1;
        }
        if (random.nextInt(25) == 0) {
            return ODD[random.nextInt(ODD.length)];
        }
        switch (kind) {
            case "worth":
                return random.nextInt(201) - 100;
            case "payment":
                return random.nextInt(8) == 0 ? random.nextInt(20004) - 10002 : random.nextInt(100) - 50;
            case "weight":
                return random.nextInt(11);
            case "size":
                return random.nextInt(6) == 0 ? random.nextInt(64) - 2 : random.nextInt(6);
            case "order":
                return order();
            default:
                return random.nextInt(bound(kind));
        }
    }

    private int bound(String kind) {
        switch (kind) {
            case "wish":
                return house.count(2) + 1;
            case "end":
                return house.count(1);
            case "rule":
                return house.count(3) + (random.nextInt(9) == 0 ? 1 : 0);
            case "row":
                return house.count(4);
            case "person":
            case "place":
                return house.count(0);
            case "heap":
                return 1 << house.count(0);
            case "shelf":
                return random.nextInt(4) == 0 ? 8 : 3;
            case "count":
                return 8;
            case "turn":
                return 3;
            default:
                return 5;
        }
    }

    private int order() {
        List<Integer> digits = new ArrayList<>();
        for (int i = 0; i < house.count(0); i++) {
            digits.add(random.nextInt(digits.size() + 1), i);
        }
        int number = 0;
        for (int digit : digits) {
            number = number * 10 + digit;
        }
        return number + (random.nextInt(15) == 0 ? 1 : 0);
    }

    private void make(int run, String name, Object... arguments) throws Exception {
        String got = answer(house, name, arguments);
        String want = answer(model, name, arguments);
        check.holds("run " + run + ": " + name + Arrays.toString(arguments) + " answered " + got + ", due is " + want,
            got.equals(want));
        if (!got.startsWith("-") && !got.startsWith("throws.")) {
            answered.merge(name, 1, Integer::sum);
        } else if (name.equals("wrong") && got.equals("-2")) {
            answered.merge(name, 1, Integer::sum);
        }
    }

    private static String answer(Object target, String name, Object[] arguments) throws Exception {
        for (Method method : target.getClass().getDeclaredMethods()) {
            if (method.getName().equals(name) && method.getParameterCount() == arguments.length) {
                try {
                    return String.valueOf(method.invoke(target, arguments));
                } catch (InvocationTargetException e) {
                    return "throws." + e.getCause().getClass().getSimpleName();
                }
            }
        }
        throw new AssertionError(name);
    }
}
