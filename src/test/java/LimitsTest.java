import java.lang.management.ManagementFactory;
import java.lang.reflect.InvocationTargetException;
import java.lang.reflect.Method;
import java.util.ArrayList;
import java.util.Arrays;
import java.util.List;

/**
 * All promises at their limits: no call throws but what its promise names, whatever the arguments and the state,
 * and a run of the dearest calls stays far below the room that all calls of a run share.
 */
public final class LimitsTest {
    private static final Check CHECK = new Check();
    private static final int[] MANY = {Integer.MIN_VALUE, -100, -2, -1, 0, 1, 2, 3, 4, 5, 6, 7, 8, 9, 15, 16, 60, 61,
        99, 100, 123, 3210, 9999, 10000, 1295, 1296, Integer.MAX_VALUE};
    private static final int[] FEW = {Integer.MIN_VALUE, -1, 0, 1, 3, 5, 61, Integer.MAX_VALUE};

    public static void main(String[] args) throws Exception {
        for (int people = 0; people < 3; people++) {
            everyCall(new HonestHouse(people, 3 - people));
            everyCall(withWishes(people, people, 2));
            everyCall(withRules(people, 1 + people, people == 2 ? 1 : 3));
        }
        greatest();
        room();
        CHECK.end();
    }

    private static HonestHouse withWishes(int people, int ends, int wishes) {
        HonestHouse x = new HonestHouse(people, ends);
        for (int wish = 0; wish < wishes; wish++) {
            x.wish();
            for (int end = 0; end < x.count(1); end++) {
                x.worth(wish, end, (wish * 37 + end * 53) % 199 - 99);
            }
        }
        return x;
    }

    private static HonestHouse withRules(int people, int ends, int wishes) {
        HonestHouse x = withWishes(people, ends, wishes);
        for (int kind = 0; kind < 4; kind++) {
            x.rule(kind);
            x.keep(kind, 1, kind);
            x.keep(kind + 4, 3 + kind % 2, 0);
        }
        return x;
    }

    private static void everyCall(HonestHouse x) throws Exception {
        for (Method method : HonestHouse.class.getDeclaredMethods()) {
            if (java.lang.reflect.Modifier.isPublic(method.getModifiers())) {
                Object[] arguments = new Object[method.getParameterCount()];
                everyCall(x, method, arguments, 0);
            }
        }
    }

    private static void everyCall(HonestHouse x, Method method, Object[] arguments, int place) throws Exception {
        if (place == arguments.length) {
            onlyWhatIsNamed(x, method, arguments);
        } else if (method.getParameterTypes()[place] == boolean.class) {
            for (boolean value : new boolean[] {false, true}) {
                arguments[place] = value;
                everyCall(x, method, arguments, place + 1);
            }
        } else {
            for (int value : arguments.length > 2 ? FEW : MANY) {
                arguments[place] = value;
                everyCall(x, method, arguments, place + 1);
            }
        }
    }

    private static void onlyWhatIsNamed(HonestHouse x, Method method, Object[] arguments) throws Exception {
        List<Class<?>> named = new ArrayList<>(Arrays.asList(method.getExceptionTypes()));
        try {
            method.invoke(x, arguments);
        } catch (InvocationTargetException e) {
            Class<?> thrown = e.getCause().getClass();
            CHECK.holds(method.getName() + Arrays.toString(arguments) + " threw " + thrown, named.contains(thrown));
        }
    }

    /** The greatest house: what its numbers come to at most. */
    private static void greatest() {
        HonestHouse x = new HonestHouse(2, 3);
        for (int wish = 0; wish < 6; wish++) {
            x.wish();
            for (int end = 0; end < 5; end++) {
                x.worth(wish, end, wish == end ? 99 : -99);
            }
        }
        CHECK.due("rows", x.count(4), 1296);
        x.rule(1);
        for (int row = 0; row < 1296; row++) {
            x.put(0, row, 0);
            for (int person = 0; person < 4; person++) {
                x.pay(0, row, person, 9999);
            }
        }
        CHECK.due("budget", x.budget(0, false), 4 * 9999);
        // wish 0 stands 216 times for each of 4 people
        CHECK.due("welfare", x.welfare(0), 4L * (216 * 99 - 5 * 216 * 99));
        CHECK.due("all lie in vain", x.heap(0, 15, false), -2);
        x.rule(2);
        x.gift(1, -1, 0, 9);
        // person 0 alone of weight 9 brings about end 1 against three of end 0: 297 less -297, by 9
        CHECK.due("person 0 decides", x.end(1, 1), 1);
        CHECK.due("and pays", x.pays(1, 1, 0), 66);
        x.rule(0);
        for (int row = 0; row < 1296; row++) {
            x.put(2, row, (row + 1) % 6 % 5);
        }
        // wishes 0 .. 5 of person 0 bring ends 1 2 3 4 0 1: each length is at least -198
        CHECK.due("round of person 0", x.round(2, 0), 0);
        CHECK.due("round at row 0", x.round(2, 1), 0);
        CHECK.due("round through five ends", x.round(2, 2), 990);
    }

    private static void room() {
        com.sun.management.ThreadMXBean bean = (com.sun.management.ThreadMXBean) ManagementFactory.getThreadMXBean();
        long thread = Thread.currentThread().getId();
        dearestRun();
        long before = bean.getThreadAllocatedBytes(thread);
        dearestRun();
        long bytes = bean.getThreadAllocatedBytes(thread) - before;
        CHECK.holds("a run made " + bytes + " bytes", bytes < 1000000);
    }

    private static void dearestRun() {
        HonestHouse x = withWishes(2, 3, 6);
        for (int rule = 0; rule < 4; rule++) {
            x.rule(rule);
        }
        for (int i = 0; i < 30; i++) {
            x.honest(i % 4);
            x.gift(2, i % 5, -1, i);
            x.middle(3, i % 3, i % 5);
            x.lies(i % 4);
            x.lie(i % 4, 0);
            x.heap(i % 4, 1 + i % 15, true);
            x.round(i % 4, 2);
            x.same(i % 4, 2);
            x.keep(i % 8, 1, i % 4);
            x.keep(i % 8, 3, i % 4);
            x.make(i % 8, 4, 60);
            x.count(5);
            x.count(6);
            x.wrong(i % 4);
        }
    }
}
