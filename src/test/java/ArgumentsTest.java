import java.lang.reflect.InvocationTargetException;
import java.lang.reflect.Method;
import java.lang.reflect.Modifier;
import java.util.ArrayList;
import java.util.Arrays;
import java.util.HashMap;
import java.util.List;
import java.util.Map;
import java.util.TreeMap;

/**
 * Every call with the least and the greatest ints and those beside each limit, any two of its numbers at once, on
 * objects that hold nothing, little, and all they can: it answers as the model does, throws what the document says
 * and nothing else, and leaves the object as the model is left.
 */
public final class ArgumentsTest {
    private static final int MIN = Integer.MIN_VALUE;
    private static final int MAX = Integer.MAX_VALUE;
    private static final int[] MANY = {
        MIN, MIN + 1, -61, -16, -2, -1, 0, 1, 2, 3, 4, 5, 6, 7, 8, 9, 10, 14, 15, 16, 25, 26, 29, 30, 31, 32, 59, 60, 61, 99,
        100, 255, 256, 600, 1 << 29, 1 << 30, MAX - 1, MAX
    };
    private static final int[] FEW = {MIN, -1, 0, 1, 2, 3, 4, 5, 8, 9, 10, 15, 16, 25, 26, 30, 60, 61, 99, 100, MAX};
    private static final int CALLS_OF_AN_OBJECT = 64;
    private static final Check check = new Check();
    private static final Map<String, Method> OF_WEB = methods(PastWeb.class);
    private static final Map<String, Method> OF_MODEL = methods(Model.class);
    /** What the other numbers are, where the first ones decide what they mean; zeros always, too. */
    private static final Map<String, int[][]> BESIDES = besides();

    private final List<Object[]> begin;
    private PastWeb web;
    private Model model;
    private int calls;
    private final int[] counts = new int[3];

    private ArgumentsTest(List<Object[]> begin) {
        this.begin = begin;
        makeAnew();
    }

    private static Map<String, int[][]> besides() {
        Map<String, int[][]> besides = new HashMap<>();
        besides.put("put", new int[][] {{1, 1, 1}, {15, 3, 99}});
        besides.put("link", new int[][] {{2, 1, 2}});
        besides.put("part", new int[][] {{2, 1, 5}, {1, 1, 0}});
        besides.put("together", new int[][] {{0, 1, 1}});
        besides.put("of", new int[][] {{1, 10, 0}, {2, 25, 0}});
        besides.put("two", new int[][] {{3, 0, 0, 1}, {4, 2, 10, 2}, {5, 0, 0, 0}});
        besides.put("term", new int[][] {{6, 0, 0}, {7, 1, 0}, {13, 0, 1}, {14, 1, 1}, {14, 2, 5}});
        besides.put("span", new int[][] {{1, 0, 1, 0}, {5, 0, 0, 0}});
        besides.put("keep", new int[][] {{7, 1, 0}, {7, 3, 0}, {7, 4, 0}});
        besides.put("make", new int[][] {{7, 3, 1}, {7, 4, 1}});
        besides.put("copy", new int[][] {{1, 0, 3, 0, 1}, {2, 1, 4, 1, 2}, {6, 0, 1, 0, 0}, {0, 0, 1, 0, 0}, {1, 0, 2, 0, 0}});
        return besides;
    }

    private static Map<String, Method> methods(Class<?> of) {
        Map<String, Method> methods = new TreeMap<>();
        for (Method method : of.getDeclaredMethods()) {
            boolean isAsked = of == PastWeb.class ? Modifier.isPublic(method.getModifiers()) : method.getReturnType() == long.class;
            if (isAsked && !Modifier.isStatic(method.getModifiers()) && !Modifier.isPrivate(method.getModifiers())) {
                methods.put(method.getName(), method);
            }
        }
        return methods;
    }

    // ---- what objects begin with

    private static Object[] call(String name, Object... arguments) {
        Object[] call = new Object[arguments.length + 1];
        call[0] = name;
        System.arraycopy(arguments, 0, call, 1, arguments.length);
        return call;
    }

    private static List<Object[]> bare() {
        List<Object[]> begin = new ArrayList<>();
        begin.add(call("state", -1, -1));
        return begin;
    }

    private static List<Object[]> busy() {
        List<Object[]> begin = bare();
        begin.add(call("put", 0, 1, 10));
        begin.add(call("put", 1, 1, 11));
        begin.add(call("put", 2, 1, 12));
        begin.add(call("put", 15, 3, 99));
        begin.add(call("link", 0, 0, 1, true));
        begin.add(call("link", 0, 1, 2, true));
        begin.add(call("link", 2, 15, 15, true));
        addTerms(begin);
        begin.add(call("keepTerm", 0));
        begin.add(call("keepTerm", 1));
        begin.add(call("state", 0, -1));
        begin.add(call("gone", 1));
        begin.add(call("put", 3, 1, 11));
        begin.add(call("read", false));
        begin.add(call("state", 1, 0));
        fillShelves(begin);
        return begin;
    }

    private static List<Object[]> full() {
        List<Object[]> begin = new ArrayList<>();
        for (int i = 0; i < 30; i++) {
            begin.add(call("state", i - 1, i < 2 ? -1 : i / 2 - 1));
            begin.add(call("put", i % 16, i % 4, i));
            begin.add(call("link", i % 3, i % 16, i % 16, true));
            begin.add(call("read", i % 7 != 3));
        }
        addTerms(begin);
        for (int i = 6; i < 60; i++) {
            begin.add(call("of", 0, 10 + i % 16, 0));
        }
        for (int i = 0; i < 6; i++) {
            begin.add(call("keepTerm", i % 2 == 0 ? 0 : 59));
        }
        fillShelves(begin);
        return begin;
    }

    /** THERE 0, LINK 0 0 1, THERE 2, and one with a cost of 785. */
    private static void addTerms(List<Object[]> begin) {
        begin.add(call("of", 0, 0, 0));
        begin.add(call("two", 3, 0, 0, 1));
        begin.add(call("of", 0, 2, 0));
        begin.add(call("term", 7, 0, 0));
        begin.add(call("term", 14, 1, 3));
        begin.add(call("term", 14, 1, 4));
    }

    private static void fillShelves(List<Object[]> begin) {
        begin.add(call("keep", 0, 1, 1));
        begin.add(call("keep", 1, 3, 0));
        begin.add(call("keep", 2, 4, 0));
        begin.add(call("make", 3, 3, 4));
        begin.add(call("make", 4, 4, 60));
        begin.add(call("keep", 5, 1, 3));
    }

    // ---- calls of both

    private static long answer(Map<String, Method> methods, Object asked, Object[] call) {
        try {
            Method method = methods.get((String) call[0]);
            return ((Number) method.invoke(asked, Arrays.copyOfRange(call, 1, call.length))).longValue();
        } catch (IllegalAccessException e) {
            throw new IllegalStateException(e);
        } catch (InvocationTargetException e) {
            return thrown(call, e.getCause());
        }
    }

    private static long thrown(Object[] call, Throwable thrown) {
        if (thrown.getClass() == IllegalArgumentException.class) {
            return Model.ILLEGAL_ARGUMENT;
        }
        if (thrown.getClass() == IllegalStateException.class) {
            return Model.ILLEGAL_STATE;
        }
        check.due(Arrays.toString(call) + " throws", thrown.toString(), "nothing of the kind");
        return Long.MAX_VALUE;
    }

    private void makeAnew() {
        web = new PastWeb();
        model = new Model();
        for (Object[] call : begin) {
            answer(OF_WEB, web, call);
            answer(OF_MODEL, model, call);
        }
        for (int what = 0; what < 3; what++) {
            counts[what] = web.count(what);
        }
        calls = 0;
    }

    private boolean isWornOut() {
        return calls == CALLS_OF_AN_OBJECT || web.count(0) != counts[0] || web.count(1) != counts[1] || web.count(2) != counts[2];
    }

    private void ask(Object[] call) {
        check.due(Arrays.toString(call), answer(OF_WEB, web, call), answer(OF_MODEL, model, call));
        calls++;
        if (isWornOut()) {
            compareAll(Arrays.toString(call));
            makeAnew();
        }
    }

    /** What can be asked at little cost. */
    private void compareAll(String last) {
        for (int state = 0; state < web.count(0); state += 1 + web.count(0) / 8) {
            for (int what = 0; what < 7; what++) {
                same(last, call("look", state, what));
            }
            for (int part = 0; part < 16; part += 3) {
                for (int what = 0; what < 6; what++) {
                    same(last, call("part", state, part, what));
                }
            }
        }
        for (int term = 0; term < web.count(1); term += 1 + web.count(1) / 8) {
            for (int what = 0; what < 4; what++) {
                same(last, call("told", term, what));
            }
        }
        for (int d = 0; d < 8; d++) {
            same(last, call("weight", d));
            for (int i = 0; i < 5; i++) {
                same(last, call("element", d, i));
            }
        }
    }

    private void same(String last, Object[] call) {
        check.due(Arrays.toString(call) + " behind " + last, answer(OF_WEB, web, call), answer(OF_MODEL, model, call));
    }

    // ---- all arguments

    private void askAll(String name) {
        Class<?>[] types = OF_WEB.get(name).getParameterTypes();
        boolean isOfFlag = types.length > 0 && types[types.length - 1] == boolean.class;
        int numbers = types.length - (isOfFlag ? 1 : 0);
        for (int flag = 0; flag < (isOfFlag ? 2 : 1); flag++) {
            askBesides(name, new int[numbers], isOfFlag, flag == 1);
            for (int[] beside : BESIDES.getOrDefault(name, new int[0][])) {
                askBesides(name, beside, isOfFlag, flag == 1);
            }
        }
    }

    private void askBesides(String name, int[] beside, boolean isOfFlag, boolean flag) {
        int n = beside.length;
        int[] ends = n > 2 ? FEW : MANY;
        if (n < 2) {
            for (int end : n == 0 ? new int[1] : ends) {
                ask(with(name, n == 0 ? new int[0] : new int[] {end}, isOfFlag, flag));
            }
            return;
        }
        for (int i = 0; i < n; i++) {
            for (int j = i + 1; j < n; j++) {
                for (int one : ends) {
                    for (int two : ends) {
                        int[] numbers = beside.clone();
                        numbers[i] = one;
                        numbers[j] = two;
                        ask(with(name, numbers, isOfFlag, flag));
                    }
                }
            }
        }
    }

    private static Object[] with(String name, int[] numbers, boolean isOfFlag, boolean flag) {
        Object[] call = new Object[1 + numbers.length + (isOfFlag ? 1 : 0)];
        call[0] = name;
        for (int i = 0; i < numbers.length; i++) {
            call[i + 1] = numbers[i];
        }
        if (isOfFlag) {
            call[call.length - 1] = flag;
        }
        return call;
    }

    public static void main(String[] args) {
        Map<String, List<Object[]>> begins = new TreeMap<>();
        begins.put("none", new ArrayList<>());
        begins.put("bare", bare());
        begins.put("busy", busy());
        begins.put("full", full());
        check.due("calls", OF_MODEL.keySet().containsAll(OF_WEB.keySet()) ? OF_WEB.size() : 0, 32);
        for (String begin : begins.keySet()) {
            check.at("an object that is " + begin);
            for (String name : OF_WEB.keySet()) {
                new ArgumentsTest(begins.get(begin)).askAll(name);
            }
        }
        check.end("ArgumentsTest");
    }
}
