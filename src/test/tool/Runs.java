import java.lang.reflect.InvocationTargetException;
import java.lang.reflect.Method;
import java.util.ArrayList;
import java.util.HashMap;
import java.util.List;
import java.util.Map;

/**
 * Runs of calls told as text. Each section names a promise and a sentence of the document, and begins on a new
 * object. A refused call is looked at twice: for its answer and status, and, on objects of its own, for whether all
 * that can be asked of the object answers as if the call had not been.
 */
final class Runs {
    private static final int CALLS = 512;
    private static final Map<String, Method> METHODS = methods();
    private static final List<Call> ASKING = asking();
    private static final List<Call> CHANGING = changing();

    private static int promise;
    private static String sentence = "";
    private static MachineHall hall = new MachineHall();
    private static int made;
    private static final List<Call> before = new ArrayList<>();
    private static final Map<Integer, long[]> known = new HashMap<>();
    private static int sections;
    private static int asked;
    private static int wrong;

    private Runs() {
    }

    // ---- what a test says

    /** A new object, and the promise and the sentence of the document that the next calls are asked for. */
    static void at(int number, String words) {
        promise = number;
        sentence = words;
        hall = new MachineHall();
        made = 0;
        before.clear();
        known.clear();
        sections++;
    }

    /** Calls that are done, whatever number they give. */
    static void does(String... calls) {
        for (String text : calls) {
            Call call = new Call(text);
            long got = answerOf(call);
            due(text + " is done", got == call.refusal() && statusOf() != 0 ? 0 : 1, 1);
            due("status after " + text, statusOf(), 0);
            keep(call);
        }
    }

    /** A call that gives a number (a boolean counts 1 or 0), with status 0. */
    static void gives(String text, long want) {
        Call call = new Call(text);
        due(text, answerOf(call), want);
        due("status after " + text, statusOf(), 0);
        keep(call);
    }

    static void status(int want) {
        due("status()", statusOf(), want);
    }

    /** A call that is refused: NONE or false, its status, and nothing else is changed. */
    static void refuses(String text, int status) {
        Call call = new Call(text);
        due(text, answerOf(call), call.refusal());
        due("status after " + text, statusOf(), status);
        changesNothing(call);
    }

    /** Makes a sheet and writes the numbers into it. */
    static void fill(int sheet, int sort, long... numbers) {
        does("sheet(" + sheet + ", " + sort + ", " + numbers.length + ")");
        for (int place = 0; place < numbers.length; place++) {
            if (numbers[place] != 0) {
                does("write(" + sheet + ", " + place + ", " + numbers[place] + ")");
            }
        }
    }

    /** Told by the test itself: an answer that no text of calls can ask for. */
    static void due(String what, long got, long want) {
        asked++;
        if (got != want && wrong++ < 40) {
            System.out.println("promise " + promise + ", " + sentence + ": " + what + " is " + got + ", due is " + want);
        }
    }

    static void end(String name) {
        System.out.println(name + ": " + sections + " sentences, " + asked + " answers asked, " + wrong + " wrong");
        if (wrong != 0) {
            System.exit(1);
        }
    }

    // ---- a call

    private static final class Call {
        final String text;
        final Method method;
        final Object[] arguments;

        Call(String text) {
            int open = text.indexOf('(');
            this.text = text;
            method = METHODS.get(text.substring(0, open));
            String inside = text.substring(open + 1, text.length() - 1).trim();
            String[] words = inside.isEmpty() ? new String[0] : inside.split(", *");
            Class<?>[] types = method.getParameterTypes();
            arguments = new Object[words.length];
            for (int i = 0; i < words.length; i++) {
                arguments[i] = valueOf(words[i], types[i]);
            }
        }

        private static Object valueOf(String word, Class<?> type) {
            if (type == boolean.class) {
                return word.equals("true");
            }
            if (type == long.class) {
                return Long.valueOf(word);
            }
            return word.equals("min") ? Integer.MIN_VALUE : word.equals("max") ? Integer.MAX_VALUE : Integer.valueOf(word);
        }

        long on(MachineHall x) {
            try {
                Object got = method.invoke(x, arguments);
                return got instanceof Boolean is ? is ? 1 : 0 : ((Number) got).longValue();
            } catch (InvocationTargetException thrown) {
                System.out.println(text + " threw " + thrown.getCause());
                return Long.MIN_VALUE;
            } catch (IllegalAccessException hidden) {
                throw new IllegalStateException(text, hidden);
            }
        }

        long refusal() {
            return method.getReturnType() == boolean.class ? 0 : -1;
        }
    }

    private static Map<String, Method> methods() {
        Map<String, Method> found = new HashMap<>();
        for (Method method : MachineHall.class.getDeclaredMethods()) {
            found.put(method.getName(), method);
        }
        return found;
    }

    private static long answerOf(Call call) {
        count();
        return call.on(hall);
    }

    private static int statusOf() {
        count();
        return hall.status();
    }

    private static void count() {
        if (++made > CALLS) {
            throw new IllegalStateException("more calls than an object is promised for: " + sentence);
        }
    }

    private static void keep(Call call) {
        before.add(call);
        known.clear();
    }

    // ---- what a refused call must not have changed

    private static void changesNothing(Call refused) {
        int room = CALLS - before.size() - 2;
        int chunk = room / 4;
        for (int start = 0; start < ASKING.size(); start += chunk) {
            List<Call> part = ASKING.subList(start, Math.min(ASKING.size(), start + chunk));
            compare(refused, part, start, true);
        }
        for (int start = 0; start < CHANGING.size(); start += 2 * chunk) {
            List<Call> part = CHANGING.subList(start, Math.min(CHANGING.size(), start + 2 * chunk));
            compare(refused, part, -1 - start, false);
        }
    }

    private static void compare(Call refused, List<Call> part, int key, boolean askedAhead) {
        long[] without = known.computeIfAbsent(key, k -> answers(ready(), part));
        MachineHall x = ready();
        if (askedAhead) {
            answers(x, part);
        }
        refused.on(x);
        long[] with = answers(x, part);
        for (int i = 0; i < part.size(); i++) {
            if (with[2 * i] != without[2 * i] || with[2 * i + 1] != without[2 * i + 1]) {
                due(part.get(i).text + " behind the refused " + refused.text, with[2 * i], without[2 * i]);
                due("its status", with[2 * i + 1], without[2 * i + 1]);
            }
        }
        asked += part.size();
    }

    private static MachineHall ready() {
        MachineHall x = new MachineHall();
        for (Call call : before) {
            call.on(x);
        }
        return x;
    }

    /** Each answer, and the status behind it. */
    private static long[] answers(MachineHall x, List<Call> calls) {
        long[] got = new long[2 * calls.size()];
        for (int i = 0; i < calls.size(); i++) {
            got[2 * i] = calls.get(i).on(x);
            got[2 * i + 1] = x.status();
        }
        return got;
    }

    /** Calls that tell of an object and leave it as it is. */
    private static List<Call> asking() {
        List<Call> calls = new ArrayList<>();
        add(calls, "read(%d, %d)", 6, 64);
        add(calls, "count(%d)", 5);
        add(calls, "fits(%d, %d)", 24, 17);
        add(calls, "lack(%d, %d)", 24, 17);
        add(calls, "left(%d, %d)", 24, 17);
        add(calls, "enough(%d)", 3);
        for (int fall : new int[] {0, 1, 2, 13}) {
            add(calls, "on(%d, " + fall + ", %d)", 24, 10);
            add(calls, "part(" + fall + ", %d, %d)", 8, 24);
        }
        add(calls, "rest(%d)", 17);
        add(calls, "cheapest()");
        add(calls, "buys(%d, %d)", 12, 4);
        return calls;
    }

    /** Calls that tell by what they change: the sort of a sheet, who is up, who is apart, how many there are. */
    private static List<Call> changing() {
        List<Call> calls = new ArrayList<>();
        for (int sheet = 0; sheet < 6; sheet++) {
            calls.add(new Call("write(" + sheet + ", 0, " + 0x7a6b5c4d3e2f1a8bL + ")"));
            calls.add(new Call("read(" + sheet + ", 0)"));
            calls.add(new Call("copy(" + sheet + ", 0, " + sheet + ", 63, 1)"));
        }
        add(calls, "drop(%d)", 6);
        for (int machine = 0; machine < 12; machine++) {
            calls.add(new Call("up(" + machine + ", true)"));
        }
        for (int a = 0; a < 10; a++) {
            for (int b = 0; b < a; b++) {
                calls.add(new Call("apart(" + a + ", " + b + ", true)"));
            }
        }
        calls.add(new Call("machine(1, 0)"));
        calls.add(new Call("ask(1, 0, 0)"));
        calls.add(new Call("batch(1, 0, 1, 1)"));
        calls.add(new Call("sheet(0, 0, 12)"));
        calls.add(new Call("type(1, 0, 0, 0)"));
        calls.add(new Call("cheapest()"));
        calls.add(new Call("have(0)"));
        calls.add(new Call("cheapest()"));
        calls.add(new Call("wanted(0)"));
        calls.add(new Call("cheapest()"));
        return calls;
    }

    /** One call for each number, or pair of numbers, below the bounds. */
    private static void add(List<Call> calls, String text, int... bounds) {
        int all = 1;
        for (int bound : bounds) {
            all *= bound;
        }
        for (int i = 0; i < all; i++) {
            int second = bounds.length < 2 ? 1 : bounds[1];
            calls.add(new Call(String.format(text, i / second, i % second)));
        }
    }
}
