import java.lang.reflect.Method;
import java.util.ArrayList;
import java.util.HashMap;
import java.util.List;
import java.util.Map;

/** An object that is called by name: a DayMarket, or the Model of it; it counts its calls, since 512 are promised. */
final class Subject {
    private static final int MOST_CALLS = 512;
    private static final Map<String, Method> METHODS = new HashMap<>();

    private final Object object;
    private int calls = 0;

    Subject(Object object) {
        this.object = object;
    }

    static Subject behind(List<Script.Call> history) {
        Subject x = new Subject(new DayMarket());
        history.forEach(x::answer);
        return x;
    }

    int answer(Script.Call call) {
        return answer(call.name(), call.numbers());
    }

    int answer(String name, int... numbers) {
        calls++;
        if (calls > MOST_CALLS) {
            throw new IllegalStateException("more than 512 calls: " + name);
        }
        Object[] given = new Object[numbers.length];
        for (int i = 0; i < numbers.length; i++) {
            given[i] = numbers[i];
        }
        try {
            return (Integer) method(name, numbers.length).invoke(object, given);
        } catch (ReflectiveOperationException e) {
            throw new IllegalStateException(name + " of " + numbers.length, e);
        }
    }

    private Method method(String name, int many) {
        return METHODS.computeIfAbsent(object.getClass().getName() + " " + name + " " + many, k -> {
            Class<?>[] types = new Class<?>[many];
            java.util.Arrays.fill(types, int.class);
            try {
                Method m = object.getClass().getMethod(name, types);
                m.setAccessible(true);
                return m;
            } catch (NoSuchMethodException e) {
                throw new IllegalStateException(k, e);
            }
        });
    }

    /** What is now: the market, slots, sheets. What is asked for may change them, so this is the last use of it. */
    List<String> whatIsNow() {
        List<String> rows = new ArrayList<>();
        addMarket(rows);
        for (int slot = 0; slot < 5; slot++) {
            addSlot(rows, slot);
        }
        for (int sheet = 0; sheet < 4; sheet++) {
            addSheet(rows, sheet);
        }
        for (int sheet = 1; sheet < 4; sheet++) {
            addSort(rows, sheet, 0);
        }
        return rows;
    }

    /** What is kept elsewhere: numbers that wait, THE TAPE, THE IMAGE. As above, its last use. */
    List<String> whatIsKept() {
        List<String> rows = new ArrayList<>();
        int waits = add(rows, "count", 5);
        add(rows, "count", 6);
        add(rows, "check", Math.max(1, waits / 2));
        int text = add(rows, "text");
        if (text >= 0) {
            add(rows, "textTold", text, 0);
            add(rows, "textTold", text, 1);
            add(rows, "fine", 0);
        }
        add(rows, "back");
        addMarket(rows);
        addSort(rows, 0, 1);
        return rows;
    }

    private int add(List<String> rows, String name, int... numbers) {
        int got = answer(name, numbers);
        rows.add(new Script.Call(name, numbers) + " answered " + got);
        return got;
    }

    private void addMarket(List<String> rows) {
        for (int what : new int[] {0, 1, 2, 3, 4, 7}) {
            add(rows, "count", what);
        }
        for (int what = 0; what < 3; what++) {
            add(rows, "ledger", what);
            add(rows, "why", what);
        }
        for (int one = 0; one < 6; one++) {
            for (int what = 0; what < 3; what++) {
                add(rows, "one", one, what);
            }
            add(rows, "fine", one);
        }
        int days = answer("count", 0);
        for (int day = 0; day < days; day++) {
            for (int what = 0; what < 7; what++) {
                add(rows, "told", day, what);
            }
        }
        int texts = answer("count", 4);
        for (int text = 0; text < texts; text++) {
            add(rows, "textTold", text, 0);
            add(rows, "textTold", text, 1);
        }
        if (days > 0) {
            add(rows, "behind", 0, 3, 1);
            add(rows, "richest", 3, 1);
        }
    }

    private void addSlot(List<String> rows, int slot) {
        int worth = add(rows, "ask", slot, 0);
        int number = add(rows, "rest", slot, Integer.MIN_VALUE);
        if (worth == DayMarket.KIND && number == DayMarket.KIND) {
            addPlaces(rows, slot);
        }
    }

    private void addPlaces(List<String> rows, int slot) {
        int got = 0;
        for (int place = 0; place <= 24 && got != DayMarket.INDEX; place++) {
            got = add(rows, "item", slot, place);
        }
    }

    private void addSheet(List<String> rows, int sheet) {
        if (add(rows, "lay", 0, 2, sheet) != DayMarket.NOTHING) {
            addPlaces(rows, 0);
        }
    }

    /** Whether it is of shorts: the other one becomes an empty row of them. */
    private void addSort(List<String> rows, int sheet, int other) {
        answer("sheet", other, 0, 0);
        add(rows, "copy", sheet, 0, other, 0, 0);
    }
}
