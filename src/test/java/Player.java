import java.lang.reflect.InvocationTargetException;
import java.lang.reflect.Method;
import java.util.ArrayList;
import java.util.HashMap;
import java.util.List;
import java.util.Map;

/** Plays rows on one object that has the document's calls, and counts the calls. */
final class Player {
    /** Behind so many calls the document promises nothing. */
    static final int MOST_CALLS = 512;

    private final Object object;
    private final Map<String, Method> methods = new HashMap<>();
    private int calls = 0;

    Player(Object object) {
        this.object = object;
        for (Method m : object.getClass().getDeclaredMethods()) {
            if (!m.isSynthetic() && Character.isLowerCase(m.getName().charAt(0))) {
                methods.putIfAbsent(m.getName() + m.getParameterCount(), m);
            }
        }
    }

    int calls() {
        return calls;
    }

    long call(String name, List<Long> numbers) {
        calls++;
        Method m = methods.get(name + numbers.size());
        if (m == null) {
            throw new IllegalArgumentException("no call " + name + numbers);
        }
        Object[] given = new Object[numbers.size()];
        for (int k = 0; k < given.length; k++) {
            boolean isLong = m.getParameterTypes()[k] == long.class;
            given[k] = isLong ? (Object) numbers.get(k) : (Object) Math.toIntExact(numbers.get(k));
        }
        try {
            return ((Number) m.invoke(object, given)).longValue();
        } catch (IllegalAccessException | InvocationTargetException e) {
            throw new IllegalStateException(name + numbers, e);
        }
    }

    /** Answers what was wrong, or null. */
    String play(Row row) {
        return switch (row.kind()) {
            case LETTERS -> differs(feedAll(row.told()), row.want());
            case TELL -> tell(row);
            case WHOLE -> whole(row);
            case CALL -> repeat(row);
        };
    }

    private String repeat(Row row) {
        String wrong = null;
        for (int k = 0; k < row.times() && wrong == null; k++) {
            wrong = differs(call(row.name(), row.numbers()), row.want());
        }
        return wrong;
    }

    private String tell(Row row) {
        feedAll(row.told());
        String wrong = differs(call("weave", List.of()), row.want());
        long place = call("fault", List.of());
        return wrong == null && place != row.wantFault() ? "fault() answered " + place : wrong;
    }

    private String whole(Row row) {
        StringBuilder got = new StringBuilder();
        boolean more = true;
        for (long i = 0; more; i++) {
            long letter = call("text", List.of(row.numbers().get(0), i, 0L));
            more = letter >= 0;
            got.append(more ? String.valueOf((char) letter) : "");
        }
        return got.toString().equals(row.wantText()) ? null : "answered \"" + got + "\"";
    }

    private long feedAll(String letters) {
        long last = 0;
        for (char c : letters.toCharArray()) {
            last = call("feed", List.of((long) c));
        }
        return last;
    }

    private static String differs(long got, long want) {
        return got == want ? null : "answered " + got;
    }

    /** The answers of some calls, made in their order. */
    List<Long> answers(List<Row> asked) {
        List<Long> all = new ArrayList<>();
        for (Row row : asked) {
            all.add(call(row.name(), row.numbers()));
        }
        return all;
    }
}
