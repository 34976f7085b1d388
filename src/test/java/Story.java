import java.lang.reflect.InvocationTargetException;
import java.lang.reflect.Method;
import java.util.HashMap;
import java.util.Map;

/**
 * A run of calls on one object, told in rows: "call -> answer; call -> answer | why the document asks for it". A row
 * "text .." feeds a text letter by letter, a row "# .." is a note. An object is used for 512 calls at most.
 */
final class Story {
    private static final Map<String, Integer> NAMES = Map.of("NONE", Check.NONE, "UNKNOWN", Check.UNKNOWN,
        "OUTSIDE", Check.OUTSIDE, "NOT", Check.NOT, "FULL", Check.FULL);
    private static final Map<String, Method> CALLS = new HashMap<>();

    static {
        for (Method m : TidedGround.class.getDeclaredMethods()) {
            CALLS.put(m.getName(), m);
        }
    }

    private final String name;
    private final TidedGround g = new TidedGround();
    private int calls = 0;

    private Story(String name) {
        this.name = name;
    }

    static void run(String name, String rows) {
        Story story = new Story(name);
        for (String row : rows.split("\n")) {
            story.row(row);
        }
        Check.due(name + ": calls above 512", Math.max(0, story.calls - 512), 0);
    }

    private void row(String row) {
        if (row.startsWith("text ")) {
            feed(row.substring(5));
        } else if (!row.isBlank() && !row.startsWith("#")) {
            int bar = row.indexOf('|');
            String why = bar < 0 ? "" : " (" + row.substring(bar + 1).trim() + ")";
            for (String one : (bar < 0 ? row : row.substring(0, bar)).split(";")) {
                String[] sides = one.split("->");
                due(sides[0].trim() + why, answer(g, sides[0].trim()), number(sides[1].trim()));
                calls++;
            }
        }
    }

    private void feed(String text) {
        int had = g.told(7);
        for (int i = 0; i < text.length(); i++) {
            due("feed " + (int) text.charAt(i), g.feed(text.charAt(i)), had + i + 1);
        }
        calls += 1 + text.length();
    }

    private void due(String call, int got, int want) {
        Check.due(name + ", call " + calls + ": " + call, got, want);
    }

    /** What an object answers to a call that is written as "name(number, number)". */
    static int answer(TidedGround g, String call) {
        int open = call.indexOf('(');
        Method m = CALLS.get(call.substring(0, open));
        String inside = call.substring(open + 1, call.lastIndexOf(')')).trim();
        String[] words = inside.isEmpty() ? new String[0] : inside.split(",");
        Object[] numbers = new Object[words.length];
        for (int i = 0; i < words.length; i++) {
            numbers[i] = number(words[i].trim());
        }
        try {
            return (Integer) m.invoke(g, numbers);
        } catch (IllegalAccessException | InvocationTargetException e) {
            throw new IllegalStateException(call, e);
        }
    }

    /** A number, or the name of a constant. */
    static int number(String word) {
        Integer named = NAMES.get(word.replace("TidedGround.", ""));
        return named == null ? Integer.parseInt(word) : named;
    }
}
