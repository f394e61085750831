import java.lang.reflect.InvocationTargetException;
import java.lang.reflect.Method;
import java.lang.reflect.Modifier;
import java.util.ArrayList;
import java.util.HashMap;
import java.util.List;
import java.util.Map;

/** Calls on an object, written as in the document, "alter(0, 1, MAX)"; MIN and MAX are the least and the greatest int. */
final class Run {
    private static final int MOST_CALLS = 512;
    private static final Map<String, Method> FACE = new HashMap<>();
    private final Bounds bounds;
    private final List<String> made = new ArrayList<>();
    private List<String> portrait;

    static {
        for (Method m : HeelDance.class.getDeclaredMethods()) {
            if (Modifier.isPublic(m.getModifiers())) FACE.put(m.getName(), m);
        }
    }

    Run(Bounds bounds) {
        this.bounds = bounds;
    }

    /** Calls whose answers another test looks at. */
    Run makes(String... calls) {
        made.addAll(List.of(calls));
        portrait = null;
        if (made.size() > MOST_CALLS) throw new IllegalStateException("the test's own run is too long");
        return this;
    }

    Run feeds(String bytes) {
        for (int i = 0; i < bytes.length(); i++) {
            makes("feed(" + (int) bytes.charAt(i) + ")");
        }
        return this;
    }

    Run tells(String text) {
        return feeds(text).makes("text()");
    }

    /** A call that is made, with its answer. */
    Run does(String call, long want) {
        bounds.due(call, answer(object(), call), want);
        return makes(call);
    }

    /** A call that is refused, or one that only asks: its answer, and that nothing is otherwise than without it. */
    Run asks(String call, long want) {
        HeelDance x = object();
        int fault = x.fault();
        bounds.due(call, answer(x, call), want);
        bounds.due(call + ", once more", answer(x, call), want);
        bounds.due("fault() behind " + call, x.fault(), fault);
        unchanged(call, x);
        return this;
    }

    /** A text whose fault is found: where, which; all but the tape stays. */
    Run faulty(String text, int place, int fault) {
        makes("end(0)");
        HeelDance x = object();
        String call = "text() of '" + text + "'";
        bounds.due(call, Check.tell(x, text), -10 - place);
        bounds.due("fault() behind " + call, x.fault(), fault);
        unchanged(call, x);
        return this;
    }

    private void unchanged(String call, HeelDance x) {
        if (portrait == null) portrait = Portrait.of(object());
        List<String> then = Portrait.of(x);
        if (made.size() + then.size() > MOST_CALLS - Portrait.MORE_CALLS) throw new IllegalStateException("too long a run");
        String other = "nothing";
        for (int i = Math.min(portrait.size(), then.size()) - 1; i >= 0; i--) {
            if (!portrait.get(i).equals(then.get(i))) other = portrait.get(i) + ", then " + then.get(i);
        }
        bounds.holds(call + " changes " + other, portrait.equals(then));
    }

    private HeelDance object() {
        HeelDance x = new HeelDance();
        for (String call : made) {
            answer(x, call);
        }
        return x;
    }

    static long answer(HeelDance x, String call) {
        int open = call.indexOf('(');
        String inside = call.substring(open + 1, call.length() - 1);
        String[] words = inside.isEmpty() ? new String[0] : inside.split(", *");
        Object[] arguments = new Object[words.length];
        for (int i = 0; i < words.length; i++) {
            arguments[i] = argument(words[i]);
        }
        try {
            return ((Number) FACE.get(call.substring(0, open)).invoke(x, arguments)).longValue();
        } catch (InvocationTargetException e) {
            System.out.println(call + " threw " + e.getCause());
            return Long.MIN_VALUE;
        } catch (ReflectiveOperationException e) {
            throw new IllegalStateException(e);
        }
    }

    private static Object argument(String word) {
        switch (word) {
            case "true": return true;
            case "false": return false;
            case "MIN": return Integer.MIN_VALUE;
            case "MAX": return Integer.MAX_VALUE;
            default: return Integer.valueOf(word);
        }
    }
}
