import java.util.ArrayList;
import java.util.HashMap;
import java.util.LinkedHashMap;
import java.util.LinkedHashSet;
import java.util.List;
import java.util.Map;
import java.util.Set;
import javax.lang.model.element.ExecutableElement;
import javax.lang.model.element.Modifier;

/** Which method calls which: how deep that goes, and where it comes back to itself. */
final class CallDepth {
    private final Map<ExecutableElement, Set<ExecutableElement>> calls = new LinkedHashMap<>();
    private final Map<ExecutableElement, Integer> known = new HashMap<>();
    private ExecutableElement within;

    /** What is called from here on is called by this method. */
    void enter(ExecutableElement method) {
        within = method;
        calls.computeIfAbsent(method, m -> new LinkedHashSet<>());
    }

    void call(ExecutableElement called) {
        if (within != null) calls.get(within).add(called);
    }

    /** Recursion that rule 8 doesn't leave: over several methods, not private, or without a depth. */
    List<String> loops() {
        List<String> loops = new ArrayList<>();
        for (ExecutableElement m : calls.keySet()) {
            boolean isGuarded = m.getModifiers().contains(Modifier.PRIVATE)
                && m.getParameters().stream().anyMatch(p -> p.getSimpleName().contentEquals("depth"));
            if (calls.get(m).contains(m) && !isGuarded) loops.add(m + " calls itself without a depth");
            for (ExecutableElement called : calls.get(m)) {
                if (called != m && reaches(called, m, new LinkedHashSet<>())) loops.add(m + " and " + called);
            }
        }
        return loops;
    }

    private boolean reaches(ExecutableElement from, ExecutableElement to, Set<ExecutableElement> seen) {
        if (from == to) return true;
        if (!seen.add(from)) return false;
        return calls.getOrDefault(from, Set.of()).stream().anyMatch(next -> reaches(next, to, seen));
    }

    /** How many calls stand open at once, recursion not counted. */
    int deepest() {
        return loops().isEmpty() ? calls.keySet().stream().mapToInt(this::below).max().orElse(0) : 0;
    }

    private int below(ExecutableElement method) {
        Integer before = known.get(method);
        if (before != null) return before;
        int most = 0;
        for (ExecutableElement called : calls.getOrDefault(method, Set.of())) {
            if (called != method) most = Math.max(most, below(called));
        }
        known.put(method, most + 1);
        return most + 1;
    }
}
