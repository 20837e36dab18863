import java.util.ArrayList;
import java.util.HashMap;
import java.util.HashSet;
import java.util.LinkedHashMap;
import java.util.LinkedHashSet;
import java.util.List;
import java.util.Map;
import java.util.Set;
import javax.lang.model.element.ExecutableElement;
import javax.lang.model.element.VariableElement;

/** Which method of a program calls which of its others. */
final class Calls {
    private final Map<ExecutableElement, Set<ExecutableElement>> called = new LinkedHashMap<>();
    private final Map<ExecutableElement, Integer> deep = new HashMap<>();

    void addMethod(ExecutableElement method) {
        called.computeIfAbsent(method, none -> new LinkedHashSet<>());
    }

    void addCall(ExecutableElement from, ExecutableElement to) {
        if (from != null) {
            addMethod(from);
            addMethod(to);
            called.get(from).add(to);
        }
    }

    /** Of all rows of calls the longest; methods of a recursion don't count in it. */
    int deepest() {
        int deepest = 0;
        for (ExecutableElement method : called.keySet()) {
            deepest = Math.max(deepest, deepestFrom(method, new HashSet<>()));
        }
        return deepest;
    }

    private int deepestFrom(ExecutableElement method, Set<ExecutableElement> open) {
        if (deep.containsKey(method)) {
            return deep.get(method);
        }
        if (!open.add(method)) {
            return 0;
        }
        int below = 0;
        for (ExecutableElement next : called.get(method)) {
            below = Math.max(below, deepestFrom(next, open));
        }
        open.remove(method);
        boolean isRecursion = reaches(method, method);
        int here = below + (isRecursion ? 0 : 1);
        // what is open cuts a recursion's way short, so that only others are known for all ways to them
        if (!isRecursion) {
            deep.put(method, here);
        }
        return here;
    }

    private boolean reaches(ExecutableElement from, ExecutableElement to) {
        Set<ExecutableElement> reached = new HashSet<>();
        List<ExecutableElement> ahead = new ArrayList<>(called.get(from));
        while (!ahead.isEmpty()) {
            ExecutableElement next = ahead.remove(ahead.size() - 1);
            if (reached.add(next)) {
                ahead.addAll(called.get(next));
            }
        }
        return reached.contains(to);
    }

    /** The methods that come back to themselves and are not given a depth. */
    List<String> recursionsWithoutDepth() {
        List<String> found = new ArrayList<>();
        for (ExecutableElement method : called.keySet()) {
            if (reaches(method, method) && !takesDepth(method)) {
                found.add(method.toString());
            }
        }
        return found;
    }

    private static boolean takesDepth(ExecutableElement method) {
        for (VariableElement parameter : method.getParameters()) {
            if (parameter.getSimpleName().contentEquals("depth")) {
                return true;
            }
        }
        return false;
    }
}
