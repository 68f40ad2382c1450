import java.util.ArrayList;
import java.util.HashMap;
import java.util.List;
import java.util.Map;
import java.util.Set;
import java.util.TreeMap;
import java.util.TreeSet;

/** Which method calls which, and how deep calls go that are no recursion. */
final class CallGraph {
    private final Map<String, Set<String>> calls = new TreeMap<>();
    private final Map<String, List<String>> longest = new HashMap<>();

    void add(String caller, String called) {
        calls.computeIfAbsent(caller, name -> new TreeSet<>()).add(called);
        calls.computeIfAbsent(called, name -> new TreeSet<>());
    }

    /** The longest row of calls; methods that call one another come in it once, as one. */
    List<String> deepest() {
        List<String> best = List.of();
        for (String name : calls.keySet()) {
            List<String> row = longestFrom(name);
            best = row.size() > best.size() ? row : best;
        }
        return best;
    }

    private List<String> longestFrom(String name) {
        if (longest.containsKey(name)) {
            return longest.get(name);
        }
        Set<String> together = callOneAnother(name);
        List<String> best = List.of();
        for (String member : together) {
            for (String called : calls.get(member)) {
                if (!together.contains(called)) {
                    List<String> row = longestFrom(called);
                    best = row.size() > best.size() ? row : best;
                }
            }
        }
        List<String> whole = new ArrayList<>(List.of(name));
        whole.addAll(best);
        longest.put(name, whole);
        return whole;
    }

    private Set<String> callOneAnother(String name) {
        Set<String> together = new TreeSet<>(Set.of(name));
        for (String other : reached(name)) {
            if (reached(other).contains(name)) {
                together.add(other);
            }
        }
        return together;
    }

    private Set<String> reached(String name) {
        Set<String> all = new TreeSet<>();
        List<String> open = new ArrayList<>(calls.get(name));
        while (!open.isEmpty()) {
            String next = open.remove(open.size() - 1);
            if (all.add(next)) {
                open.addAll(calls.get(next));
            }
        }
        return all;
    }
}
