import java.util.ArrayList;
import java.util.List;
import java.util.Map;
import java.util.Set;
import java.util.TreeMap;
import java.util.TreeSet;

/** Which method calls which; methods that can come back to one another count as one, because that is recursion. */
final class CallGraph {
    private final Map<String, Set<String>> called = new TreeMap<>();
    private final Map<String, Set<String>> reached = new TreeMap<>();
    private final Map<String, List<String>> chains = new TreeMap<>();

    void addCaller(String caller) {
        called.computeIfAbsent(caller, name -> new TreeSet<>());
    }

    void add(String caller, String target) {
        addCaller(caller);
        called.get(caller).add(target);
    }

    /** The methods of the outermost class, whose names have nothing else behind its own. */
    List<String> callers(String prefix) {
        List<String> found = new ArrayList<>();
        for (String name : called.keySet()) {
            if (name.startsWith(prefix) && name.indexOf('.', prefix.length()) < 0) {
                found.add(name);
            }
        }
        return found;
    }

    /** The longest row of calls from a method on, itself being the first. */
    List<String> longestChain(String start) {
        List<String> known = chains.get(start);
        if (known != null) {
            return known;
        }
        List<String> longest = List.of();
        for (String member : circleOf(start)) {
            for (String next : called.getOrDefault(member, Set.of())) {
                if (!circleOf(start).contains(next) && longestChain(next).size() > longest.size()) {
                    longest = longestChain(next);
                }
            }
        }
        List<String> chain = new ArrayList<>(List.of(start));
        chain.addAll(longest);
        chains.put(start, chain);
        return chain;
    }

    private Set<String> circleOf(String name) {
        Set<String> circle = new TreeSet<>(Set.of(name));
        for (String other : reachedFrom(name)) {
            if (reachedFrom(other).contains(name)) {
                circle.add(other);
            }
        }
        return circle;
    }

    private Set<String> reachedFrom(String name) {
        Set<String> known = reached.get(name);
        if (known != null) {
            return known;
        }
        Set<String> found = new TreeSet<>();
        List<String> open = new ArrayList<>(List.of(name));
        while (!open.isEmpty()) {
            for (String next : called.getOrDefault(open.remove(open.size() - 1), Set.of())) {
                if (found.add(next)) {
                    open.add(next);
                }
            }
        }
        reached.put(name, found);
        return found;
    }
}
