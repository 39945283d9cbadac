import com.sun.source.tree.CompilationUnitTree;
import com.sun.source.tree.MethodInvocationTree;
import com.sun.source.tree.MethodTree;
import com.sun.source.tree.NewClassTree;
import com.sun.source.util.TreePathScanner;
import com.sun.source.util.Trees;
import java.util.ArrayList;
import java.util.LinkedHashSet;
import java.util.List;
import java.util.Map;
import java.util.Set;
import java.util.TreeMap;
import java.util.TreeSet;
import javax.lang.model.element.Element;

/** Which methods of the program call which, and how many of them can stand open at once. */
final class CallChains extends TreePathScanner<Void, Void> {
    private final Trees trees;
    private final Map<String, Set<String>> called = new TreeMap<>();
    private final Map<String, MethodTree> methods = new TreeMap<>();
    private String caller = "";

    CallChains(Trees trees, CompilationUnitTree unit) {
        this.trees = trees;
        scan(unit, null);
        // What the library does by itself is not the program's.
        for (Set<String> names : called.values()) names.retainAll(methods.keySet());
    }

    private String nameHere() {
        Element element = trees.getElement(getCurrentPath());
        return element == null ? "" : element.getEnclosingElement().getSimpleName() + "." + element;
    }

    @Override public Void visitMethod(MethodTree tree, Void nothing) {
        caller = nameHere();
        methods.put(caller, tree);
        super.visitMethod(tree, nothing);
        caller = "";
        return null;
    }

    @Override public Void visitMethodInvocation(MethodInvocationTree tree, Void nothing) {
        called.computeIfAbsent(caller, name -> new TreeSet<>()).add(nameHere());
        return super.visitMethodInvocation(tree, nothing);
    }

    @Override public Void visitNewClass(NewClassTree tree, Void nothing) {
        called.computeIfAbsent(caller, name -> new TreeSet<>()).add(nameHere());
        return super.visitNewClass(tree, nothing);
    }

    int calls() {
        return called.values().stream().mapToInt(Set::size).sum();
    }

    /** The longest chain of calls, in which each method stands once, however often it calls itself. */
    List<String> longest() {
        List<String> found = List.of();
        for (String name : methods.keySet()) {
            List<String> chain = longestFrom(name, new LinkedHashSet<>());
            if (chain.size() > found.size()) found = chain;
        }
        return found;
    }

    private List<String> longestFrom(String name, Set<String> open) {
        open.add(name);
        List<String> found = new ArrayList<>(open);
        for (String next : called.getOrDefault(name, Set.of())) {
            if (open.contains(next)) continue;
            List<String> chain = longestFrom(next, open);
            if (chain.size() > found.size()) found = chain;
        }
        open.remove(name);
        return found;
    }

    /** The methods that come to be called while they stand open. */
    List<MethodTree> recursive() {
        List<MethodTree> found = new ArrayList<>();
        for (String name : methods.keySet()) {
            Set<String> reached = new TreeSet<>();
            reach(name, reached);
            if (reached.contains(name)) found.add(methods.get(name));
        }
        return found;
    }

    private void reach(String name, Set<String> reached) {
        for (String next : called.getOrDefault(name, Set.of())) {
            if (reached.add(next)) reach(next, reached);
        }
    }
}
