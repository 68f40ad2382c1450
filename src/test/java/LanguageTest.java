import com.sun.source.tree.CompilationUnitTree;
import com.sun.source.util.JavacTask;
import com.sun.source.util.Trees;
import java.io.IOException;
import java.nio.file.Path;
import java.util.List;
import javax.tools.JavaCompiler;
import javax.tools.StandardJavaFileManager;
import javax.tools.ToolProvider;

/** Reads the program's file by the compiler's own tree, and looks for what LANGUAGE.md leaves out. */
public final class LanguageTest extends Checks {
    private static final int MOST_CLASSES = 12;
    private static final int DEEPEST_CALLS = 8;

    public static void main(String[] args) throws IOException {
        JavaCompiler compiler = ToolProvider.getSystemJavaCompiler();
        try (StandardJavaFileManager files = compiler.getStandardFileManager(null, null, null)) {
            JavacTask task = (JavacTask) compiler.getTask(null, files, null, List.of("-proc:none"), null,
                files.getJavaFileObjects(Path.of(args[0])));
            CompilationUnitTree unit = task.parse().iterator().next();
            task.analyze();
            LanguageRules rules = new LanguageRules(unit, Trees.instance(task));
            rules.scan(unit, null);
            checkWhole(rules);
        }
        end("the language is kept to");
    }

    private static void checkWhole(LanguageRules rules) {
        about("rule 1");
        for (String name : rules.privateNames()) {
            due("the private " + name + " bears the name of a public one", rules.publicNames().contains(name), false);
        }
        about("rule 11");
        due("more than " + MOST_CLASSES + " classes", rules.classes() > MOST_CLASSES, false);
        List<String> deepest = rules.calls().deepest();
        due("calls go too deep: " + deepest, deepest.size() > DEEPEST_CALLS, false);
    }
}
