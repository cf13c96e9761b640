import java.io.IOException;
import java.lang.reflect.Method;
import java.lang.reflect.Modifier;
import java.nio.file.Files;
import java.nio.file.Path;
import java.util.ArrayList;
import java.util.List;

/** README.md's example answers what is written beside it, and each call of the face is told there. */
public final class ReadmeTest {
    private static final String[] CODE = {
        "book.sheet(4, 2);",
        "book.ink(0, 0);",
        "book.would(0, 1, false, true, 3);",
        "book.fold(0, 1, false, true);",
        "book.ofPair(0, false, 0);",
        "book.at(0, 0, 1);",
        "book.ofCell(1, 5);",
        "book.weight(0);",
        "book.fewest();",
        "book.glue(0, 0);",
        "book.unfold();",
        "book.ofPlace(3, 0, 0);",
        "book.fold(0, 3, false, true);",
    };

    public static void main(String[] args) throws IOException {
        List<String> readme = Files.readAllLines(Path.of("README.md"));
        theExample(readme);
        eachCallIsTold(readme);
        Check.end("ReadmeTest");
    }

    /** The calls of CODE once more, as Java. */
    private static List<Check.Call> calls(Creasebook book) {
        List<Check.Call> calls = new ArrayList<>();
        calls.add(() -> book.sheet(4, 2));
        calls.add(() -> book.ink(0, 0));
        calls.add(() -> book.would(0, 1, false, true, 3));
        calls.add(() -> book.fold(0, 1, false, true));
        calls.add(() -> book.ofPair(0, false, 0));
        calls.add(() -> book.at(0, 0, 1));
        calls.add(() -> book.ofCell(1, 5));
        calls.add(() -> book.weight(0));
        calls.add(() -> book.fewest());
        calls.add(() -> book.glue(0, 0));
        calls.add(() -> book.unfold());
        calls.add(() -> book.ofPlace(3, 0, 0));
        calls.add(() -> book.fold(0, 3, false, true));
        return calls;
    }

    private static void theExample(List<String> readme) {
        List<String> written = new ArrayList<>();
        for (String line : readme) {
            if (line.startsWith("book.")) {
                written.add(line);
            }
        }
        List<Check.Call> calls = calls(new Creasebook());
        Check.same("lines of the example", written.size(), CODE.length);
        for (int i = 0; i < Math.min(written.size(), CODE.length); i++) {
            String[] parts = written.get(i).split("//");
            Check.same("line " + (i + 1) + " of the example", parts[0].trim(), CODE[i]);
            Check.same(CODE[i], Check.outcome(calls.get(i)).toString(), parts[parts.length - 1].trim().split(":")[0]);
        }
    }

    private static void eachCallIsTold(List<String> readme) {
        for (Method method : Creasebook.class.getDeclaredMethods()) {
            if (Modifier.isPublic(method.getModifiers())) {
                Check.isTrue(method.getName() + "() is told", isTold(readme, method));
            }
        }
    }

    /** A row of a table that starts with the call, with as many arguments as it takes. */
    private static boolean isTold(List<String> readme, Method method) {
        String start = "| `" + method.getName() + "(";
        for (String line : readme) {
            if (line.startsWith(start)) {
                String arguments = line.substring(start.length(), line.indexOf(")"));
                int count = arguments.isEmpty() ? 0 : arguments.split(", ").length;
                return count == method.getParameterCount();
            }
        }
        return false;
    }
}
