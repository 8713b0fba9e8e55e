import java.io.IOException;
import java.lang.reflect.Method;
import java.lang.reflect.Modifier;
import java.nio.file.Files;
import java.nio.file.Path;
import java.util.ArrayList;
import java.util.List;
import java.util.Set;
import java.util.TreeSet;
import java.util.regex.Matcher;
import java.util.regex.Pattern;

/** README.md tells the truth: its example's calls answer what is written behind them, and each member is told. */
public final class ReadmeTest {
    private static final Pattern CALL = Pattern.compile("book\\.(\\w+)\\((.*)\\);\\s*// (\\S+)");

    private static final Checks checks = new Checks();

    public static void main(String[] args) throws IOException {
        // .ci/run starts the tests in the project's directory.
        List<String> lines = Files.readAllLines(Path.of("README.md"));
        Set<String> shown = runExample(lines);
        checks.equal("the methods in the example", shown, methodNames());
        membersAreTold(String.join("\n", lines));
        checks.end();
    }

    private static Set<String> runExample(List<String> lines) {
        CardBook book = new CardBook();
        Set<String> shown = new TreeSet<>();
        for (String line : lines) {
            Matcher call = CALL.matcher(line);
            if (call.matches()) {
                shown.add(call.group(1));
                checks.equal(line, Checks.outcome(() -> answer(book, call.group(1), call.group(2))), call.group(3));
            }
        }
        return shown;
    }

    private static Object answer(CardBook book, String name, String arguments) {
        List<Integer> numbers = new ArrayList<>();
        for (String argument : arguments.split(", ")) {
            if (argument.matches("-?\\d+")) {
                numbers.add(Integer.valueOf(argument));
            }
        }
        int first = numbers.isEmpty() ? 0 : numbers.get(0);
        switch (name) {
            case "space":
                return book.space(first);
            case "write":
                return book.write(first);
            case "cover":
                return book.cover(first, numbers.get(1));
            case "clean":
                return book.clean(first, arguments.endsWith("true"));
            case "unsave":
                return book.unsave(first);
            case "card":
                return book.card(first);
            case "nextDirty":
                return book.nextDirty(first);
            case "nextSaved":
                return book.nextSaved(first);
            case "clear":
                return book.clear();
            case "count":
                return book.count(first);
            default:
                return "no such method";
        }
    }

    private static Set<String> methodNames() {
        Set<String> names = new TreeSet<>();
        for (Method m : CardBook.class.getDeclaredMethods()) {
            if (Modifier.isPublic(m.getModifiers())) {
                names.add(m.getName());
            }
        }
        return names;
    }

    private static void membersAreTold(String text) {
        Set<String> members = new TreeSet<>(methodNames());
        members.add("CardBook");
        for (String member : members) {
            checks.equal(member + " has a row in the table", text.contains("\n| `" + member + "("), true);
        }
        checks.equal("NONE has a row in the table", text.contains("\n| `NONE` |"), true);
    }
}
