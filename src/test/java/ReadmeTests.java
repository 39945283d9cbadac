import java.io.IOException;
import java.lang.reflect.Method;
import java.nio.file.Files;
import java.nio.file.Path;
import java.util.HashSet;
import java.util.List;
import java.util.Set;
import java.util.regex.Matcher;
import java.util.regex.Pattern;

/** README.md: each call there answers what is told behind it, and every method of the face is named. */
public final class ReadmeTests {
    private static final Pattern CALL = Pattern.compile("game\\.(\\w+)\\(([^)]*)\\);\\s+// (-?\\d+): .*");

    public static void main(String[] args) throws IOException, ReflectiveOperationException {
        Checks checks = new Checks();
        String readme = Files.readString(Path.of("README.md"));
        PoisonPiles game = new PoisonPiles();
        for (String line : readme.split("\n")) {
            if (!line.startsWith("game.")) continue;
            Matcher matcher = CALL.matcher(line);
            checks.that("a call with its answer: " + line, matcher.matches());
            checks.due(line, answer(game, matcher.group(1), matcher.group(2)), Integer.parseInt(matcher.group(3)));
        }
        Set<String> words = new HashSet<>(List.of(readme.split("\\W+")));
        for (Method method : PoisonPiles.class.getMethods()) {
            if (method.getDeclaringClass() == PoisonPiles.class) checks.that("names " + method, words.contains(method.getName()));
        }
        checks.end();
    }

    private static int answer(PoisonPiles game, String name, String given) throws ReflectiveOperationException {
        String[] texts = given.isEmpty() ? new String[0] : given.split(", ");
        for (Method method : PoisonPiles.class.getMethods()) {
            if (!method.getName().equals(name) || method.getParameterCount() != texts.length) continue;
            Object[] values = new Object[texts.length];
            for (int i = 0; i < texts.length; i++) {
                long value = Long.decode(texts[i].replace("L", ""));
                if (method.getParameterTypes()[i] == long.class) values[i] = value; else values[i] = (int) value;
            }
            return (int) method.invoke(game, values);
        }
        throw new NoSuchMethodException(name);
    }
}
