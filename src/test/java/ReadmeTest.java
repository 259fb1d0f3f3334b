import java.lang.reflect.Method;
import java.lang.reflect.Modifier;
import java.nio.file.Files;
import java.nio.file.Path;
import java.util.Set;
import java.util.TreeSet;
import java.util.regex.Matcher;
import java.util.regex.Pattern;

/** Asks every call that README.md shows and compares the answer with what stands behind it there. */
public final class ReadmeTest {
    private static final Pattern BLOCK = Pattern.compile("(?s)```java\n(.*?)```");
    private static final Pattern MADE = Pattern.compile("(?:TakeOver )?x = new TakeOver\\(\\);.*");
    private static final Pattern CALL =
            Pattern.compile("x\\.(\\w+)\\((.*?)\\); +// (true|false|-?\\d+)(?::.*)?");

    public static void main(String[] args) throws Exception {
        Set<String> unseen = new TreeSet<>();
        for (Method method : TakeOver.class.getDeclaredMethods()) {
            if (Modifier.isPublic(method.getModifiers())) {
                unseen.add(method.getName());
            }
        }
        TakeOver x = null;
        Matcher block = BLOCK.matcher(Files.readString(Path.of("README.md")));
        while (block.find()) {
            for (String line : block.group(1).split("\n")) {
                Matcher call = CALL.matcher(line);
                if (MADE.matcher(line).matches()) {
                    x = new TakeOver();
                } else if (x != null && call.matches()) {
                    Due.yes(line, String.valueOf(answer(x, call.group(1), call.group(2))).equals(call.group(3)));
                    unseen.remove(call.group(1));
                } else {
                    Due.yes("a call and its answer: " + line, false);
                }
            }
        }
        Due.yes("README.md shows each call; it lacks " + unseen, unseen.isEmpty());
        Due.end();
    }

    private static Object answer(TakeOver x, String name, String arguments) throws Exception {
        String[] words = arguments.isEmpty() ? new String[0] : arguments.split(", ");
        for (Method method : TakeOver.class.getDeclaredMethods()) {
            if (Modifier.isPublic(method.getModifiers()) && method.getName().equals(name)
                    && method.getParameterCount() == words.length) {
                Object[] values = new Object[words.length];
                for (int i = 0; i < words.length; i++) {
                    boolean isWord = method.getParameterTypes()[i] == boolean.class;
                    values[i] = isWord ? (Object) Boolean.valueOf(words[i]) : (Object) Integer.decode(words[i]);
                }
                return method.invoke(x, values);
            }
        }
        return "no such call";
    }
}
