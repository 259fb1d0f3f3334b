import java.lang.reflect.Constructor;
import java.lang.reflect.Field;
import java.lang.reflect.Method;
import java.lang.reflect.Modifier;
import java.nio.file.Files;
import java.nio.file.Path;
import java.util.HashSet;
import java.util.List;
import java.util.Set;
import java.util.TreeSet;
import java.util.regex.Matcher;
import java.util.regex.Pattern;

/** Looks at the source and at the compiled class for what LANGUAGE.md rules out. */
public final class RulesTest {
    private static final String[] FACE = {
        "boolean bridges(int)", "int load(int,int,int)", "boolean fetch(int,int,int)",
        "int crosser(int,int,int,int,int,int)", "boolean kind(int,int,int)", "boolean set(int,int,int)",
        "int feed(int,int,int,int,int)", "boolean end(int)", "int text()", "int fault(int)", "int hours(int)",
        "int of(int,int)", "int who(int,int)", "int waits(int,int)", "int book(int,int)", "int over(int,int)",
        "int back(int)", "int gathers(int,int,int)", "int best(int,int,int,int,int,int)",
        "int send(int,int,int,int,int,int)", "int offer(int,int,int,int,int)", "int fewest(int,int,int,int)",
        "int right(int)", "boolean list(int,int,int)", "int night(int)", "long chance(int,int,int,int)",
        "boolean image(boolean)", "int look(int)"};

    private static final String[] RULED_OUT = {
        "\\bthrow\\b", "\\bthrows\\b", "\\btry\\b", "\\bcatch\\b", "\\bsynchronized\\b", "\\bassert\\b", "->", "::",
        "Exact\\b", "\\bObject\\b", "\\bSystem\\.(?!arraycopy\\b)", "\\bMath\\.random\\b", "\\bThread\\b",
        "\\bstatic\\s*\\{", "\\bnew\\s+\\w+\\s*\\([^)]*\\)\\s*\\{", "\\bMap\\b", "\\bSet\\b",
        "\\bvolatile\\b", "\\bnative\\b", "^package\\b", "\\bvar\\b", "\"[^\"]*\"\\s*\\+"};

    public static void main(String[] args) throws Exception {
        source(Files.readString(Path.of("src/main/java/TakeOver.java")));
        face();
        Set<String> publicNames = new HashSet<>();
        for (Method method : TakeOver.class.getDeclaredMethods()) {
            if (Modifier.isPublic(method.getModifiers())) {
                publicNames.add(method.getName());
            }
        }
        int classes = 1;
        members(TakeOver.class, publicNames);
        for (Class<?> inner : TakeOver.class.getDeclaredClasses()) {
            classes++;
            Due.yes(inner + " is static", Modifier.isStatic(inner.getModifiers()));
            Due.no(inner + " is public", Modifier.isPublic(inner.getModifiers()));
            members(inner, publicNames);
        }
        Due.yes("11: " + classes + " classes", classes <= 12);
        Due.end();
    }

    private static void face() {
        Set<String> due = new TreeSet<>(List.of(FACE));
        Set<String> found = new TreeSet<>();
        for (Method method : TakeOver.class.getDeclaredMethods()) {
            if (!Modifier.isPrivate(method.getModifiers())) {
                StringBuilder b = new StringBuilder();
                for (Class<?> type : method.getParameterTypes()) {
                    b.append(b.length() == 0 ? "" : ",").append(type.getName());
                }
                found.add(method.getReturnType() + " " + method.getName() + "(" + b + ")");
            }
        }
        Due.yes("1: the face " + found, found.equals(due));
        Constructor<?>[] made = TakeOver.class.getDeclaredConstructors();
        Due.is("1: constructors", made.length, 1);
        Due.yes("1: a public one", Modifier.isPublic(made[0].getModifiers()));
        Due.is("1: without arguments", made[0].getParameterCount(), 0);
        Due.yes("1: public and final", (TakeOver.class.getModifiers() & (Modifier.PUBLIC | Modifier.FINAL))
                == (Modifier.PUBLIC | Modifier.FINAL));
        for (Field field : TakeOver.class.getDeclaredFields()) {
            Due.yes("1: " + field, field.getName().equals("NONE") || Modifier.isPrivate(field.getModifiers()));
        }
    }

    private static void members(Class<?> type, Set<String> publicNames) {
        int fields = 0;
        for (Field field : type.getDeclaredFields()) {
            int flags = field.getModifiers();
            fields += Modifier.isStatic(flags) ? 0 : 1;
            Due.yes("5: " + field, !Modifier.isStatic(flags) || Modifier.isFinal(flags));
            Due.no("3: " + field, field.getType().getName().startsWith("[[["));
        }
        Due.yes("11: fields of " + type + ": " + fields, fields <= 20);
        for (Method method : type.getDeclaredMethods()) {
            Due.yes("11: " + method, method.getParameterCount() <= 7);
            boolean ofFace = type == TakeOver.class && Modifier.isPublic(method.getModifiers());
            Due.yes("1: " + method, ofFace || !publicNames.contains(method.getName()));
        }
    }

    private static void source(String text) {
        String bare = text.replaceAll("(?s)/\\*.*?\\*/", "").replaceAll("//[^\n]*", "");
        for (String ruled : RULED_OUT) {
            Matcher found = Pattern.compile(ruled, Pattern.MULTILINE).matcher(bare);
            Due.no("ruled out: " + ruled, found.find());
        }
        Matcher imports = Pattern.compile("(?m)^import (.*);").matcher(bare);
        while (imports.find()) {
            Due.yes("4: import " + imports.group(1), Set.of("java.util.Arrays", "java.util.ArrayList",
                    "java.util.List", "java.util.Iterator").contains(imports.group(1)));
        }
        for (int i = 0; i < text.length(); i++) {
            char c = text.charAt(i);
            if (c != '\n' && (c < 32 || c > 126)) {
                Due.is("the sign at " + i, c, ' ');
            }
        }
        methodsAreShort(text);
    }

    private static void methodsAreShort(String text) {
        String[] lines = text.split("\n", -1);
        Pattern head = Pattern.compile("^( {4}| {8})(?=\\S)(?!(?:else|if|for|while|switch|return)\\b)[\\w\\[\\] ]+\\(.*\\{$");
        int found = 0;
        for (int i = 0; i < lines.length; i++) {
            Matcher m = head.matcher(lines[i]);
            if (m.matches()) {
                int end = i;
                while (end < lines.length && !lines[end].equals(m.group(1) + "}")) {
                    end++;
                }
                found++;
                Due.yes("11: " + (end - i + 1) + " lines: " + lines[i].trim(), end - i + 1 <= 60);
            }
            Due.yes("a line of at most 120 signs: " + (i + 1), lines[i].length() <= 120);
        }
        Due.yes("methods were found", found > 60);
    }
}
