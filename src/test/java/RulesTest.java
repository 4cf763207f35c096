import java.io.IOException;
import java.lang.reflect.Field;
import java.lang.reflect.Member;
import java.lang.reflect.Method;
import java.lang.reflect.Modifier;
import java.nio.file.Files;
import java.nio.file.Path;
import java.util.ArrayList;
import java.util.List;
import java.util.Set;
import java.util.TreeSet;
import java.util.regex.Matcher;
import java.util.regex.Pattern;

/** Those rules of LANGUAGE.md that can be seen from the source or from the classes; the source's path is the argument. */
public final class RulesTest {
    private static final Due t = new Due();

    private static final String[] FORBIDDEN = {
        "throw", "throws", "try", "catch", "finally", "synchronized", "assert", "volatile", "transient", "native",
        "protected", "package", "var", "yield", "sealed", "Object", "Exception", "Throwable", "Thread", "Random",
        "hashCode", "toString", "NaN", "instanceof", "Override",
    };

    private static final String FACE =
        "coil:1 coilTold:2 creep:2 pair:2 part:1 watch:3 seen:1 line:2 step:4 told:2 as:2 turns:2 drop:1 set:2 fit:0 "
        + "run:1 news:2 since:1 falls:1 await:0 beyond:0 seed:1 feed:3 trim:1 text:0 textTold:2 why:1 knock:1 pour:1 "
        + "chance:0 width:1 key:2 keys:1 jokes:0 offer:2 clear:0 best:2 soonest:3 sheet:3 mark:3 reads:3 copy:5 lay:3 "
        + "ask:2 item:2 rest:2 tell:1 check:1 keep:0 back:0 count:1";

    public static void main(String[] args) throws IOException {
        String source = Files.readString(Path.of(args.length > 0 ? args[0] : "src/main/java/FluxWatch.java"));
        String code = withoutComments(source);
        words(code);
        methodLengths(code);
        face();
        for (Class<?> inside : FluxWatch.class.getDeclaredClasses()) {
            classInside(inside);
        }
        t.due("classes", FluxWatch.class.getDeclaredClasses().length + 1 <= 12 ? 1 : 0, 1);
        sizes(FluxWatch.class);
        t.end();
    }

    private static String withoutComments(String source) {
        return source.replaceAll("(?s)/\\*.*?\\*/", " ").replaceAll("//[^\n]*", " ");
    }

    private static void words(String code) {
        for (String word : FORBIDDEN) {
            t.due("the word " + word, Pattern.compile("\\b" + word + "\\b").matcher(code).find() ? 1 : 0, 0);
        }
        t.due("lambdas", code.contains("->") ? 1 : 0, 0);
        t.due("method references", code.contains("::") ? 1 : 0, 0);
        t.due("annotations", code.contains("@") ? 1 : 0, 0);
        for (int i = 0; i < code.length(); i++) {
            if (code.charAt(i) > 127) {
                t.due("a sign above 127 at " + i, code.charAt(i), 127);
            }
        }
        Matcher imports = Pattern.compile("import ([^;]*);").matcher(code);
        while (imports.find()) {
            t.due("import " + imports.group(1), imports.group(1).equals("java.util.Arrays") ? 1 : 0, 1);
        }
    }

    /** A method begins at a line that ends with ") {" and is no statement; it ends at the brace of the same depth. */
    private static void methodLengths(String code) {
        String[] lines = code.split("\n");
        Pattern head = Pattern.compile("^( {4}| {8})(?!if|for|while|switch|else|return)[a-zA-Z].*\\) \\{$");
        for (int i = 0; i < lines.length; i++) {
            Matcher m = head.matcher(lines[i]);
            if (m.find()) {
                int end = i;
                while (end < lines.length && !lines[end].equals(m.group(1) + "}")) {
                    end++;
                }
                t.due("length of " + lines[i].trim(), end - i + 1 <= 60 ? 1 : 0, 1);
            }
        }
    }

    private static void face() {
        Set<String> want = new TreeSet<>(List.of(FACE.split(" ")));
        Set<String> got = new TreeSet<>();
        for (Method m : FluxWatch.class.getDeclaredMethods()) {
            if (Modifier.isPublic(m.getModifiers())) {
                got.add(m.getName() + ":" + m.getParameterCount());
                t.due(m.getName() + " answers an int", m.getReturnType() == int.class ? 1 : 0, 1);
            } else if (!m.isSynthetic()) {
                t.due(m.getName() + " is private", Modifier.isPrivate(m.getModifiers()) ? 1 : 0, 1);
            }
        }
        t.due("the face " + got, got.equals(want) ? 1 : 0, 1);
        List<String> constants = new ArrayList<>();
        for (Field f : FluxWatch.class.getDeclaredFields()) {
            if (Modifier.isPublic(f.getModifiers())) {
                constants.add(f.getName());
            } else {
                t.due(f.getName() + " is private", Modifier.isPrivate(f.getModifiers()) ? 1 : 0, 1);
            }
        }
        t.due("constants " + constants, constants.equals(List.of("BAD", "NO", "FULL", "NONE", "NOTHING", "KIND", "INDEX", "SIZE")) ? 1 : 0, 1);
        t.due("the class is final", Modifier.isFinal(FluxWatch.class.getModifiers()) ? 1 : 0, 1);
        t.due("one constructor", FluxWatch.class.getDeclaredConstructors().length, 1);
        t.due("it is public", Modifier.isPublic(FluxWatch.class.getDeclaredConstructors()[0].getModifiers()) ? 1 : 0, 1);
    }

    private static void classInside(Class<?> inside) {
        t.due(inside.getName() + " is static", Modifier.isStatic(inside.getModifiers()) ? 1 : 0, 1);
        t.due(inside.getName() + " is not public", Modifier.isPublic(inside.getModifiers()) ? 1 : 0, 0);
        t.due("classes in " + inside.getName(), inside.getDeclaredClasses().length, 0);
        Set<String> names = new TreeSet<>();
        for (String call : FACE.split(" ")) {
            names.add(call.substring(0, call.indexOf(':')));
        }
        for (Method m : inside.getDeclaredMethods()) {
            t.due(inside.getName() + "." + m.getName() + " has a name of its own", names.contains(m.getName()) ? 1 : 0, 0);
        }
        sizes(inside);
    }

    private static void sizes(Class<?> c) {
        int fields = 0;
        for (Field f : c.getDeclaredFields()) {
            if (Modifier.isStatic(f.getModifiers())) {
                t.due(c.getName() + "." + f.getName() + " is final", isFinal(f) ? 1 : 0, 1);
            } else {
                fields++;
            }
        }
        t.due("fields of " + c.getName(), fields <= 20 ? 1 : 0, 1);
        for (Method m : c.getDeclaredMethods()) {
            t.due(c.getName() + "." + m.getName() + " takes at most seven", m.getParameterCount() <= 7 ? 1 : 0, 1);
        }
    }

    private static boolean isFinal(Member m) {
        return Modifier.isFinal(m.getModifiers());
    }
}
