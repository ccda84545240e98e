import java.io.IOException;
import java.lang.reflect.Constructor;
import java.lang.reflect.Field;
import java.lang.reflect.Method;
import java.lang.reflect.Modifier;
import java.nio.file.Files;
import java.nio.file.Path;
import java.util.Arrays;
import java.util.List;
import java.util.Random;
import java.util.TreeSet;
import java.util.regex.Matcher;
import java.util.regex.Pattern;

/** What can be seen of LANGUAGE.md: the face, the words that are left out, sizes, and that no call ever throws. */
public final class LanguageTest {
    private static final String[] FACE = {"feed IIIII int", "forest I int", "law I int", "start I boolean", "person II boolean",
        "ahead I boolean", "width I boolean", "light I boolean", "orders I int", "tried II int", "days I int", "back I int",
        "safe I long", "home  int", "path II int", "turn II int", "soonest III int", "camp I int", "byTurns III int",
        "planned IIII int", "paces III int", "seek II int", "blazes II int", "sights II int", "personIs II int",
        "seed I boolean", "keep  int", "undo  boolean", "check I int", "count I int"};
    private static int wrong = 0;

    private static void must(boolean holds, String what) {
        if (!holds) {
            wrong++;
            System.out.println("not so: " + what);
        }
    }

    private static String told(Method m) {
        StringBuilder b = new StringBuilder(m.getName()).append(' ');
        for (Class<?> c : m.getParameterTypes()) {
            b.append(c == int.class ? "I" : "?");
        }
        return b.append(' ').append(m.getReturnType()).toString();
    }

    private static void face() {
        TreeSet<String> due = new TreeSet<>(Arrays.asList(FACE));
        TreeSet<String> found = new TreeSet<>();
        TreeSet<String> names = new TreeSet<>();
        for (Method m : BlazedPath.class.getDeclaredMethods()) {
            if (Modifier.isPublic(m.getModifiers())) {
                found.add(told(m));
                names.add(m.getName());
            } else {
                must(Modifier.isPrivate(m.getModifiers()), "private: " + m);
            }
        }
        must(due.equals(found), "the face is the document's: " + found);
        for (Method m : BlazedPath.class.getDeclaredMethods()) {
            must(Modifier.isPublic(m.getModifiers()) || !names.contains(m.getName()), "another name: " + m);
        }
        for (Constructor<?> c : BlazedPath.class.getDeclaredConstructors()) {
            must(Modifier.isPublic(c.getModifiers()) && c.getParameterCount() == 0, "constructor: " + c);
        }
        must(Modifier.isFinal(BlazedPath.class.getModifiers()), "final");
        Class<?>[] inner = BlazedPath.class.getDeclaredClasses();
        must(inner.length <= 12, "classes: " + inner.length);
        fields(BlazedPath.class, true);
        for (Class<?> c : inner) {
            must(Modifier.isStatic(c.getModifiers()), "static: " + c);
            fields(c, false);
            for (Method m : c.getDeclaredMethods()) {
                must(m.getParameterCount() <= 7, "parameters: " + m);
                must(!names.contains(m.getName()), "a name of the face: " + m);
            }
        }
    }

    private static void fields(Class<?> c, boolean outer) {
        int own = 0;
        for (Field f : c.getDeclaredFields()) {
            boolean fixed = Modifier.isStatic(f.getModifiers());
            must(!fixed || Modifier.isFinal(f.getModifiers()), "final: " + f);
            boolean isNone = f.getName().equals("NONE") && Modifier.isPublic(f.getModifiers());
            must(!outer || isNone || Modifier.isPrivate(f.getModifiers()), "private: " + f);
            own += fixed ? 0 : 1;
        }
        must(own <= 20, "fields of " + c + ": " + own);
    }

    private static String withoutComments(String source) {
        return source.replaceAll("(?s)/\\*.*?\\*/", "").replaceAll("//[^\n]*", "");
    }

    private static void words(String source) {
        String code = withoutComments(source);
        for (String word : List.of("throw", "try", "catch", "synchronized", "assert", "double", "float", "package", "goto",
            "Exact", "Random", "System.currentTimeMillis", "System.nanoTime", "Thread", "Integer.MAX_VALUE", "Integer.MIN_VALUE",
            "Object", "hashCode", "var", "while (true)", "for (;;)")) {
            must(!Pattern.compile("\\b" + Pattern.quote(word) + "(?!\\w)").matcher(code).find(), "without " + word);
        }
        must(!code.contains("->") && !code.contains("::"), "no lambda, no method reference");
        Matcher imports = Pattern.compile("(?m)^import (.*);$").matcher(code);
        while (imports.find()) {
            must(imports.group(1).equals("java.util.Arrays"), "import " + imports.group(1));
        }
        for (int i = 0; i < source.length(); i++) {
            must(source.charAt(i) < 127, "plain sign at " + i);
        }
    }

    private static void lengths(String source) {
        String[] lines = source.split("\n");
        for (int i = 0; i < lines.length; i++) {
            Matcher m = Pattern.compile("^( +)(public |private |static |final )*[\\w\\[\\]]+ \\w+\\(.*\\{$").matcher(lines[i]);
            if (m.matches() && !lines[i].contains(" new ") && !lines[i].contains("else")) {
                int end = i;
                while (end < lines.length && !lines[end].equals(m.group(1) + "}")) {
                    end++;
                }
                must(end - i <= 61, "some sixty lines: " + lines[i].trim() + " " + (end - i));
            }
        }
    }

    private static int any(Random random) {
        switch (random.nextInt(6)) {
            case 0:
                return random.nextInt();
            case 1:
                return random.nextBoolean() ? Integer.MIN_VALUE : Integer.MAX_VALUE;
            case 2:
                return random.nextInt(300) - 20;
            default:
                return random.nextInt(12);
        }
    }

    /** Any arguments in any state: 512 calls on each object. */
    private static void neverThrows() throws ReflectiveOperationException {
        Method[] methods = BlazedPath.class.getMethods();
        Arrays.sort(methods, (a, b) -> a.toString().compareTo(b.toString()));
        String signs = "nesw.+obx()29;=/1=1cvgned[]!&|<>kwatqfyjtbrsplm";
        for (int seed = 0; seed < 300; seed++) {
            Random random = new Random(seed);
            BlazedPath x = new BlazedPath();
            for (int call = 0; call < 512; call++) {
                Method m = methods[random.nextInt(methods.length)];
                if (m.getDeclaringClass() != BlazedPath.class) {
                    continue;
                }
                Object[] arguments = new Object[m.getParameterCount()];
                for (int i = 0; i < arguments.length; i++) {
                    int word = any(random);
                    if (m.getName().equals("feed") && random.nextBoolean()) {
                        word = 0;
                        for (int k = 0; k < 4; k++) {
                            word = word << 8 | signs.charAt(random.nextInt(signs.length()));
                        }
                    }
                    arguments[i] = word;
                }
                try {
                    m.invoke(x, arguments);
                } catch (java.lang.reflect.InvocationTargetException e) {
                    must(false, m.getName() + Arrays.toString(arguments) + " ends: " + e.getCause());
                    return;
                }
            }
        }
    }

    public static void main(String[] args) throws IOException, ReflectiveOperationException {
        String source = Files.readString(Path.of("src/main/java/BlazedPath.java"));
        face();
        words(source);
        lengths(source);
        neverThrows();
        System.out.println(wrong == 0 ? "the source keeps to the language" : wrong + " things are not so");
        if (wrong != 0) {
            System.exit(1);
        }
    }
}
