import java.lang.reflect.Constructor;
import java.lang.reflect.Field;
import java.lang.reflect.Method;
import java.lang.reflect.Modifier;
import java.nio.file.Files;
import java.nio.file.Path;
import java.util.ArrayList;
import java.util.List;
import java.util.Set;
import java.util.TreeSet;
import java.util.regex.Matcher;
import java.util.regex.Pattern;

/** The rules of LANGUAGE.md that can be looked up in the source or in the compiled class. */
public final class LanguageTest {
    private static final String FACE =
            "about(int,int,int) between(int) clear() colour(int) fault() feed(int) goBack(int) holds(int,int) keep(int) "
            + "needless() parties() resolve(int,int,int) saysMore(int,int,int) seek() seekWeights() sentence(int,int,int) "
            + "step(int,int) sum(int,int,int,int,int,int) sums(int) told(int) undo() weigh(int,int) weighed(int,int)";
    private static final String FORBIDDEN =
            "import|package|throw|throws|try|catch|finally|synchronized|assert|protected|native|volatile|transient|strictfp|goto"
            + "|Object|System\\.out|System\\.in|System\\.err|Random|Thread|equals|hashCode|toString|double|float|var|yield";

    private static int wrong = 0;

    private static void expect(boolean kept, String what) {
        if (!kept) {
            wrong++;
            System.out.println(what);
        }
    }

    public static void main(String[] args) throws Exception {
        String source = Files.readString(Path.of(args.length > 0 ? args[0] : "src/main/java/BetweenBoth.java"));
        String code = source.replaceAll("(?s)/\\*.*?\\*/", " ").replaceAll("//[^\n]*", " ");
        lookAtSource(source, code);
        lookAtFace();
        List<Class<?>> classes = new ArrayList<>(List.of(BetweenBoth.class.getDeclaredClasses()));
        expect(classes.size() + 1 <= 12, "more than twelve classes");
        for (Class<?> inside : classes) {
            lookAtInside(inside);
        }
        classes.add(BetweenBoth.class);
        for (Class<?> any : classes) {
            lookAtMembers(any);
        }
        System.out.println(wrong == 0 ? "the rules that were looked at are kept" : wrong + " rules are broken");
        if (wrong != 0) {
            System.exit(1);
        }
    }

    private static void lookAtSource(String source, String code) {
        for (int i = 0; i < source.length(); i++) {
            char sign = source.charAt(i);
            expect(sign == '\n' || sign >= 32 && sign < 127, "a sign beyond ASCII, or a tab, at " + i);
        }
        Matcher word = Pattern.compile("\\b(" + FORBIDDEN + ")\\b").matcher(code);
        while (word.find()) {
            expect(false, "the word " + word.group() + " stands in the code");
        }
        expect(!code.contains("->") && !code.contains("::"), "a lambda or a method reference stands in the code");
        lookAtMethods(code.split("\n"));
    }

    /** A method ends at the first brace that is indented as its own first line. */
    private static void lookAtMethods(String[] lines) {
        for (int first = 0; first < lines.length; first++) {
            if (lines[first].matches(" +[a-zA-Z][^=]*\\) \\{") && !lines[first].matches(" *(if|for|while|switch)\\b.*")) {
                String end = lines[first].replaceAll("[^ ].*", "") + "}";
                int last = first;
                while (last < lines.length && !lines[last].equals(end)) {
                    last++;
                }
                expect(last - first < 60, "a method is too long: " + lines[first]);
                lookAtRecursion(lines, first, last);
            }
        }
    }

    private static void lookAtRecursion(String[] lines, int first, int last) {
        String name = lines[first].replaceAll("\\(.*", "").replaceAll(".* ", "");
        for (int line = first + 1; line < last && line < lines.length; line++) {
            boolean callsItself = lines[line].matches(".*\\b" + name + "\\(.*");
            expect(!callsItself || lines[first].contains("private static "), name + " calls itself and is not private static");
        }
    }

    private static void lookAtFace() {
        expect(Modifier.isFinal(BetweenBoth.class.getModifiers()), "the class is not final");
        Set<String> face = new TreeSet<>();
        Set<String> names = new TreeSet<>();
        for (Method m : BetweenBoth.class.getDeclaredMethods()) {
            if (!Modifier.isPrivate(m.getModifiers())) {
                StringBuilder told = new StringBuilder();
                for (Class<?> type : m.getParameterTypes()) {
                    told.append(told.length() > 0 ? "," : "").append(type.getName());
                }
                face.add(m.getName() + "(" + told + ")");
                names.add(m.getName());
                expect(m.getReturnType() == int.class && Modifier.isPublic(m.getModifiers()), m.getName() + " is not as told");
            }
        }
        expect(face.equals(new TreeSet<>(List.of(FACE.split(" ")))), "the face is " + face);
        for (Method m : BetweenBoth.class.getDeclaredMethods()) {
            expect(!Modifier.isPrivate(m.getModifiers()) || !names.contains(m.getName()), "private " + m.getName());
        }
        for (Class<?> inside : BetweenBoth.class.getDeclaredClasses()) {
            for (Method m : inside.getDeclaredMethods()) {
                expect(!names.contains(m.getName()), inside.getName() + " has a method with the name of a public one, " + m.getName());
            }
        }
        Constructor<?>[] made = BetweenBoth.class.getDeclaredConstructors();
        expect(made.length == 1 && made[0].getParameterCount() == 0, "another constructor");
        Set<String> constants = new TreeSet<>();
        for (Field f : BetweenBoth.class.getDeclaredFields()) {
            if (!Modifier.isPrivate(f.getModifiers())) {
                constants.add(f.getName());
            }
        }
        expect(constants.equals(Set.of("NONE", "UNKNOWN", "OUTSIDE", "NOT", "FULL")), "the constants are " + constants);
    }

    private static void lookAtInside(Class<?> inside) {
        int how = inside.getModifiers();
        expect(Modifier.isStatic(how), inside.getName() + " is not static");
        expect(!Modifier.isPublic(how) && !Modifier.isProtected(how), inside.getName() + " can be seen");
        expect(inside.getDeclaredClasses().length == 0, inside.getName() + " has classes of its own");
    }

    private static void lookAtMembers(Class<?> any) {
        int fields = 0;
        for (Field f : any.getDeclaredFields()) {
            boolean isStatic = Modifier.isStatic(f.getModifiers());
            fields += isStatic ? 0 : 1;
            expect(!isStatic || Modifier.isFinal(f.getModifiers()), f + " is static and not final");
        }
        expect(fields <= 20, any.getName() + " has more than twenty fields");
        for (Method m : any.getDeclaredMethods()) {
            expect(m.getParameterCount() <= 7, m + " takes more than seven parameters");
        }
    }
}
