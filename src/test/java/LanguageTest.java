import java.lang.reflect.Constructor;
import java.lang.reflect.Field;
import java.lang.reflect.Method;
import java.lang.reflect.Modifier;
import java.nio.file.Files;
import java.nio.file.Path;
import java.util.ArrayList;
import java.util.Arrays;
import java.util.HashSet;
import java.util.List;
import java.util.Set;
import java.util.TreeSet;
import java.util.regex.Matcher;
import java.util.regex.Pattern;
import java.util.stream.Stream;

/** The face, and those rules of LANGUAGE.md that a text search or reflection can see. */
public final class LanguageTest {
    private static final String[] FACE = {"row(int,int,int)int", "set(int,int,int)int", "copy(int,int,int,int,int)int",
        "drop(int)int", "feed(int)int", "day()int", "fault()int", "run(int,int)int", "layBest()int",
        "demand(int,int)int", "reserve(int)int", "price(int,int)int", "become(int,int)int", "undo()int",
        "unit(int,int)int", "hour(int,int)int", "gives(int,int)int", "plan(int)int", "best(int)int",
        "alone(int,int,int,int)long", "bound(int,int)long", "moved(int,int)int", "gap(int)int", "more(int)int",
        "wanted()int", "who(int,int,int)int", "fits(int,int,int)int", "drawn(int,int,int)int", "image(int)int",
        "restore(int)int", "kind(int)int", "as(int,int)int", "ask(int,int)int", "trace(int)int", "count(int)int",
        "status()int"};
    private static final Check CHECK = new Check("LanguageTest");

    public static void main(String[] args) throws Exception {
        face();
        classes();
        fields(UnitHours.class);
        for (Class<?> inside : UnitHours.class.getDeclaredClasses()) {
            fields(inside);
        }
        noHiddenClasses();
        text(Files.readString(Path.of("src/main/java/UnitHours.java")));
        CHECK.finish();
    }

    private static void face() {
        Set<String> open = new TreeSet<>();
        for (Method m : UnitHours.class.getDeclaredMethods()) {
            if (Modifier.isPublic(m.getModifiers())) {
                List<String> types = new ArrayList<>();
                for (Class<?> type : m.getParameterTypes()) {
                    types.add(type.getName());
                }
                open.add(m.getName() + "(" + String.join(",", types) + ")" + m.getReturnType().getName());
            } else {
                CHECK.holds("rule 1: " + m.getName() + " is private", Modifier.isPrivate(m.getModifiers()));
            }
        }
        CHECK.holds("rule 1: the methods " + open, open.equals(new TreeSet<>(Arrays.asList(FACE))));
        for (Field f : UnitHours.class.getDeclaredFields()) {
            boolean isConstant = Set.of("NONE", "BAD", "STATE", "FULL").contains(f.getName());
            CHECK.holds("rule 1: " + f.getName(), isConstant == Modifier.isPublic(f.getModifiers())
                    && isConstant != Modifier.isPrivate(f.getModifiers()));
        }
        Constructor<?>[] constructors = UnitHours.class.getDeclaredConstructors();
        CHECK.holds("rule 1: one constructor", constructors.length == 1 && constructors[0].getParameterCount() == 0
                && Modifier.isPublic(constructors[0].getModifiers()));
        int modifiers = UnitHours.class.getModifiers();
        CHECK.holds("rule 1: public, final", Modifier.isPublic(modifiers) && Modifier.isFinal(modifiers));
    }

    private static void classes() {
        Set<String> faceNames = new HashSet<>();
        for (String f : FACE) {
            faceNames.add(f.substring(0, f.indexOf('(')));
        }
        Class<?>[] inside = UnitHours.class.getDeclaredClasses();
        CHECK.holds("rule 11: some twelve classes", inside.length < 12);
        for (Class<?> c : inside) {
            int modifiers = c.getModifiers();
            CHECK.holds("rule 2: " + c.getName() + " is static", Modifier.isStatic(modifiers));
            CHECK.holds("rule 1: " + c.getName() + " is not for others",
                    !Modifier.isPublic(modifiers) && !Modifier.isProtected(modifiers));
            CHECK.holds("rule 2: none inside " + c.getName(), c.getDeclaredClasses().length == 0);
            for (Method m : c.getDeclaredMethods()) {
                CHECK.holds("rule 1: the name " + m.getName(), !faceNames.contains(m.getName()));
                CHECK.holds("rule 11: parameters of " + m.getName(), m.getParameterCount() <= 7);
            }
        }
        for (Method m : UnitHours.class.getDeclaredMethods()) {
            boolean isFace = Modifier.isPublic(m.getModifiers());
            CHECK.holds("rule 1: the name " + m.getName(), isFace || !faceNames.contains(m.getName()));
        }
    }

    private static void fields(Class<?> c) {
        int own = 0;
        for (Field f : c.getDeclaredFields()) {
            if (Modifier.isStatic(f.getModifiers())) {
                CHECK.holds("rule 5: " + f.getName() + " is final", Modifier.isFinal(f.getModifiers()));
                CHECK.holds("rule 5: the type of " + f.getName(),
                        Set.of(int.class, long.class, int[].class).contains(f.getType()));
            } else {
                CHECK.holds("rule 3: the type of " + f.getName(), isTold(f.getType()));
                own++;
            }
        }
        CHECK.holds("rule 11: fields of " + c.getName() + ": " + own, own <= 20);
    }

    private static boolean isTold(Class<?> type) {
        boolean isOwn = type.getName().startsWith("UnitHours$") || type.getName().startsWith("[LUnitHours$");
        return isOwn || Set.of(int.class, long.class, boolean.class, int[].class, long[].class, int[][].class)
                .contains(type);
    }

    /** Local and anonymous classes are compiled to files with a figure behind the $. */
    private static void noHiddenClasses() throws Exception {
        Path home = Path.of(UnitHours.class.getProtectionDomain().getCodeSource().getLocation().toURI());
        try (Stream<Path> files = Files.list(home)) {
            boolean isHidden = files.anyMatch(f -> f.getFileName().toString().matches("UnitHours\\$\\d.*"));
            CHECK.holds("rule 2: no local or anonymous class", !isHidden);
        }
    }

    private static void text(String source) {
        String code = source.replaceAll("(?s)/\\*.*?\\*/", " ").replaceAll("//[^\n]*", " ");
        String[] forbidden = {"\\bthrow\\b", "\\bthrows\\b", "\\btry\\b", "\\bcatch\\b", "\\bsynchronized\\b",
            "\\bassert\\b", "->", "::", "\\bpackage\\b", "\\bequals\\b", "\\bhashCode\\b", "\\btoString\\b", "Exact\\b",
            "\\bThread\\b", "\\bRandom\\b", "nanoTime", "currentTimeMillis", "\\bclass\\s*\\(", "\\bprotected\\b",
            "\\bdouble\\b", "\\bfloat\\b", "\\bString\\b", "\"",
            "while\\s*\\(true\\)", "for\\s*\\(;;\\)", "\\bstatic\\s*\\{"};
        for (String f : forbidden) {
            CHECK.holds("no " + f, !Pattern.compile(f).matcher(code).find());
        }
        Matcher imports = Pattern.compile("import ([^;]+);").matcher(code);
        while (imports.find()) {
            CHECK.holds("rule 4: " + imports.group(1), imports.group(1).equals("java.util.Arrays"));
        }
        Matcher library = Pattern.compile("\\b(Arrays|Math|Integer|System|Long)\\.(\\w+)").matcher(code);
        while (library.find()) {
            CHECK.holds("rule 4: " + library.group(), Set.of("Arrays.fill", "Math.min", "Math.max",
                    "Integer.bitCount", "System.arraycopy").contains(library.group()));
        }
        CHECK.holds("texts are plain", source.chars().allMatch(c -> c < 128));
        lengths(code);
    }

    private static void lengths(String code) {
        String name = "";
        int begun = 0;
        String[] lines = code.split("\n");
        for (int k = 0; k < lines.length; k++) {
            Matcher begins = Pattern.compile("^ {4,8}[\\w\\[\\] ]+ (\\w+)\\([^)]*\\) \\{$").matcher(lines[k]);
            if (begins.find()) {
                name = begins.group(1);
                begun = k;
            } else if (lines[k].matches("^ {4,8}\\}$") && !name.isEmpty()) {
                CHECK.holds("rule 11: " + name + " is short", k - begun < 60);
                name = "";
            }
        }
    }
}
