import java.lang.management.ManagementFactory;
import java.lang.reflect.Constructor;
import java.lang.reflect.Field;
import java.lang.reflect.Method;
import java.lang.reflect.Modifier;
import java.nio.charset.StandardCharsets;
import java.nio.file.Files;
import java.nio.file.Path;
import java.util.Arrays;
import java.util.HashSet;
import java.util.List;
import java.util.Set;
import java.util.regex.Matcher;
import java.util.regex.Pattern;

/** What can be seen of LANGUAGE.md's rules in the source and in the compiled class, and what the calls make. */
public final class RulesTest {
    static final List<String> FACE = Arrays.asList("feed", "village", "person", "vintage", "of", "row", "wine", "stock",
        "told", "pour", "dry", "dawn", "blend", "alive", "brings", "nearest", "two", "meet", "fewest", "close", "boldest",
        "see", "drank", "birth", "firm", "odds", "mean", "night", "done", "book", "looked", "act", "trace", "as", "image",
        "undo", "count");
    static int wrong = 0;

    static void rule(boolean kept, String what) {
        if (!kept) {
            wrong++;
            System.out.println("not kept: " + what);
        }
    }

    static void face() {
        Set<String> seen = new HashSet<>();
        for (Method m : DrunkByYear.class.getDeclaredMethods()) {
            boolean shown = Modifier.isPublic(m.getModifiers());
            rule(shown == FACE.contains(m.getName()), "1: the method " + m);
            rule(shown || Modifier.isPrivate(m.getModifiers()), "1: " + m + " is private");
            rule(!shown || seen.add(m.getName()), "1: " + m + " stands once");
            rule(m.getParameterCount() <= 7, "11: parameters of " + m);
        }
        rule(seen.size() == FACE.size(), "1: all of the face");
        List<String> constants = Arrays.asList("NONE", "BAD", "STATE", "FULL", "NO");
        for (Field f : DrunkByYear.class.getDeclaredFields()) {
            boolean shown = constants.contains(f.getName());
            rule(shown ? Modifier.isPublic(f.getModifiers()) : Modifier.isPrivate(f.getModifiers()), "1: the field " + f);
        }
        rule(DrunkByYear.class.getDeclaredConstructors().length == 1, "1: one constructor");
        rule(Modifier.isFinal(DrunkByYear.class.getModifiers()), "1: the class is final");
        classesInside();
    }

    static void classesInside() {
        Class<?>[] inside = DrunkByYear.class.getDeclaredClasses();
        rule(inside.length < 12, "11: the number of classes");
        for (Class<?> c : inside) {
            int m = c.getModifiers();
            rule(Modifier.isStatic(m) && !Modifier.isPublic(m) && !Modifier.isProtected(m), "2: " + c);
            int fields = 0;
            for (Field f : c.getDeclaredFields()) {
                boolean fixed = Modifier.isStatic(f.getModifiers());
                rule(!fixed || Modifier.isFinal(f.getModifiers()), "5: " + f);
                fields += fixed ? 0 : 1;
            }
            rule(fields <= 20, "11: the fields of " + c);
            for (Constructor<?> made : c.getDeclaredConstructors()) {
                rule(made.getParameterCount() <= 7, "11: parameters of " + made);
            }
            for (Method method : c.getDeclaredMethods()) {
                rule(!FACE.contains(method.getName()), "1: the name of " + method);
                rule(method.getParameterCount() <= 7, "11: parameters of " + method);
            }
        }
    }

    static void source(String text) {
        for (int i = 0; i < text.length(); i++) {
            rule(text.charAt(i) < 128, "4: the sign at " + i);
        }
        String code = text.replaceAll("(?s)/\\*.*?\\*/", "").replaceAll("//[^\n]*", "");
        String bare = code.replaceAll("\"[^\"\n]*\"", "\"\"").replaceAll("'.'", "' '");
        for (String word : new String[] {"throw", "throws", "try", "catch", "finally", "synchronized", "assert", "import",
            "package", "equals", "hashCode", "toString", "protected", "volatile", "native", "abstract", "var"}) {
            rule(!Pattern.compile("\\b" + word + "\\b").matcher(bare).find(), "the word " + word);
        }
        rule(!bare.contains("->") && !bare.contains("::"), "2: no lambda, no reference to a method");
        rule(!Pattern.compile("static\\s*\\{").matcher(bare).find(), "5: no static block");
        rule(!bare.contains("\"\" +") && !bare.contains("+ \"\""), "10: no joining by +");
        Set<String> library = new HashSet<>(Arrays.asList("System.arraycopy", "Math.abs", "Math.max", "Math.min",
            "Integer.bitCount", "Long.MIN_VALUE"));
        Matcher use = Pattern.compile("\\b(System|Math|Integer|Long|Arrays|Thread|Runtime|java)\\.\\w+").matcher(bare);
        while (use.find()) {
            rule(library.contains(use.group()), "4: " + use.group());
        }
        Matcher made = Pattern.compile("\\bnew (\\w+)[(\\[]").matcher(bare);
        while (made.find()) {
            rule("Village World Search Acts Person Rows Reader int char".contains(made.group(1)), "12: new " + made.group(1));
        }
        lengths(bare);
    }

    static void lengths(String bare) {
        int began = -1;
        String[] lines = bare.split("\n");
        for (int i = 0; i < lines.length; i++) {
            if (lines[i].matches(" {4}( {4})?\\S.*\\) \\{")) {
                began = i;
            } else if (began >= 0 && lines[i].matches(" {4}( {4})?\\}")) {
                rule(i - began <= 60, "11: the length of " + lines[began].trim());
                began = -1;
            }
            rule(lines[i].length() <= 140, "a line of more than 140 signs: " + (i + 1));
        }
    }

    /** All calls live in one room: but for a reader a village they make nothing. */
    static void room() {
        DrunkByYear x = new DrunkByYear();
        for (int kind = 1; kind <= 6; kind++) {
            x.person(kind, kind, 40 + 9 * kind, 90);
        }
        for (int year = 70; year <= 150; year += 20) {
            x.vintage(year, 2);
        }
        x.image();
        com.sun.management.ThreadMXBean threads = (com.sun.management.ThreadMXBean) ManagementFactory.getThreadMXBean();
        long self = Thread.currentThread().getId();
        askAll(x);
        long before = threads.getThreadAllocatedBytes(self);
        for (int i = 0; i < 12; i++) {
            askAll(x);
        }
        long made = threads.getThreadAllocatedBytes(self) - before;
        rule(made < 12 * 1000, "12: " + made + " bytes made by some 500 calls");
    }

    static void askAll(DrunkByYear x) {
        for (int i = 0; i < 5; i++) {
            x.feed("old 1".charAt(i));
        }
        x.village();
        x.undo();
        for (int i = 0; i < 6; i++) {
            x.fewest(1 << i, 0);
            x.birth(i, 0);
            x.act(i, 2, i);
        }
        x.close(0);
        x.boldest(0);
        x.night(0, 0, 0);
        x.done(1);
        x.image();
        x.meet(0, 1, 0);
        x.mean(0);
        x.odds(0, 0, 0);
    }

    public static void main(String[] args) throws Exception {
        face();
        source(new String(Files.readAllBytes(Path.of("src/main/java/DrunkByYear.java")), StandardCharsets.UTF_8));
        room();
        System.out.println(wrong == 0 ? "the rules are kept" : wrong + " rules are not kept");
        if (wrong != 0) System.exit(1);
    }
}
