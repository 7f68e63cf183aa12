import java.lang.reflect.Constructor;
import java.lang.reflect.InvocationTargetException;
import java.lang.reflect.Method;
import java.nio.charset.StandardCharsets;
import java.nio.file.Files;
import java.nio.file.Path;
import java.util.ArrayList;
import java.util.Arrays;
import java.util.Comparator;
import java.util.List;
import java.util.function.Consumer;

/** Runs the tests of single sentences, and looks whether they quote the document, and leave nothing of it out. */
public final class SentencesTest {
    static final List<Class<? extends Sentences>> ALL = List.of(VillageSentences.class, PeopleSentences.class,
        HereSentences.class, SeatingSentences.class, SeenSentences.class, NightSentences.class, ActSentences.class);
    static final int PROMISES = 38;
    static final List<Method> tests = new ArrayList<>();
    static int wrong = 0;

    static void say(String what) {
        wrong++;
        System.out.println(what);
    }

    static void find() {
        for (Class<? extends Sentences> all : ALL) {
            Method[] methods = all.getDeclaredMethods();
            Arrays.sort(methods, Comparator.comparing(Method::getName));
            for (Method m : methods) {
                if (m.isAnnotationPresent(Sentences.Says.class)) {
                    tests.add(m);
                } else if (m.getName().matches("p\\d\\d_.*")) {
                    say(m.getName() + " does not tell what the document says");
                }
            }
        }
    }

    static int promiseOf(Method test) {
        return Integer.parseInt(test.getName().substring(1, 3));
    }

    static String wordsOf(Method test) {
        return plain(test.getAnnotation(Sentences.Says.class).value());
    }

    static void run(Method test) throws ReflectiveOperationException {
        Constructor<?> made = test.getDeclaringClass().getDeclaredConstructor();
        Sentences one = (Sentences) made.newInstance();
        try {
            test.invoke(one);
        } catch (InvocationTargetException e) {
            one.wrong.add("threw " + e.getCause());
        }
        for (String what : one.wrong) {
            say(test.getName() + ": " + what);
        }
    }

    // ---- what is taken for unchanged

    /** None of what calls change may be overlooked by what says that a call changes nothing. */
    static void overlooksNothing() {
        List<Consumer<DrunkByYear>> changes = List.of(x -> x.feed('1'), x -> x.feed('x'), x -> x.village(),
            x -> x.person(0, 0, 0, 0), x -> x.vintage(0, 0), x -> x.row(2, 0, 1), x -> x.row(2, 1, 1), x -> x.row(2, 2, 1),
            x -> x.row(2, 3, 1), x -> x.stock(0, 9), x -> x.stock(2, 1), x -> x.pour(1, 0), x -> x.pour(0, 0), x -> x.dry(0),
            x -> x.dry(2), x -> x.dawn(1), x -> x.blend(0, 1), x -> x.see(2, 45), x -> x.see(-1, 0), x -> x.night(0, 0, 0),
            x -> x.night(-1, 0, 0), x -> x.book(0, 30), x -> x.book(-1, 0), x -> x.act(0, 0, 0), x -> x.act(9, 0, 0),
            x -> x.image(), x -> x.undo());
        List<Long> left = Sentences.all(Sentences.rich());
        for (int i = 0; i < changes.size(); i++) {
            DrunkByYear x = Sentences.rich();
            changes.get(i).accept(x);
            if (Sentences.all(x).equals(left)) {
                say("change " + i + " is overlooked");
            }
        }
    }

    // ---- the document

    static String plain(String text) {
        return text.replaceAll("\\s+", " ").trim();
    }

    static void quotes(String document) {
        int first = document.indexOf("## Promise 1:");
        String ahead = plain(document.substring(0, first));
        String[] sections = new String[PROMISES + 1];
        for (int n = 1; n <= PROMISES; n++) {
            int from = document.indexOf("## Promise " + n + ":");
            int to = document.indexOf("\n## ", from + 1);
            sections[n] = plain(document.substring(from, to));
        }
        for (Method test : tests) {
            String words = wordsOf(test);
            if (!ahead.contains(words) && !sections[promiseOf(test)].contains(words)) {
                say(test.getName() + " quotes what the document does not say there: " + words);
            }
        }
        for (int n = 1; n <= PROMISES; n++) {
            leavesOut(sections[n].substring(sections[n].lastIndexOf("`: ") + 3), n);
        }
        leavesOut(ahead.substring(ahead.indexOf("==== 1")).replaceAll("The constants: .*", ""), 0);
    }

    /** Each piece of a text is to be quoted by a test of its promise (0: of any). */
    static void leavesOut(String text, int promise) {
        // Two points behind one another stand between numbers.
        for (String piece : text.split("(?<![.])[.;](\\s+|$)")) {
            boolean quoted = !piece.matches(".*[a-zA-Z].*");
            for (Method test : tests) {
                String words = wordsOf(test).replaceAll("[.;]$", "");
                quoted |= (promise == 0 || promiseOf(test) == promise) && (words.contains(piece) || piece.contains(words));
            }
            if (!quoted) {
                say((promise == 0 ? "the terms" : "promise " + promise) + ": no test quotes: " + piece);
            }
        }
    }

    /** With a word, only the tests whose names begin with it. */
    public static void main(String[] args) throws Exception {
        find();
        overlooksNothing();
        for (Method test : tests) {
            if (args.length == 0 || test.getName().startsWith(args[0])) {
                run(test);
            }
        }
        Path document = Path.of("../shared/DOC.md");
        if (Files.exists(document)) {
            quotes(new String(Files.readAllBytes(document), StandardCharsets.UTF_8));
        } else {
            System.out.println("there is no document here: what the tests quote is not looked at");
        }
        System.out.println(tests.size() + " tests of sentences, " + (wrong == 0 ? "all hold" : wrong + " wrong"));
        if (wrong != 0) System.exit(1);
    }
}
