import java.lang.annotation.ElementType;
import java.lang.annotation.Retention;
import java.lang.annotation.RetentionPolicy;
import java.lang.annotation.Target;
import java.util.ArrayList;
import java.util.List;
import java.util.function.Supplier;
import java.util.function.ToLongFunction;

/** Tests of single sentences: a method is of one, named by its promise, and runs on an object of its own. */
abstract class Sentences {
    /** The document's words that a test is of. */
    @Retention(RetentionPolicy.RUNTIME)
    @Target(ElementType.METHOD)
    @interface Says {
        String value();
    }

    static final int NONE = -1, BAD = -2, STATE = -3, FULL = -4, NOTHING = -5, NO_SEATING = -6, UNKNOWN = -10001;
    static final long NO = Long.MIN_VALUE;
    static final int MIN = Integer.MIN_VALUE, MAX = Integer.MAX_VALUE;

    DrunkByYear x = new DrunkByYear();
    final List<String> wrong = new ArrayList<>();

    final void is(long got, long want) {
        if (got != want) {
            wrong.add(got + ", due is " + want + where());
        }
    }

    /** The lines that asked, up to the test itself. */
    private static String where() {
        StringBuilder lines = new StringBuilder(", line");
        for (StackTraceElement at : new Throwable().getStackTrace()) {
            if (at.getClassName().endsWith("Sentences") && !at.getClassName().equals("Sentences")) {
                lines.append(' ').append(at.getLineNumber());
            }
        }
        return lines.toString();
    }

    static void feed(DrunkByYear x, String text) {
        for (int i = 0; i < text.length(); i++) {
            x.feed(text.charAt(i));
        }
    }

    static int village(DrunkByYear x, String text) {
        feed(x, text);
        return x.village();
    }

    final int village(String text) {
        return village(x, text);
    }

    static int times(int n, Runnable call) {
        for (int i = 0; i < n; i++) {
            call.run();
        }
        return n;
    }

    // ---- refusals, and calls that only ask

    /** Some of all there is, each of which some answer looks at; an image of less, and a trace. */
    static DrunkByYear rich() {
        DrunkByYear x = new DrunkByYear();
        x.person(0, 3, 60, 90);
        x.image();
        x.person(1, 4, 70, 90);
        x.person(6, 2, 50, 90);
        x.person(4, 1, 40, 90);
        x.vintage(90, 3);
        x.vintage(120, 2);
        x.vintage(80, 0);
        for (int k = 0; k <= 3; k++) {
            x.row(2, k, 5 + k);
        }
        village(x, "grown 20;old 50;bold 5 h<9");
        x.pour(0, 0);
        x.pour(2, 1);
        x.see(0, 30);
        x.see(1, 16);
        x.night(1, 1, 0);
        x.night(2, 0, 0);
        x.book(0, 30);
        x.book(1, 30);
        feed(x, "old 3");
        x.act(3, 2, 7);
        return x;
    }

    /** All that can be asked, and then what the tape and the image hold: it changes what it asks. */
    static List<Long> all(DrunkByYear x) {
        List<Long> all = new ArrayList<>();
        world(x, all);
        for (int i = 0; i <= 7; i++) {
            all.add((long) x.trace(i));
        }
        for (int p = 0; p < 6; p++) {
            all.add((long) x.drank(p));
            all.add((long) x.birth(p, 0));
            all.add((long) x.birth(p, 1));
            all.add((long) x.firm(p, 0));
            for (int k = 0; k <= 3; k++) {
                all.add((long) x.row(p, k, 0));
            }
        }
        all.add((long) x.dawn(1));
        feed(x, "5");
        all.add((long) x.village());
        world(x, all);
        all.add((long) x.undo());
        world(x, all);
        return all;
    }

    private static void world(DrunkByYear x, List<Long> all) {
        for (int what = 0; what <= 7; what++) {
            all.add((long) x.count(what));
            all.add((long) x.told(what));
        }
        for (int p = 0; p < 6; p++) {
            for (int what = 0; what <= 8; what++) {
                all.add((long) x.of(p, what));
            }
        }
        for (int w = 0; w < 5; w++) {
            all.add((long) x.wine(w, 0));
            all.add((long) x.wine(w, 1));
        }
        all.add((long) x.done(0));
        all.add((long) x.done(1));
        all.add((long) x.looked());
    }

    /** The call answers so, and behind it all is as it is without. */
    final void unchanged(Supplier<DrunkByYear> world, ToLongFunction<DrunkByYear> call, long answer) {
        DrunkByYear asked = world.get(), left = world.get();
        is(call.applyAsLong(asked), answer);
        List<Long> got = all(asked), want = all(left);
        if (!got.equals(want)) {
            wrong.add("it changes something" + where());
        }
    }

    final void unchanged(ToLongFunction<DrunkByYear> call, long answer) {
        unchanged(Sentences::rich, call, answer);
    }

    interface Asked {
        long ask(DrunkByYear x, int n);
    }

    /** Of what is numbered from 0 on there are so many: with any other number the call is refused so. */
    final void noSuch(int many, Asked call, long answer) {
        for (int n : new int[] {-1, many, MIN, MAX}) {
            unchanged(x -> call.ask(x, n), answer);
        }
    }
}
