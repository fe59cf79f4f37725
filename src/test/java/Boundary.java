import java.io.IOException;
import java.nio.file.Files;
import java.nio.file.Path;
import java.util.List;
import java.util.function.Function;
import java.util.function.Supplier;
import java.util.function.ToIntBiFunction;
import java.util.function.ToIntFunction;

/** What the tests of the boundaries share: the sentence that is tested, calls that are refused, the ends of a number. */
final class Boundary {
    private static final int BAD = -1;
    private static final Path DOCUMENT = Path.of("../shared/DOC.md");
    private final Check check = new Check();
    private final String document = read();
    private String sentence = "";
    private int sentences;

    private static String read() {
        try {
            return Files.isReadable(DOCUMENT) ? Files.readString(DOCUMENT) : "";
        } catch (IOException unread) {
            return "";
        }
    }

    /** From here on this is tested, told in the document's own words, so that a changed document is seen. */
    void of(String words) {
        sentence = words;
        sentences++;
        check.isSo("the document still says: " + words, document.isEmpty() || document.contains(words));
    }

    void due(String call, int got, int want) {
        check.due("\"" + sentence + "\": " + call, got, want);
    }

    void isSo(String what, boolean so) {
        check.isSo("\"" + sentence + "\": " + what, so);
    }

    /** A call that is refused where led leads to: its answer, and that nothing has changed, seen or unseen. */
    void refused(Supplier<LeftAndRight> led, String name, ToIntFunction<LeftAndRight> call, int want) {
        unchanged(led, name, call, want, Asked::all);
        unchanged(led, name, call, want, Asked::undone);
        unchanged(led, name, call, want, Asked::keptAndWritten);
    }

    /** Asked of one object that had the call and of one that had not, so that each stays under its 512 calls. */
    private void unchanged(Supplier<LeftAndRight> led, String name, ToIntFunction<LeftAndRight> call, int want,
            Function<LeftAndRight, List<String>> asked) {
        LeftAndRight x = led.get();
        due(name, call.applyAsInt(x), want);
        List<String> before = asked.apply(led.get());
        List<String> behind = asked.apply(x);
        for (int i = 0; i < Math.max(before.size(), behind.size()); i++) {
            String was = i < before.size() ? before.get(i) : "";
            String is = i < behind.size() ? behind.get(i) : "";
            if (!was.equals(is)) {
                isSo(name + " changed " + was + " to " + is, false);
                return;
            }
        }
        isSo(name + " changed nothing", true);
    }

    /** A number that is told from low to high: those inside are not BAD, each one beyond is. */
    void ends(Supplier<LeftAndRight> led, String name, ToIntBiFunction<LeftAndRight, Integer> call, int low, int high) {
        int[] inside = {low, low + 1, high - 1, high};
        for (int number : inside) {
            if (number >= low && number <= high) {
                isSo(name + " of " + number + " is not BAD", call.applyAsInt(led.get(), number) != BAD);
            }
        }
        beyond(led, name, call, low - 1, high + 1);
    }

    /** These and all beyond them are BAD, those that wrap around, too. */
    void beyond(Supplier<LeftAndRight> led, String name, ToIntBiFunction<LeftAndRight, Integer> call, int below, int above) {
        int[] outside = {below, above, below - 256, above + 256, below - 65536, above + 65536,
            Integer.MIN_VALUE, Integer.MIN_VALUE + 1, Integer.MAX_VALUE - 1, Integer.MAX_VALUE};
        for (int number : outside) {
            refused(led, name + " of " + number, x -> call.applyAsInt(x, number), BAD);
        }
    }

    void end(String test) {
        System.out.println(test + ": " + sentences + " sentences");
        check.end(test);
    }
}
