import java.util.ArrayList;
import java.util.List;
import java.util.function.Consumer;
import java.util.function.ToIntFunction;

/**
 * All that the face tells of a desk after some calls. Every part is asked of a desk of its own, on
 * which the calls were made anew: one desk would not last for so many questions.
 */
final class Looks {
    private static final int PROCESSES = 15;
    private static final int DESCRIPTORS = 16;
    private static final int PIPES = 8;
    private static final int PIPE_BYTES = 512;

    private final Consumer<HandleDesk> calls;
    private final List<String> seen = new ArrayList<>();

    private Looks(Consumer<HandleDesk> calls) {
        this.calls = calls;
        descriptors();
        pipesAndInodes();
        bytesInPipes();
        typed();
        shown();
    }

    /** The call answers what is due, and afterwards all looks as it did before. */
    static void changesNothing(String told, Consumer<HandleDesk> before, ToIntFunction<HandleDesk> call, int want) {
        HandleDesk x = new HandleDesk();
        before.accept(x);
        Due.due(told, call.applyAsInt(x), want);
        same(told + " changes nothing", before, before.andThen(y -> call.applyAsInt(y)));
    }

    static void changesNothing(String told, ToIntFunction<HandleDesk> call, int want) {
        changesNothing(told, Looks::busy, call, want);
    }

    /** Two runs of calls lead to desks that look the same. */
    static void same(String told, Consumer<HandleDesk> some, Consumer<HandleDesk> others) {
        List<String> a = new Looks(some).seen;
        List<String> b = new Looks(others).seen;
        String difference = "";
        for (int i = 0; i < Math.min(a.size(), b.size()) && difference.isEmpty(); i++) {
            if (!a.get(i).equals(b.get(i))) {
                difference = " (" + a.get(i) + ", then " + b.get(i) + ")";
            }
        }
        Due.due(told + difference, a.equals(b), true);
    }

    /** Something of everything, with room for more: 10 open files, 2 pipes, a line done and one begun. */
    static void busy(HandleDesk x) {
        x.open(3, 2, 31, 1);
        x.open(3, 2, 32, 1);
        x.closeAll(3);
        x.open(0, 2, 7, 3);
        x.open(0, 3, 8, 3);
        x.pipe(0);
        x.move(0, 0, 5);
        x.copy(1, 0);
        x.put(0, 3, 65);
        x.put(1, 3, 66);
        x.open(14, 2, 9, 1);
        for (int d = 1; d < DESCRIPTORS; d++) {
            x.again(14, 0);
        }
        x.close(14, 7);
        x.open(13, 2, 10, 2);
        x.pipe(13);
        x.open(2, 3, 0, 1);
        x.open(2, 2, 11, 3);
        for (int b : new int[] {97, 98, 8, 4, 10, 99, 100}) {
            x.type(b);
        }
        x.show(120);
    }

    private HandleDesk desk() {
        HandleDesk x = new HandleDesk();
        calls.accept(x);
        return x;
    }

    private void descriptors() {
        for (int process = 0; process < PROCESSES; process++) {
            HandleDesk x = desk();
            for (int d = 0; d < DESCRIPTORS; d++) {
                for (int what = 0; what < 7; what++) {
                    seen.add("about(" + process + ", " + d + ", " + what + ") = " + x.about(process, d, what));
                }
            }
        }
    }

    private void pipesAndInodes() {
        HandleDesk x = desk();
        for (int k = 0; k < PIPES; k++) {
            for (int what = 0; what < 3; what++) {
                seen.add("ends(" + k + ", " + what + ") = " + x.ends(k, what));
            }
        }
        for (int k = 0; k <= DESCRIPTORS; k++) {
            seen.add("left(" + k + ") = " + x.left(k));
        }
    }

    private void bytesInPipes() {
        HandleDesk x = desk();
        for (int process = 0; process < PROCESSES; process++) {
            for (int d = 0; d < DESCRIPTORS; d++) {
                int b = x.take(process, d);
                for (int i = 0; i < PIPE_BYTES && b >= 0; i++) {
                    seen.add("take(" + process + ", " + d + ") = " + b);
                    b = x.take(process, d);
                }
                seen.add("take(" + process + ", " + d + ") = " + b);
            }
        }
    }

    private void typed() {
        HandleDesk x = desk();
        seen.add("waiting(0) = " + x.waiting(0));
        seen.add("waiting(1) = " + x.waiting(1));
        for (int i = x.waiting(0); i > 0; i--) {
            seen.add("read(true) = " + x.read(true));
        }
        // The line that is being typed can be read only when it is done.
        x.type(10);
        for (int i = x.waiting(0); i > 0; i--) {
            seen.add("of the line: read(true) = " + x.read(true));
        }
    }

    private void shown() {
        HandleDesk x = desk();
        int count = x.count();
        seen.add("count() = " + count);
        for (int k = 0; k <= count; k++) {
            seen.add("shown(" + k + ") = " + x.shown(k));
        }
    }
}
