/** Promises 3 and 11 to 13: pipes and their ends. */
public final class PipesTest {
    private static final int NONE = HandleDesk.NONE;

    public static void main(String[] args) {
        promise3Pipe();
        promise11Put();
        promise11PutWaitsAndBreaks();
        promise12Take();
        promise12TakeRound();
        promise13Ends();
        Due.finish();
    }

    private static void promise3Pipe() {
        HandleDesk x = new HandleDesk();
        Due.due("pipe", x.pipe(0), 0 + 16 * 1);
        Due.due("the first file reads", x.about(0, 0, 6), 0);
        Due.due("the second file writes", x.about(0, 1, 6), 1);
        Due.due("second pipe", x.pipe(0), 2 + 16 * 3);
        Due.due("pipe in the last process", x.pipe(14), 0 + 16 * 1);
        x.close(0, 1);
        Due.due("the next that is free need not be beside", x.pipe(0), 1 + 16 * 4);
        Due.due("reading end: kind", x.about(0, 1, 0), 1);
        Due.due("reading end: read", x.about(0, 1, 2), 1);
        Due.due("reading end: written", x.about(0, 1, 3), 0);
        Due.due("writing end: read", x.about(0, 4, 2), 0);
        Due.due("writing end: written", x.about(0, 4, 3), 1);
        Due.due("reading end: pipe", x.about(0, 1, 1), 3);
        Due.due("writing end: pipe", x.about(0, 4, 1), 3);
        x.close(0, 2);
        x.close(0, 3);
        x.pipe(1);
        Due.due("a new pipe is the least that is free", x.about(1, 1, 1), 1);
    }

    private static void promise11Put() {
        HandleDesk x = new HandleDesk();
        x.pipe(0);
        int[] bytes = {0, 1, 127, 128, 255, 256, 511, -1, -256, Integer.MIN_VALUE, Integer.MAX_VALUE};
        for (int b : bytes) {
            Due.due("put " + b, x.put(0, 1, b), 0);
        }
        Due.due("bytes there", x.ends(0, 0), bytes.length);
        for (int b : bytes) {
            Due.due("take " + b, x.take(0, 0), b & 255);
        }
    }

    // A full pipe takes more calls than an object is promised for; the words hold there all the same.
    private static void promise11PutWaitsAndBreaks() {
        HandleDesk x = new HandleDesk();
        x.pipe(0);
        for (int i = 0; i < 512; i++) {
            Due.due("filling, put number " + i, x.put(0, 1, i * 7), 0);
        }
        Due.due("put into a full pipe", x.put(0, 1, 5), HandleDesk.WAIT);
        Due.due("bytes of a full pipe", x.ends(0, 0), 512);
        Due.due("take from a full pipe", x.take(0, 0), 0);
        Due.due("put after a take", x.put(0, 1, 5), 0);
        Due.due("put into a full pipe again", x.put(0, 1, 5), HandleDesk.WAIT);
        x.close(0, 0);
        Due.due("broken comes before wait", x.put(0, 1, 5), HandleDesk.BROKEN);

        HandleDesk y = new HandleDesk();
        y.pipe(0);
        y.copy(1, 0);
        y.put(0, 1, 6);
        y.close(0, 0);
        Due.due("put while the reading end is named elsewhere", y.put(0, 1, 5), 0);
        y.close(1, 0);
        Due.due("put to a broken pipe", y.put(0, 1, 5), HandleDesk.BROKEN);
        Due.due("put to a broken pipe by another name", y.put(1, 1, 5), HandleDesk.BROKEN);
        Due.due("a broken pipe keeps its bytes", y.ends(0, 0), 2);
    }

    private static void promise12Take() {
        HandleDesk x = new HandleDesk();
        x.pipe(0);
        x.pipe(1);
        Due.due("take from an empty pipe", x.take(0, 0), HandleDesk.WAIT);
        x.put(0, 1, 5);
        x.put(1, 1, 50);
        x.put(0, 1, 6);
        Due.due("take the first", x.take(0, 0), 5);
        Due.due("one byte less", x.ends(0, 0), 1);
        x.put(0, 1, 200);
        x.close(0, 1);
        Due.due("take with the writing end closed", x.take(0, 0), 6);
        Due.due("take the last", x.take(0, 0), 200);
        Due.due("take at the end", x.take(0, 0), HandleDesk.END);
        Due.due("take at the end again", x.take(0, 0), HandleDesk.END);
        Due.due("the other pipe's byte", x.take(1, 0), 50);
        Due.due("the other pipe waits", x.take(1, 0), HandleDesk.WAIT);
        x.close(0, 0);
        x.put(1, 1, 51);
        x.close(1, 0);
        x.close(1, 1);
        x.pipe(3);
        x.pipe(3);
        Due.due("a new pipe is empty", x.ends(1, 0), 0);
        Due.due("a new pipe waits", x.take(3, 2), HandleDesk.WAIT);
    }

    private static void promise12TakeRound() {
        HandleDesk x = new HandleDesk();
        x.pipe(2);
        int put = 0;
        int taken = 0;
        for (int i = 0; i < 500; i++) {
            boolean puts = i % 5 < 3;
            if (puts) {
                Due.due("round put", x.put(2, 1, put++ * 3), 0);
            } else {
                Due.due("round take", x.take(2, 0), (taken++ * 3) & 255);
            }
        }
    }

    private static void promise13Ends() {
        HandleDesk x = new HandleDesk();
        x.pipe(0);
        Due.due("ends(0, 0)", x.ends(0, 0), 0);
        Due.due("ends(0, 1)", x.ends(0, 1), 1);
        Due.due("ends(0, 2)", x.ends(0, 2), 1);
        x.put(0, 1, 1);
        x.put(0, 1, 2);
        Due.due("two bytes", x.ends(0, 0), 2);
        x.again(0, 0);
        x.close(0, 0);
        Due.due("reading end by another name", x.ends(0, 1), 1);
        x.close(0, 2);
        Due.due("reading end closed", x.ends(0, 1), 0);
        Due.due("writing end open", x.ends(0, 2), 1);
        Due.due("its bytes", x.ends(0, 0), 2);
        x.pipe(1);
        x.close(1, 1);
        Due.due("second pipe: reading end", x.ends(1, 1), 1);
        Due.due("second pipe: writing end", x.ends(1, 2), 0);
        x.close(0, 1);
        for (int what = 0; what < 3; what++) {
            Due.due("gone, " + what, x.ends(0, what), NONE);
        }
        x.pipe(2);
        Due.due("new in its place: bytes", x.ends(0, 0), 0);
        Due.due("new in its place: reading end", x.ends(0, 1), 1);
        Due.due("new in its place: writing end", x.ends(0, 2), 1);
    }
}
