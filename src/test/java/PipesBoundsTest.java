/**
 * Promises 3 and 11 to 13: a test for each sentence that names a boundary case. A pipe is full only
 * after more calls than an object is promised for; the words hold there all the same.
 */
public final class PipesBoundsTest {
    private static final int NONE = HandleDesk.NONE;
    private static final int BROKEN = HandleDesk.BROKEN;
    private static final int WAIT = HandleDesk.WAIT;
    private static final int END = HandleDesk.END;
    private static final int PIPE_BYTES = 512;

    public static void main(String[] args) {
        promise3LeastFree();
        promise3NoSuchPlace();
        promise3NotTwoDescriptors();
        promise3MoreThanThirtyFiles();
        promise3EightPipes();
        promise3HalfClosedCounts();
        promise3NewInTheGoneOnesPlace();
        promise11LowestEightBits();
        promise11FullOrNot();
        promise11WaitChangesNothing();
        promise11Broken();
        promise11BrokenByTheLastName();
        promise11BrokenBeforeWait();
        promise11NoSuchDescriptor();
        promise11NoSuchProcess();
        promise11NotAWritingEnd();
        promise12LongestTime();
        promise12Round();
        promise12RoundAtEveryFilling();
        promise12Wait();
        promise12End();
        promise12EndOnlyWhenEmpty();
        promise12EndByTheLastName();
        promise12NoSuchDescriptor();
        promise12NoSuchProcess();
        promise12NotAReadingEnd();
        promise13EmptyAndFull();
        promise13OneEnd();
        promise13Gone();
        promise13NoSuchPipe();
        promise13NoSuchWhat();
        Due.finish();
    }

    /** Opens so many files, eight in a process, the last processes first. */
    private static void openMany(HandleDesk x, int files) {
        for (int i = 0; i < files; i++) {
            x.open(14 - i / 8, 2, 100 + i, 3);
        }
    }

    private static void nameMany(HandleDesk x, int process, int names) {
        x.open(process, 2, 50, 3);
        for (int i = 1; i < names; i++) {
            x.again(process, 0);
        }
    }

    private static void pipeWithBytes(HandleDesk x, int bytes) {
        x.pipe(0);
        for (int i = 0; i < bytes; i++) {
            x.put(0, 1, i * 7);
        }
    }

    private static void promise3LeastFree() {
        Due.promise(3, "the least descriptor that is free names its reading end, the next one its writing end");
        int[][] pairs = {{0, 1}, {0, 15}, {7, 8}, {3, 12}, {14, 15}};
        for (int[] pair : pairs) {
            for (int process : new int[] {0, 14}) {
                HandleDesk x = new HandleDesk();
                nameMany(x, process, 16);
                x.close(process, pair[1]);
                x.close(process, pair[0]);
                Due.due("pipe(" + process + ")", x.pipe(process), pair[0] + 16 * pair[1]);
                Due.due("the former reads", x.about(process, pair[0], 2), 1);
                Due.due("the former does not write", x.about(process, pair[0], 3), 0);
                Due.due("the latter writes", x.about(process, pair[1], 3), 1);
                Due.due("the latter does not read", x.about(process, pair[1], 2), 0);
            }
        }
        HandleDesk x = new HandleDesk();
        nameMany(x, 0, 9);
        x.close(0, 2);
        x.close(0, 4);
        Due.due("pipe, 2, 4 and more being free", x.pipe(0), 2 + 16 * 4);
        Due.due("pipe, 9 and more being free", x.pipe(0), 9 + 16 * 10);
    }

    private static void promise3NoSuchPlace() {
        Due.promise(3, "NONE if there is no such place");
        for (int process : Wrong.PROCESSES) {
            Looks.changesNothing("pipe(" + process + ")", x -> x.pipe(process), NONE);
        }
    }

    private static void promise3NotTwoDescriptors() {
        Due.promise(3, "NONE if not two descriptors are free");
        for (int process : new int[] {0, 14}) {
            HandleDesk x = new HandleDesk();
            nameMany(x, process, 14);
            Due.due("pipe with two free", x.pipe(process), 14 + 16 * 15);
            Looks.changesNothing("pipe(" + process + ") with none free",
                    y -> nameMany(y, process, 16), y -> y.pipe(process), NONE);
            for (int free : new int[] {15, 0, 8}) {
                Looks.changesNothing("pipe(" + process + ") with " + free + " alone free", y -> {
                    nameMany(y, process, 16);
                    y.close(process, free);
                }, y -> y.pipe(process), NONE);
            }
        }
    }

    private static void promise3MoreThanThirtyFiles() {
        Due.promise(3, "NONE if there are more than 30 open files");
        for (int files : new int[] {29, 30}) {
            HandleDesk x = new HandleDesk();
            openMany(x, files);
            Due.due("pipe with " + files, x.pipe(0), 16);
            Due.due("its reading end", x.about(0, 0, 6), files);
            Due.due("its writing end", x.about(0, 1, 6), files + 1);
        }
        for (int files : new int[] {31, 32}) {
            Looks.changesNothing("pipe(0) with " + files, x -> openMany(x, files), x -> x.pipe(0), NONE);
        }
        for (int closed : new int[] {0, 5, 7}) {
            Looks.changesNothing("pipe(0) with 31, a lower one being free", x -> {
                openMany(x, 32);
                x.close(14, closed);
            }, x -> x.pipe(0), NONE);
        }
        HandleDesk x = new HandleDesk();
        openMany(x, 32);
        x.close(14, 5);
        x.close(12, 1);
        Due.due("pipe with 30 of 32", x.pipe(0), 16);
        Due.due("its reading end is the least free", x.about(0, 0, 6), 5);
        Due.due("its writing end is the next free", x.about(0, 1, 6), 17);
    }

    private static void eightPipes(HandleDesk x) {
        for (int k = 0; k < 8; k++) {
            x.pipe(k);
            x.put(k, 1, k);
        }
    }

    private static void promise3EightPipes() {
        Due.promise(3, "NONE if there are 8 pipes");
        HandleDesk x = new HandleDesk();
        for (int k = 0; k < 8; k++) {
            Due.due("pipe with " + k + " pipes", x.pipe(14), 2 * k + 16 * (2 * k + 1));
            Due.due("its number", x.about(14, 2 * k, 1), k);
        }
        for (int process : new int[] {0, 8, 14}) {
            Looks.changesNothing("pipe(" + process + ") with 8",
                    PipesBoundsTest::eightPipes, y -> y.pipe(process), NONE);
        }
        Due.due("open with 8 pipes", x.open(0, 2, 9, 1), 0);
    }

    private static void promise3HalfClosedCounts() {
        Due.promise(3, "NONE if there are 8 pipes (a pipe is gone when both ends are closed)");
        for (int end = 0; end < 2; end++) {
            int closed = end;
            for (int k : new int[] {0, 3, 7}) {
                Looks.changesNothing("pipe(9) with 8, end " + closed + " of " + k + " closed", x -> {
                    eightPipes(x);
                    x.close(k, closed);
                }, x -> x.pipe(9), NONE);
                HandleDesk x = new HandleDesk();
                eightPipes(x);
                x.close(k, closed);
                x.close(k, 1 - closed);
                Due.due("pipe when " + k + " is gone", x.pipe(9), 16);
                Due.due("its number", x.about(9, 0, 1), k);
                Due.due("pipe with 8 again", x.pipe(9), NONE);
            }
        }
    }

    private static void promise3NewInTheGoneOnesPlace() {
        Due.promise(3, "A new pipe (where one is gone)");
        HandleDesk x = new HandleDesk();
        pipeWithBytes(x, 200);
        x.closeAll(0);
        Due.due("pipe", x.pipe(1), 16);
        Due.due("it has no byte", x.ends(0, 0), 0);
        Due.due("take", x.take(1, 0), WAIT);
        Due.due("put", x.put(1, 1, 5), 0);
        Due.due("take that", x.take(1, 0), 5);
    }

    private static void promise11LowestEightBits() {
        Due.promise(11, "The lowest eight bits of b");
        int[] bytes = {
            0, 1, 127, 128, 255, 256, 257, 511, 512, 0x12345680,
            -1, -2, -128, -129, -255, -256, -257, Integer.MIN_VALUE, Integer.MAX_VALUE
        };
        int[] want = {0, 1, 127, 128, 255, 0, 1, 255, 0, 128, 255, 254, 128, 127, 1, 0, 255, 0, 255};
        HandleDesk x = new HandleDesk();
        x.pipe(14);
        for (int b : bytes) {
            Due.due("put(14, 1, " + b + ")", x.put(14, 1, b), 0);
        }
        for (int i = 0; i < want.length; i++) {
            Due.due("take of " + bytes[i], x.take(14, 0), want[i]);
        }
    }

    private static void promise11FullOrNot() {
        Due.promise(11, "WAIT if it has 512");
        HandleDesk x = new HandleDesk();
        x.pipe(0);
        for (int i = 0; i < PIPE_BYTES; i++) {
            Due.due("put with " + i, x.put(0, 1, i), 0);
        }
        Due.due("put with 512", x.put(0, 1, 1), WAIT);
        Due.due("put with 512 again", x.put(0, 1, 1), WAIT);
        Due.due("take", x.take(0, 0), 0);
        Due.due("put with 511", x.put(0, 1, 2), 0);
        Due.due("put with 512 once more", x.put(0, 1, 3), WAIT);
        x.pipe(1);
        Due.due("put into another pipe", x.put(1, 1, 4), 0);
    }

    private static void promise11WaitChangesNothing() {
        Due.promise(11, "WAIT if it has 512 (and nothing comes into the pipe)");
        Looks.changesNothing("put(0, 1, 99) with 512", x -> pipeWithBytes(x, PIPE_BYTES), x -> x.put(0, 1, 99), WAIT);
    }

    private static void promise11Broken() {
        Due.promise(11, "BROKEN if its reading end is closed");
        for (int bytes : new int[] {0, 1, 300}) {
            Looks.changesNothing("put(0, 1, 99) with " + bytes, x -> {
                pipeWithBytes(x, bytes);
                x.close(0, 0);
            }, x -> x.put(0, 1, 99), BROKEN);
        }
        HandleDesk x = new HandleDesk();
        x.pipe(0);
        x.pipe(0);
        x.close(0, 0);
        Due.due("put into the other pipe", x.put(0, 3, 1), 0);
        x.open(0, 2, 9, 1);
        Due.due("put when the descriptor is used anew", x.put(0, 1, 1), BROKEN);
        x.close(0, 0);
        x.pipe(0);
        Due.due("put when a new pipe's end is there", x.put(0, 1, 1), BROKEN);
    }

    private static void promise11BrokenByTheLastName() {
        Due.promise(11, "BROKEN if its reading end is closed (no descriptor names it any more)");
        HandleDesk x = new HandleDesk();
        x.pipe(0);
        x.again(0, 0);
        x.copy(14, 0);
        x.close(0, 0);
        Due.due("put with three names", x.put(0, 1, 1), 0);
        x.close(0, 2);
        x.close(14, 2);
        Due.due("put with one name", x.put(0, 1, 1), 0);
        x.closeAll(14);
        Due.due("put with none", x.put(0, 1, 1), BROKEN);
    }

    private static void promise11BrokenBeforeWait() {
        Due.promise(11, "BROKEN (before WAIT)");
        HandleDesk x = new HandleDesk();
        pipeWithBytes(x, PIPE_BYTES);
        Due.due("put with 512", x.put(0, 1, 1), WAIT);
        x.close(0, 0);
        Due.due("put with 512, the reading end being closed", x.put(0, 1, 1), BROKEN);
        Due.due("its bytes", x.ends(0, 0), PIPE_BYTES);
    }

    private static void promise11NoSuchDescriptor() {
        Due.promise(11, "NONE if d is no such (not used)");
        for (int d : Wrong.DESCRIPTORS) {
            for (int process : new int[] {0, 1, 13, 14}) {
                Looks.changesNothing("put(" + process + ", " + d + ", 5)", x -> x.put(process, d, 5), NONE);
            }
        }
        Looks.changesNothing("put(0, 4, 5)", x -> x.put(0, 4, 5), NONE);
        Looks.changesNothing("put(4, 3, 5)", x -> x.put(4, 3, 5), NONE);
        HandleDesk x = new HandleDesk();
        x.pipe(0);
        x.close(0, 1);
        Due.due("put by a descriptor that was closed", x.put(0, 1, 5), NONE);
    }

    private static void promise11NoSuchProcess() {
        Due.promise(11, "NONE if d is no such (there is no such process)");
        for (int process : Wrong.PROCESSES) {
            for (int d : new int[] {0, 2, 3, 15, 16}) {
                Looks.changesNothing("put(" + process + ", " + d + ", 5)", x -> x.put(process, d, 5), NONE);
            }
        }
    }

    private static void promise11NotAWritingEnd() {
        Due.promise(11, "NONE if d is no such (it writes to no pipe)");
        Looks.changesNothing("put to an inode that can be written", x -> x.put(0, 0, 5), NONE);
        Looks.changesNothing("put to the console that can be written", x -> x.put(0, 1, 5), NONE);
        Looks.changesNothing("put to a reading end", x -> x.put(0, 2, 5), NONE);
        Looks.changesNothing("put to a reading end, the writing end being closed", x -> {
            pipeWithBytes(x, 3);
            x.close(0, 1);
        }, x -> x.put(0, 0, 5), NONE);
        Looks.changesNothing("put to an inode in the place of a writing end", x -> {
            pipeWithBytes(x, 3);
            x.close(0, 1);
            x.open(0, 2, 9, 2);
        }, x -> x.put(0, 1, 5), NONE);
        Looks.changesNothing("put to the console in the place of a writing end", x -> {
            pipeWithBytes(x, 3);
            x.close(0, 1);
            x.open(0, 3, 9, 3);
        }, x -> x.put(0, 1, 5), NONE);
    }

    private static void promise12LongestTime() {
        Due.promise(12, "The byte that has been in the pipe the longest time");
        HandleDesk x = new HandleDesk();
        x.pipe(0);
        for (int i = 0; i < 250; i++) {
            x.put(0, 1, i * 3);
        }
        for (int i = 0; i < 250; i++) {
            Due.due("take number " + i, x.take(0, 0), (i * 3) & 255);
        }
        Due.due("take from the empty pipe", x.take(0, 0), WAIT);
    }

    private static void promise12Round() {
        Due.promise(12, "leaves it: it (on past the place where the row is full, full each time)");
        HandleDesk x = new HandleDesk();
        pipeWithBytes(x, PIPE_BYTES);
        for (int i = 0; i < 3 * PIPE_BYTES; i++) {
            Due.due("full, put " + i, x.put(0, 1, 99), WAIT);
            Due.due("full, take " + i, x.take(0, 0), (i * 7) & 255);
            Due.due("511 then", x.ends(0, 0), PIPE_BYTES - 1);
            Due.due("511, put " + i, x.put(0, 1, (i + PIPE_BYTES) * 7), 0);
        }
        for (int i = 3 * PIPE_BYTES; i < 4 * PIPE_BYTES; i++) {
            Due.due("emptying, take " + i, x.take(0, 0), (i * 7) & 255);
        }
        Due.due("empty", x.take(0, 0), WAIT);
        Due.due("no byte", x.ends(0, 0), 0);
    }

    private static void promise12RoundAtEveryFilling() {
        Due.promise(12, "leaves it: it (on past the place where the row is full, from empty to full)");
        HandleDesk x = new HandleDesk();
        x.pipe(14);
        int put = 0;
        int taken = 0;
        for (int filling = 1; filling <= PIPE_BYTES; filling += 73) {
            for (int i = 0; i < filling; i++) {
                Due.due("put number " + put, x.put(14, 1, put * 5), 0);
                put++;
            }
            Due.due("bytes", x.ends(0, 0), filling);
            for (int i = 0; i < filling; i++) {
                Due.due("take number " + taken, x.take(14, 0), (taken * 5) & 255);
                taken++;
            }
            Due.due("empty after " + filling, x.take(14, 0), WAIT);
        }
    }

    private static void promise12Wait() {
        Due.promise(12, "WAIT if there is none");
        Looks.changesNothing("take(0, 0) of a new pipe", x -> x.pipe(0), x -> x.take(0, 0), WAIT);
        Looks.changesNothing("take(0, 0) of a pipe that had bytes", x -> {
            pipeWithBytes(x, 2);
            x.take(0, 0);
            x.take(0, 0);
        }, x -> x.take(0, 0), WAIT);
        HandleDesk x = new HandleDesk();
        x.pipe(0);
        x.pipe(0);
        x.put(0, 3, 5);
        Due.due("take, the other pipe having one", x.take(0, 0), WAIT);
        x.put(0, 1, 0);
        Due.due("take of byte 0", x.take(0, 0), 0);
        Due.due("take then", x.take(0, 0), WAIT);
    }

    private static void promise12End() {
        Due.promise(12, "END if its writing end is closed then, too");
        Looks.changesNothing("take(0, 0)", x -> {
            x.pipe(0);
            x.close(0, 1);
        }, x -> x.take(0, 0), END);
        HandleDesk x = new HandleDesk();
        x.pipe(0);
        x.pipe(0);
        x.close(0, 1);
        Due.due("take", x.take(0, 0), END);
        Due.due("take again", x.take(0, 0), END);
        Due.due("take from the other pipe", x.take(0, 2), WAIT);
    }

    private static void promise12EndOnlyWhenEmpty() {
        Due.promise(12, "END (if there is none)");
        for (int bytes : new int[] {1, 2, 200}) {
            HandleDesk x = new HandleDesk();
            pipeWithBytes(x, bytes);
            x.close(0, 1);
            for (int i = 0; i < bytes; i++) {
                Due.due("take number " + i + " of " + bytes, x.take(0, 0), (i * 7) & 255);
            }
            Due.due("take behind " + bytes, x.take(0, 0), END);
        }
    }

    private static void promise12EndByTheLastName() {
        Due.promise(12, "END if its writing end is closed (no descriptor names it any more)");
        HandleDesk x = new HandleDesk();
        x.pipe(0);
        x.again(0, 1);
        x.copy(14, 0);
        x.close(0, 1);
        Due.due("take with three names", x.take(0, 0), WAIT);
        x.close(0, 2);
        x.close(14, 2);
        Due.due("take with one name", x.take(0, 0), WAIT);
        x.closeAll(14);
        Due.due("take with none", x.take(0, 0), END);
    }

    private static void promise12NoSuchDescriptor() {
        Due.promise(12, "NONE if d is no such (not used)");
        for (int d : Wrong.DESCRIPTORS) {
            for (int process : new int[] {0, 1, 13, 14}) {
                Looks.changesNothing("take(" + process + ", " + d + ")", x -> x.take(process, d), NONE);
            }
        }
        Looks.changesNothing("take(0, 4)", x -> x.take(0, 4), NONE);
        Looks.changesNothing("take(4, 2)", x -> x.take(4, 2), NONE);
        HandleDesk x = new HandleDesk();
        pipeWithBytes(x, 2);
        x.close(0, 0);
        Due.due("take by a descriptor that was closed", x.take(0, 0), NONE);
    }

    private static void promise12NoSuchProcess() {
        Due.promise(12, "NONE if d is no such (there is no such process)");
        for (int process : Wrong.PROCESSES) {
            for (int d : new int[] {0, 2, 3, 15, 16}) {
                Looks.changesNothing("take(" + process + ", " + d + ")", x -> x.take(process, d), NONE);
            }
        }
    }

    private static void promise12NotAReadingEnd() {
        Due.promise(12, "NONE if d is no such (it reads from no pipe)");
        Looks.changesNothing("take from an inode that can be read", x -> x.take(0, 0), NONE);
        Looks.changesNothing("take from the console that can be read", x -> x.take(0, 1), NONE);
        Looks.changesNothing("take from a writing end", x -> x.take(0, 3), NONE);
        Looks.changesNothing("take from a writing end, the reading end being closed", x -> {
            pipeWithBytes(x, 3);
            x.close(0, 0);
        }, x -> x.take(0, 1), NONE);
        Looks.changesNothing("take from an inode in the place of a reading end", x -> {
            pipeWithBytes(x, 3);
            x.close(0, 0);
            x.open(0, 2, 9, 3);
        }, x -> x.take(0, 0), NONE);
    }

    private static void promise13EmptyAndFull() {
        Due.promise(13, "what 0: how many bytes it has");
        HandleDesk x = new HandleDesk();
        x.pipe(0);
        for (int i = 0; i < PIPE_BYTES; i++) {
            Due.due("ends(0, 0)", x.ends(0, 0), i);
            x.put(0, 1, 0);
        }
        Due.due("ends(0, 0) of a full pipe", x.ends(0, 0), PIPE_BYTES);
        x.put(0, 1, 0);
        Due.due("ends(0, 0) when no byte came", x.ends(0, 0), PIPE_BYTES);
        for (int i = PIPE_BYTES - 1; i >= 0; i--) {
            x.take(0, 0);
            Due.due("ends(0, 0)", x.ends(0, 0), i);
        }
        x.take(0, 0);
        Due.due("ends(0, 0) when no byte left", x.ends(0, 0), 0);
    }

    private static void promise13OneEnd() {
        Due.promise(13, "1, 2: whether its reading, its writing end is open");
        for (int k = 0; k < 8; k++) {
            for (int end = 0; end < 2; end++) {
                HandleDesk x = new HandleDesk();
                eightPipes(x);
                Due.due("ends(" + k + ", 1) of both", x.ends(k, 1), 1);
                Due.due("ends(" + k + ", 2) of both", x.ends(k, 2), 1);
                x.again(k, end);
                x.close(k, end);
                Due.due("ends(" + k + ", 1) with another name", x.ends(k, 1), 1);
                Due.due("ends(" + k + ", 2) with another name", x.ends(k, 2), 1);
                x.close(k, 2);
                Due.due("ends(" + k + ", 0), one end closed", x.ends(k, 0), 1);
                Due.due("ends(" + k + ", 1), one end closed", x.ends(k, 1), end == 0 ? 0 : 1);
                Due.due("ends(" + k + ", 2), one end closed", x.ends(k, 2), end == 1 ? 0 : 1);
            }
        }
    }

    private static void promise13Gone() {
        Due.promise(13, "NONE if there is none (a pipe is gone when both are closed)");
        for (int k = 0; k < 8; k++) {
            HandleDesk x = new HandleDesk();
            eightPipes(x);
            x.closeAll(k);
            for (int other = 0; other < 8; other++) {
                for (int what = 0; what < 3; what++) {
                    int want = other == k ? NONE : 1;
                    Due.due("ends(" + other + ", " + what + "), " + k + " being gone", x.ends(other, what), want);
                }
            }
        }
    }

    private static void promise13NoSuchPipe() {
        Due.promise(13, "NONE if there is none");
        for (int what = 0; what < 3; what++) {
            int w = what;
            for (int k : Wrong.PIPES) {
                Looks.changesNothing("ends(" + k + ", " + w + ") with 8",
                        PipesBoundsTest::eightPipes, x -> x.ends(k, w), NONE);
            }
            for (int k = 2; k < 8; k++) {
                int pipe = k;
                Looks.changesNothing("ends(" + k + ", " + w + ") with 2", x -> x.ends(pipe, w), NONE);
            }
        }
    }

    private static void promise13NoSuchWhat() {
        Due.promise(13, "NONE if no such what");
        for (int what : Wrong.WHATS_ENDS) {
            for (int k = 0; k < 8; k++) {
                int pipe = k;
                Looks.changesNothing("ends(" + k + ", " + what + ") with 8",
                        PipesBoundsTest::eightPipes, x -> x.ends(pipe, what), NONE);
            }
            Looks.changesNothing("ends(8, " + what + ")", x -> x.ends(8, what), NONE);
        }
    }
}
