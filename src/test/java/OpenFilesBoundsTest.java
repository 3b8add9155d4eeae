/** Promises 1, 2 and 4 to 10: a test for each sentence that names a boundary case. */
public final class OpenFilesBoundsTest {
    private static final int NONE = HandleDesk.NONE;
    private static final int LEAST = Integer.MIN_VALUE;
    private static final int GREATEST = Integer.MAX_VALUE;

    public static void main(String[] args) {
        promise1NothingOpen();
        promise1NothingTyped();
        promise1NothingShown();
        promise2LeastFree();
        promise2AnyInode();
        promise2AnyNumberForTheConsole();
        promise2NoSuchPlace();
        promise2NoSuchKind();
        promise2NoSuchHow();
        promise2NoneFree();
        promise2ThirtyTwo();
        promise2ThirtyTwoWithPipes();
        promise2ThirtyTwoCountsFilesNotNames();
        promise4LeastFree();
        promise4NotUsed();
        promise4NoneFree();
        promise4NoSuchPlace();
        promise4NeedsNoNewFile();
        promise5LeftByTheLastName();
        promise5NoneLeft();
        promise5EdgesOfTheRow();
        promise5NotUsed();
        promise5NoSuchPlace();
        promise6Empty();
        promise6Full();
        promise6FromNoughtOn();
        promise6EachAsOften();
        promise6NamedElsewhere();
        promise6NoSuchPlace();
        promise7NoneBefore();
        promise7TooSmallAndTooLarge();
        promise7Sixteen();
        promise7TheLatest();
        promise7OnlyCloseAll();
        promise7RefusedCloseAll();
        promise8Empty();
        promise8Full();
        promise8EveryProcess();
        promise8NoSuchPlaces();
        promise8TheSame();
        promise8OneThatIsUsed();
        promise9LeastFreeFile();
        promise9LeastFreePipe();
        promise9LastFile();
        promise9NothingOfTheOneBefore();
        promise9Kinds();
        promise9NoSuchWhat();
        promise9NotUsed();
        promise9NoSuchProcess();
        promise10Bounds();
        promise10BelowNought();
        promise10NotUsed();
        promise10OtherKinds();
        promise10NoSuchProcess();
        Due.finish();
    }

    private static void openMany(HandleDesk x, int process, int files) {
        for (int i = 0; i < files; i++) {
            x.open(process, 2, 100 + i, 3);
        }
    }

    /** One open file that the first descriptors of a process all name. */
    private static void nameMany(HandleDesk x, int process, int names) {
        x.open(process, 2, 50, 3);
        for (int i = 1; i < names; i++) {
            x.again(process, 0);
        }
    }

    private static void openThirtyOne(HandleDesk x) {
        openMany(x, 0, 16);
        openMany(x, 1, 15);
    }

    private static void openThirtyTwo(HandleDesk x) {
        openMany(x, 0, 16);
        openMany(x, 1, 16);
    }

    private static void promise1NothingOpen() {
        Due.promise(1, "Nothing is open");
        HandleDesk x = new HandleDesk();
        for (int process = 0; process < 15; process++) {
            for (int d = 0; d < 16; d++) {
                Due.due("about(" + process + ", " + d + ", 0)", x.about(process, d, 0), NONE);
            }
        }
        for (int k = 0; k < 8; k++) {
            Due.due("ends(" + k + ", 0)", x.ends(k, 0), NONE);
        }
        for (int process = 0; process < 15; process++) {
            Due.due("closeAll(" + process + ")", x.closeAll(process), 0);
            Due.due("left(0)", x.left(0), 0);
        }
        Due.due("the first open", x.open(0, 2, 1, 1), 0);
        Due.due("the first open file", x.about(0, 0, 6), 0);
    }

    private static void promise1NothingTyped() {
        Due.promise(1, "Nothing is typed");
        HandleDesk x = new HandleDesk();
        Due.due("waiting(0)", x.waiting(0), 0);
        Due.due("waiting(1)", x.waiting(1), 0);
        Due.due("read(true)", x.read(true), HandleDesk.WAIT);
        Due.due("read(false)", x.read(false), HandleDesk.WAIT);
    }

    private static void promise1NothingShown() {
        Due.promise(1, "Nothing is shown");
        HandleDesk x = new HandleDesk();
        Due.due("count()", x.count(), 0);
        for (int k : new int[] {LEAST, -1, 0, 1, 4095, 4096, GREATEST}) {
            Due.due("shown(" + k + ")", x.shown(k), NONE);
        }
    }

    private static void promise2LeastFree() {
        Due.promise(2, "for the least descriptor of a process that is free");
        for (int process : new int[] {0, 7, 14}) {
            HandleDesk x = new HandleDesk();
            nameMany(x, process, 16);
            for (int d : new int[] {15, 0, 8}) {
                x.close(process, d);
                Due.due("open, " + d + " alone is free", x.open(process, 2, 60 + d, 1), d);
                Due.due("it is there", x.about(process, d, 1), 60 + d);
            }
            x.close(process, 15);
            x.close(process, 0);
            x.close(process, 8);
            Due.due("open, 0, 8 and 15 are free", x.open(process, 3, 1, 1), 0);
            Due.due("open, 8 and 15 are free", x.open(process, 2, 1, 1), 8);
            Due.due("open, 15 is free", x.open(process, 3, 1, 1), 15);
        }
    }

    private static void promise2AnyInode() {
        Due.promise(2, "kind 2, for an inode (which can be any number)");
        for (int inode : new int[] {LEAST, -4, -3, -2, -1, 0, 1, 255, 256, GREATEST}) {
            for (int how = 1; how <= 3; how++) {
                HandleDesk x = new HandleDesk();
                Due.due("open for " + inode, x.open(14, 2, inode, how), 0);
                Due.due("its inode", x.about(14, 0, 1), inode);
                Due.due("how " + how + " to be read", x.about(14, 0, 2), how == 2 ? 0 : 1);
                Due.due("how " + how + " to be written", x.about(14, 0, 3), how == 1 ? 0 : 1);
                Due.due("left by close", x.close(14, 0), inode);
            }
        }
    }

    private static void promise2AnyNumberForTheConsole() {
        Due.promise(2, "kind 3 (any number)");
        for (int inode : new int[] {LEAST, -1, 0, 1, GREATEST}) {
            for (int how = 1; how <= 3; how++) {
                HandleDesk x = new HandleDesk();
                Due.due("open the console with " + inode, x.open(14, 3, inode, how), 0);
                Due.due("0 for the console", x.about(14, 0, 1), 0);
                Due.due("how " + how + " to be read", x.about(14, 0, 2), how == 2 ? 0 : 1);
                Due.due("how " + how + " to be written", x.about(14, 0, 3), how == 1 ? 0 : 1);
                Due.due("no inode is left", x.close(14, 0), 0);
            }
        }
    }

    private static void promise2NoSuchPlace() {
        Due.promise(2, "NONE if there is no such place");
        for (int process : Wrong.PROCESSES) {
            Looks.changesNothing("open(" + process + ", 2, 9, 3)", x -> x.open(process, 2, 9, 3), NONE);
            Looks.changesNothing("open(" + process + ", 3, 9, 1)", x -> x.open(process, 3, 9, 1), NONE);
            Looks.changesNothing("open(" + process + ", 0, 9, 0)", x -> x.open(process, 0, 9, 0), NONE);
        }
    }

    private static void promise2NoSuchKind() {
        Due.promise(2, "NONE if there is no such kind");
        for (int kind : Wrong.KINDS) {
            Looks.changesNothing("open(0, " + kind + ", 9, 3)", x -> x.open(0, kind, 9, 3), NONE);
            Looks.changesNothing("open(4, " + kind + ", 9, 1)", x -> x.open(4, kind, 9, 1), NONE);
        }
    }

    private static void promise2NoSuchHow() {
        Due.promise(2, "NONE if there is no such how");
        for (int how : Wrong.HOWS) {
            Looks.changesNothing("open(0, 2, 9, " + how + ")", x -> x.open(0, 2, 9, how), NONE);
            Looks.changesNothing("open(4, 3, 9, " + how + ")", x -> x.open(4, 3, 9, how), NONE);
        }
    }

    private static void promise2NoneFree() {
        Due.promise(2, "NONE if none is free");
        for (int process : new int[] {0, 14}) {
            HandleDesk x = new HandleDesk();
            openMany(x, process, 15);
            Due.due("open with 15 used", x.open(process, 2, 9, 3), 15);
            Looks.changesNothing("open(" + process + ", 2, 9, 3) with 16 used",
                    y -> openMany(y, process, 16), y -> y.open(process, 2, 9, 3), NONE);
            Looks.changesNothing("open(" + process + ", 3, 9, 3) with 16 names of one file",
                    y -> nameMany(y, process, 16), y -> y.open(process, 3, 9, 3), NONE);
            Due.due("open elsewhere", x.open(7, 2, 9, 3), 0);
        }
    }

    private static void promise2ThirtyTwo() {
        Due.promise(2, "NONE if there are 32");
        HandleDesk x = new HandleDesk();
        openThirtyOne(x);
        Due.due("open with 31", x.open(2, 2, 9, 3), 0);
        Due.due("which one it is", x.about(2, 0, 6), 31);
        for (int kind = 2; kind <= 3; kind++) {
            int k = kind;
            Looks.changesNothing("open(2, " + k + ", 9, 3) with 32",
                    OpenFilesBoundsTest::openThirtyTwo, y -> y.open(2, k, 9, 3), NONE);
        }
        x.close(0, 0);
        Due.due("open when one of 32 was closed", x.open(14, 3, 9, 3), 0);
        Due.due("it is the one that was closed", x.about(14, 0, 6), 0);
        Due.due("open with 32 again", x.open(14, 3, 9, 3), NONE);
    }

    private static void promise2ThirtyTwoWithPipes() {
        Due.promise(2, "NONE if there are 32 (ends of pipes among them)");
        HandleDesk x = new HandleDesk();
        for (int k = 0; k < 8; k++) {
            x.pipe(k);
        }
        openMany(x, 8, 15);
        Due.due("open with 31", x.open(9, 2, 9, 3), 0);
        Due.due("open with 32", x.open(9, 2, 9, 3), NONE);
        x.close(5, 1);
        Due.due("open when an end was closed", x.open(9, 2, 9, 3), 1);
        Due.due("it is the one that was the end", x.about(9, 1, 6), 11);
    }

    private static void promise2ThirtyTwoCountsFilesNotNames() {
        Due.promise(2, "NONE if there are 32 (open files, however many descriptors name them)");
        HandleDesk x = new HandleDesk();
        nameMany(x, 0, 16);
        x.copy(1, 0);
        x.copy(2, 0);
        Due.due("open with 48 names of one file", x.open(3, 2, 9, 3), 0);
        Due.due("which one it is", x.about(3, 0, 6), 1);
        HandleDesk y = new HandleDesk();
        openThirtyTwo(y);
        y.copy(2, 0);
        y.closeAll(0);
        Due.due("open with 32 that others name", y.open(0, 2, 9, 3), NONE);
        y.close(2, 15);
        Due.due("open when one has no name", y.open(0, 2, 9, 3), 0);
    }

    private static void promise4LeastFree() {
        Due.promise(4, "The least descriptor that is free names the same open file as d");
        for (int process : new int[] {0, 14}) {
            for (int d : new int[] {0, 8, 15}) {
                HandleDesk x = new HandleDesk();
                openMany(x, process, 16);
                int other = d == 8 ? 15 : 8;
                x.close(process, other);
                Due.due("again(" + process + ", " + d + ")", x.again(process, d), other);
                Due.due("the same inode", x.about(process, other, 1), 100 + d);
                Due.due("two names", x.about(process, d, 5), 2);
            }
        }
        HandleDesk x = new HandleDesk();
        openMany(x, 0, 3);
        x.close(0, 0);
        Due.due("again when 0 and more are free", x.again(0, 2), 0);
        Due.due("again when 3 and more are free", x.again(0, 2), 3);
    }

    private static void promise4NotUsed() {
        Due.promise(4, "NONE if d is not used");
        for (int d : Wrong.DESCRIPTORS) {
            for (int process : new int[] {0, 1, 2, 13, 14}) {
                Looks.changesNothing("again(" + process + ", " + d + ")", x -> x.again(process, d), NONE);
            }
        }
        Looks.changesNothing("again of the one behind the used", x -> x.again(0, 4), NONE);
        Looks.changesNothing("again of the last, not used", x -> x.again(0, 15), NONE);
        Looks.changesNothing("again of one that was closed", x -> x.again(14, 7), NONE);
        Looks.changesNothing("again where none is used", x -> x.again(4, 0), NONE);
    }

    private static void promise4NoneFree() {
        Due.promise(4, "NONE if none is free");
        for (int process : new int[] {0, 14}) {
            HandleDesk x = new HandleDesk();
            openMany(x, process, 15);
            Due.due("again with 15 used", x.again(process, 3), 15);
            for (int d : new int[] {0, 3, 15}) {
                Looks.changesNothing("again(" + process + ", " + d + ") with 16 used",
                        y -> openMany(y, process, 16), y -> y.again(process, d), NONE);
            }
        }
    }

    private static void promise4NoSuchPlace() {
        Due.promise(4, "NONE if there is no such place");
        for (int process : Wrong.PROCESSES) {
            for (int d : new int[] {-1, 0, 15, 16}) {
                Looks.changesNothing("again(" + process + ", " + d + ")", x -> x.again(process, d), NONE);
            }
        }
    }

    private static void promise4NeedsNoNewFile() {
        Due.promise(4, "names the same open file (32 do not hinder it)");
        HandleDesk x = new HandleDesk();
        openThirtyTwo(x);
        x.closeAll(1);
        openMany(x, 1, 2);
        openMany(x, 2, 14);
        Due.due("open with 32", x.open(1, 2, 9, 1), NONE);
        Due.due("again with 32", x.again(1, 1), 2);
    }

    private static void promise5LeftByTheLastName() {
        Due.promise(5, "the inode that is left by that (when no descriptor names the open file any more)");
        HandleDesk x = new HandleDesk();
        x.open(0, 2, 7, 3);
        x.again(0, 0);
        x.copy(14, 0);
        Due.due("close the first of four", x.close(0, 0), 0);
        Due.due("three names", x.about(0, 1, 5), 3);
        Due.due("close the second of four", x.close(14, 1), 0);
        Due.due("close the third of four", x.close(0, 1), 0);
        Due.due("one name", x.about(14, 0, 5), 1);
        Due.due("close the last of four", x.close(14, 0), 7);
        HandleDesk y = new HandleDesk();
        y.open(0, 2, 7, 3);
        y.open(0, 2, 7, 3);
        Due.due("another open file for the same inode", y.close(0, 0), 7);
        Due.due("and that one", y.close(0, 1), 7);
    }

    private static void promise5NoneLeft() {
        Due.promise(5, "0 if none is");
        HandleDesk x = new HandleDesk();
        x.open(0, 2, 7, 3);
        x.open(0, 3, 8, 3);
        x.pipe(0);
        Due.due("close the console", x.close(0, 1), 0);
        Due.due("close the reading end", x.close(0, 2), 0);
        Due.due("close the writing end", x.close(0, 3), 0);
        x.close(0, 0);
        x.open(0, 3, 9, 3);
        Due.due("close the console where an inode was", x.close(0, 0), 0);
        x.pipe(0);
        Due.due("close an end where an inode was", x.close(0, 0), 0);
        x.open(0, 2, 0, 3);
        Due.due("close inode 0", x.close(0, 0), 0);
        Due.due("it is closed", x.about(0, 0, 0), NONE);
    }

    private static void promise5EdgesOfTheRow() {
        Due.promise(5, "Descriptor d is free");
        for (int process : new int[] {0, 14}) {
            for (int d : new int[] {0, 15}) {
                HandleDesk x = new HandleDesk();
                openMany(x, process, 16);
                Due.due("close(" + process + ", " + d + ")", x.close(process, d), 100 + d);
                for (int i = 0; i < 16; i++) {
                    Due.due("about descriptor " + i, x.about(process, i, 0), i == d ? NONE : 2);
                }
                Due.due("open there", x.open(process, 2, 9, 1), d);
            }
        }
    }

    private static void promise5NotUsed() {
        Due.promise(5, "NONE if it is not used");
        for (int d : Wrong.DESCRIPTORS) {
            for (int process : new int[] {0, 1, 2, 13, 14}) {
                Looks.changesNothing("close(" + process + ", " + d + ")", x -> x.close(process, d), NONE);
            }
        }
        Looks.changesNothing("close the one behind the used", x -> x.close(0, 4), NONE);
        Looks.changesNothing("close one that was closed", x -> x.close(14, 7), NONE);
        Looks.changesNothing("close where none is used", x -> x.close(4, 0), NONE);
        Looks.changesNothing("close where all were closed", x -> x.close(3, 1), NONE);
    }

    private static void promise5NoSuchPlace() {
        Due.promise(5, "NONE if no such place");
        for (int process : Wrong.PROCESSES) {
            for (int d : new int[] {-1, 0, 15, 16}) {
                Looks.changesNothing("close(" + process + ", " + d + ")", x -> x.close(process, d), NONE);
            }
        }
    }

    private static void promise6Empty() {
        Due.promise(6, "how many inodes are left (no descriptor is used)");
        for (int process = 0; process < 15; process++) {
            HandleDesk x = new HandleDesk();
            Due.due("closeAll(" + process + ")", x.closeAll(process), 0);
        }
        HandleDesk x = new HandleDesk();
        x.open(5, 2, 9, 1);
        Due.due("closeAll of one", x.closeAll(5), 1);
        Due.due("closeAll again", x.closeAll(5), 0);
    }

    private static void promise6Full() {
        Due.promise(6, "All descriptors of a process are free (16 are used)");
        for (int process : new int[] {0, 7, 14}) {
            HandleDesk x = new HandleDesk();
            openMany(x, process, 16);
            x.open(6, 2, 9, 1);
            x.open(8, 2, 9, 1);
            Due.due("closeAll(" + process + ")", x.closeAll(process), 16);
            for (int d = 0; d < 16; d++) {
                Due.due("about(" + process + ", " + d + ", 0)", x.about(process, d, 0), NONE);
            }
            Due.due("the process before", x.about(6, 0, 5), 1);
            Due.due("the process behind", x.about(8, 0, 5), 1);
            Due.due("open there", x.open(process, 2, 9, 1), 0);
            Due.due("which open file it is", x.about(process, 0, 6), 0);
        }
    }

    private static void promise6FromNoughtOn() {
        Due.promise(6, "from 0 on");
        HandleDesk x = new HandleDesk();
        openMany(x, 14, 16);
        x.close(14, 2);
        x.again(14, 0);
        x.close(14, 15);
        x.again(14, 4);
        Due.due("closeAll", x.closeAll(14), 14);
        // The files of descriptors 0 and 4 lose their last names at 2 and 15.
        int[] want = {101, 100, 103, 105, 106, 107, 108, 109, 110, 111, 112, 113, 114, 104, 0};
        for (int k = 0; k < want.length; k++) {
            Due.due("left(" + k + ")", x.left(k), want[k]);
        }
    }

    private static void promise6EachAsOften() {
        Due.promise(6, "each as often as it is");
        HandleDesk x = new HandleDesk();
        x.open(0, 2, 7, 1);
        x.open(0, 2, 7, 2);
        x.open(0, 3, 7, 3);
        x.pipe(0);
        x.open(0, 2, 7, 3);
        x.again(0, 1);
        x.open(0, 2, 0, 3);
        Due.due("closeAll: three times 7, and 0", x.closeAll(0), 4);
        int[] want = {7, 7, 7, 0, 0};
        for (int k = 0; k < want.length; k++) {
            Due.due("left(" + k + ")", x.left(k), want[k]);
        }
    }

    private static void promise6NamedElsewhere() {
        Due.promise(6, "how many inodes are left (none that another process holds open)");
        HandleDesk x = new HandleDesk();
        openMany(x, 0, 16);
        x.copy(14, 0);
        x.close(14, 15);
        Due.due("closeAll of the one", x.closeAll(0), 1);
        Due.due("left(0)", x.left(0), 115);
        Due.due("left(1)", x.left(1), 0);
        Due.due("closeAll of the other", x.closeAll(14), 15);
        Due.due("left(0) then", x.left(0), 100);
        Due.due("left(14) then", x.left(14), 114);
        Due.due("left(15) then", x.left(15), 0);
    }

    private static void promise6NoSuchPlace() {
        Due.promise(6, "NONE if there is no such place");
        for (int process : Wrong.PROCESSES) {
            Looks.changesNothing("closeAll(" + process + ")", x -> x.closeAll(process), NONE);
        }
    }

    private static void promise7NoneBefore() {
        Due.promise(7, "0 if there was none (no closeAll yet)");
        HandleDesk x = new HandleDesk();
        openMany(x, 0, 3);
        x.close(0, 0);
        for (int k : new int[] {LEAST, -1, 0, 1, 15, 16, GREATEST}) {
            Due.due("left(" + k + ")", x.left(k), 0);
        }
    }

    private static void promise7TooSmallAndTooLarge() {
        Due.promise(7, "as number k, from 0 on; 0 if there was none");
        HandleDesk x = new HandleDesk();
        openMany(x, 0, 3);
        x.closeAll(0);
        for (int k : new int[] {LEAST, -16, -2, -1, 3, 4, 15, 16, 17, 32, GREATEST}) {
            Due.due("left(" + k + ")", x.left(k), 0);
        }
        for (int k = 0; k < 3; k++) {
            Due.due("left(" + k + ")", x.left(k), 100 + k);
        }
    }

    private static void promise7Sixteen() {
        Due.promise(7, "as number k (16 were left)");
        HandleDesk x = new HandleDesk();
        openMany(x, 14, 16);
        x.closeAll(14);
        for (int k = -1; k <= 17; k++) {
            Due.due("left(" + k + ")", x.left(k), k >= 0 && k < 16 ? 100 + k : 0);
        }
    }

    private static void promise7TheLatest() {
        Due.promise(7, "by the latest closeAll");
        HandleDesk x = new HandleDesk();
        openMany(x, 0, 16);
        x.open(1, 2, 9, 1);
        x.closeAll(0);
        x.closeAll(1);
        Due.due("left(0) of one", x.left(0), 9);
        for (int k = 1; k <= 16; k++) {
            Due.due("left(" + k + ") of one", x.left(k), 0);
        }
        x.closeAll(2);
        Due.due("left(0) of none", x.left(0), 0);
    }

    private static void promise7OnlyCloseAll() {
        Due.promise(7, "by the latest closeAll (no other call changes it)");
        HandleDesk x = new HandleDesk();
        openMany(x, 0, 2);
        x.closeAll(0);
        x.open(3, 2, 9, 1);
        x.copy(4, 3);
        x.again(3, 0);
        x.close(3, 0);
        x.close(3, 1);
        x.close(4, 0);
        x.pipe(3);
        Due.due("left(0)", x.left(0), 100);
        Due.due("left(1)", x.left(1), 101);
        Due.due("left(2)", x.left(2), 0);
        Due.due("left(0) asked again", x.left(0), 100);
    }

    private static void promise7RefusedCloseAll() {
        Due.promise(7, "by the latest closeAll (one that is refused closes nothing)");
        for (int process : Wrong.PROCESSES) {
            HandleDesk x = new HandleDesk();
            openMany(x, 0, 2);
            x.closeAll(0);
            x.closeAll(process);
            Due.due("left(1) after closeAll(" + process + ")", x.left(1), 101);
        }
    }

    private static void promise8Empty() {
        Due.promise(8, "how many are used (none)");
        HandleDesk x = new HandleDesk();
        Due.due("copy(0, 14)", x.copy(0, 14), 0);
        Due.due("copy(14, 0)", x.copy(14, 0), 0);
        Due.due("copy(14, 0) again", x.copy(14, 0), 0);
        x.open(14, 2, 9, 1);
        x.close(14, 0);
        Due.due("copy when all were closed", x.copy(14, 0), 0);
    }

    private static void promise8Full() {
        Due.promise(8, "All descriptors of a process name the same open files (16)");
        HandleDesk x = new HandleDesk();
        openThirtyTwo(x);
        Due.due("copy(14, 1), there being 32 open files", x.copy(14, 1), 16);
        for (int d = 0; d < 16; d++) {
            Due.due("the open file of " + d, x.about(14, d, 6), 16 + d);
            Due.due("the names of " + d, x.about(1, d, 5), 2);
            Due.due("the names elsewhere, " + d, x.about(0, d, 5), 1);
        }
        HandleDesk y = new HandleDesk();
        openMany(y, 0, 16);
        for (int d = 1; d < 15; d++) {
            y.close(0, d);
        }
        Due.due("copy of the first and the last", y.copy(14, 0), 2);
        for (int d = 0; d < 16; d++) {
            Due.due("the names of " + d, y.about(14, d, 5), d == 0 || d == 15 ? 2 : NONE);
        }
    }

    private static void promise8EveryProcess() {
        Due.promise(8, "name the same open files (every descriptor of every process names one)");
        HandleDesk x = new HandleDesk();
        nameMany(x, 0, 16);
        for (int process = 1; process < 15; process++) {
            Due.due("copy(" + process + ", 0)", x.copy(process, process - 1), 16);
        }
        Due.due("names in all", x.about(14, 15, 5), 240);
        for (int process = 14; process > 0; process--) {
            Due.due("closeAll(" + process + ")", x.closeAll(process), 0);
            Due.due("names then", x.about(0, 0, 5), 16 * process);
        }
        Due.due("closeAll of the last", x.closeAll(0), 1);
        Due.due("left(0)", x.left(0), 50);
    }

    private static void promise8NoSuchPlaces() {
        Due.promise(8, "NONE, changing nothing, if there are no such places");
        for (int process : Wrong.PROCESSES) {
            Looks.changesNothing("copy(" + process + ", 0)", x -> x.copy(process, 0), NONE);
            Looks.changesNothing("copy(4, " + process + ")", x -> x.copy(4, process), NONE);
            Looks.changesNothing("copy(" + process + ", 15)", x -> x.copy(process, 15), NONE);
            Looks.changesNothing("copy(" + process + ", " + process + ")", x -> x.copy(process, process), NONE);
        }
    }

    private static void promise8TheSame() {
        Due.promise(8, "NONE, changing nothing, if they are the same");
        for (int process = 0; process < 15; process++) {
            int p = process;
            Looks.changesNothing("copy(" + p + ", " + p + ")", x -> x.copy(p, p), NONE);
        }
    }

    private static void promise8OneThatIsUsed() {
        Due.promise(8, "NONE, changing nothing, if the former has one that is used");
        for (int used = 0; used < 16; used++) {
            int u = used;
            Looks.changesNothing("copy(7, 0), 7 having " + u, x -> {
                openMany(x, 7, u + 1);
                for (int d = 0; d < u; d++) {
                    x.close(7, d);
                }
                x.pipe(0);
            }, x -> x.copy(7, 0), NONE);
        }
        Looks.changesNothing("copy(1, 0) of the same files", x -> x.copy(1, 0), NONE);
        Looks.changesNothing("copy of nothing to one that has one", x -> x.copy(0, 4), NONE);
        Looks.changesNothing("copy where 15 is used, 7 is not", x -> x.copy(14, 0), NONE);
    }

    private static void promise9LeastFreeFile() {
        Due.promise(9, "one that is new is the least that is free");
        HandleDesk x = new HandleDesk();
        openThirtyTwo(x);
        for (int d : new int[] {15, 0, 9}) {
            x.close(1, d);
            x.close(0, d);
        }
        int[] want = {0, 9, 15, 16, 25, 31};
        for (int i = 0; i < want.length; i++) {
            Due.due("open", x.open(2, 2 + i % 2, 9, 1), i);
            Due.due("which open file it is", x.about(2, i, 6), want[i]);
            Due.due("its place", x.about(2, i, 4), 0);
        }
        x.close(0, 3);
        x.close(0, 1);
        x.pipe(3);
        Due.due("the reading end", x.about(3, 0, 6), 1);
        Due.due("the writing end", x.about(3, 1, 6), 3);
    }

    private static void promise9LeastFreePipe() {
        Due.promise(9, "likewise a pipe");
        HandleDesk x = new HandleDesk();
        for (int k = 0; k < 8; k++) {
            x.pipe(k);
            Due.due("the pipe of its reading end", x.about(k, 0, 1), k);
            Due.due("the pipe of its writing end", x.about(k, 1, 1), k);
        }
        for (int k : new int[] {7, 0, 4}) {
            x.closeAll(k);
        }
        int[] want = {0, 4, 7};
        for (int i = 0; i < want.length; i++) {
            x.pipe(14);
            Due.due("the pipe of its reading end", x.about(14, 2 * i, 1), want[i]);
            Due.due("the pipe of its writing end", x.about(14, 2 * i + 1, 1), want[i]);
        }
    }

    private static void promise9LastFile() {
        Due.promise(9, "which open file it is, 0 .. 31");
        HandleDesk x = new HandleDesk();
        openThirtyTwo(x);
        for (int i = 0; i < 32; i++) {
            Due.due("open file " + i, x.about(i / 16, i % 16, 6), i);
        }
    }

    private static void promise9NothingOfTheOneBefore() {
        Due.promise(9, "0 for the console; its place (at first 0, where another open file was closed)");
        HandleDesk x = new HandleDesk();
        int[][] want = {{2, 9, 1, 0, 0, 1, 0}, {3, 0, 0, 1, 0, 1, 0}, {1, 0, 1, 0, 0, 1, 0}};
        for (int kind = 0; kind < want.length; kind++) {
            x.open(14, 2, 77, 3);
            x.move(14, 0, 500);
            x.again(14, 0);
            x.closeAll(14);
            if (want[kind][0] == 1) {
                x.pipe(14);
            } else {
                x.open(14, want[kind][0], 9, kind + 1);
            }
            for (int what = 0; what < 7; what++) {
                Due.due("about(14, 0, " + what + ")", x.about(14, 0, what), want[kind][what]);
            }
            x.closeAll(14);
        }
    }

    private static void promise9Kinds() {
        Due.promise(9, "its inode, or its pipe, 0 .. 7, 0 for the console");
        HandleDesk x = new HandleDesk();
        for (int k = 0; k < 7; k++) {
            x.pipe(k);
        }
        x.pipe(14);
        x.open(14, 3, 6, 3);
        x.open(14, 2, 8, 3);
        int[][] want = {{1, 7}, {1, 7}, {3, 0}, {2, 8}};
        for (int d = 0; d < want.length; d++) {
            Due.due("about(14, " + d + ", 0)", x.about(14, d, 0), want[d][0]);
            Due.due("about(14, " + d + ", 1)", x.about(14, d, 1), want[d][1]);
        }
    }

    private static void promise9NoSuchWhat() {
        Due.promise(9, "NONE if no such what");
        for (int what : Wrong.WHATS_ABOUT) {
            for (int d = 0; d < 4; d++) {
                int one = d;
                Looks.changesNothing("about(0, " + d + ", " + what + ")", x -> x.about(0, one, what), NONE);
            }
            Looks.changesNothing("about(14, 15, " + what + ")", x -> x.about(14, 15, what), NONE);
        }
    }

    private static void promise9NotUsed() {
        Due.promise(9, "NONE if it is not used");
        HandleDesk x = new HandleDesk();
        Looks.busy(x);
        for (int what = 0; what < 7; what++) {
            for (int d : Wrong.DESCRIPTORS) {
                for (int process : new int[] {0, 1, 13, 14}) {
                    Due.due("about(" + process + ", " + d + ", " + what + ")", x.about(process, d, what), NONE);
                }
            }
            Due.due("about one that was closed, " + what, x.about(14, 7, what), NONE);
            Due.due("about the one behind the used, " + what, x.about(0, 4, what), NONE);
            Due.due("about where none is used, " + what, x.about(4, 0, what), NONE);
            Due.due("about where all were closed, " + what, x.about(3, 0, what), NONE);
        }
        Looks.changesNothing("about(0, 16, 0)", y -> y.about(0, 16, 0), NONE);
    }

    private static void promise9NoSuchProcess() {
        Due.promise(9, "NONE if no such process");
        HandleDesk x = new HandleDesk();
        Looks.busy(x);
        for (int process : Wrong.PROCESSES) {
            for (int what = -1; what < 8; what++) {
                for (int d : new int[] {-1, 0, 1, 15, 16}) {
                    Due.due("about(" + process + ", " + d + ", " + what + ")", x.about(process, d, what), NONE);
                }
            }
        }
        Looks.changesNothing("about(15, 0, 0)", y -> y.about(15, 0, 0), NONE);
    }

    private static void promise10Bounds() {
        Due.promise(10, "The place of descriptor d's open file becomes n (from 0 on)");
        for (int how = 1; how <= 3; how++) {
            HandleDesk x = new HandleDesk();
            x.open(14, 2, 7, how);
            for (int d = 1; d < 16; d++) {
                x.again(14, 0);
            }
            for (int n : new int[] {GREATEST, 1, 0, 4096, GREATEST - 1, 0}) {
                Due.due("move(14, 15, " + n + ")", x.move(14, 15, n), true);
                Due.due("the place", x.about(14, 0, 4), n);
            }
        }
    }

    private static void refusedMove(int process, int d, int n) {
        String told = "move(" + process + ", " + d + ", " + n + ")";
        Looks.changesNothing(told, x -> x.move(process, d, n) ? 1 : 0, 0);
    }

    private static void promise10BelowNought() {
        Due.promise(10, "false if n is below 0");
        for (int n : Wrong.PLACES) {
            refusedMove(0, 0, n);
            refusedMove(1, 0, n);
            refusedMove(14, 15, n);
        }
    }

    private static void promise10NotUsed() {
        Due.promise(10, "false if it is not used");
        for (int d : Wrong.DESCRIPTORS) {
            for (int process : new int[] {0, 1, 13, 14}) {
                refusedMove(process, d, 6);
            }
        }
        refusedMove(0, 4, 6);
        refusedMove(14, 7, 6);
        refusedMove(3, 0, 6);
        refusedMove(4, 0, 6);
    }

    private static void promise10OtherKinds() {
        Due.promise(10, "false if it is not of kind 2");
        for (int d = 1; d < 4; d++) {
            for (int n : new int[] {0, 1, GREATEST, -1}) {
                refusedMove(0, d, n);
                refusedMove(1, d, n);
            }
        }
    }

    private static void promise10NoSuchProcess() {
        Due.promise(10, "false if it is not used (there is no such process)");
        for (int process : Wrong.PROCESSES) {
            refusedMove(process, 0, 6);
            refusedMove(process, 15, 6);
        }
    }
}
