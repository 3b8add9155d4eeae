/** Promises 1, 2 and 4 to 10: descriptors and the open files that they name. */
public final class OpenFilesTest {
    private static final int NONE = HandleDesk.NONE;
    private static final int[] NO_PROCESS = {-1, 15, 16, Integer.MIN_VALUE, Integer.MAX_VALUE};
    private static final int[] NO_DESCRIPTOR = {-1, 16, 17, Integer.MIN_VALUE, Integer.MAX_VALUE};

    public static void main(String[] args) {
        promise1NewObject();
        promise1ObjectsAreApart();
        promise2Open();
        promise2OpenRefuses();
        promise2OpenFileLimit();
        promise4Again();
        promise4AgainRefuses();
        promise5Close();
        promise5CloseRefuses();
        promise5NoDescriptorOfTheNextProcess();
        promise6CloseAll();
        promise6CloseAllOfSharedFiles();
        promise6CloseAllClosesPipes();
        promise7Left();
        promise7LeftOfRefusedCloseAll();
        promise8Copy();
        promise8CopyRefuses();
        promise9About();
        promise9AboutLeastFreeFile();
        promise9AboutRefuses();
        promise10Move();
        promise10MoveRefuses();
        Due.finish();
    }

    private static void promise1NewObject() {
        HandleDesk x = new HandleDesk();
        for (int process = 0; process < 15; process++) {
            for (int d = 0; d < 16; d++) {
                Due.due("new about(" + process + ", " + d + ", 0)", x.about(process, d, 0), NONE);
            }
        }
        for (int k = 0; k < 8; k++) {
            Due.due("new ends(" + k + ", 0)", x.ends(k, 0), NONE);
        }
        Due.due("new waiting(0)", x.waiting(0), 0);
        Due.due("new waiting(1)", x.waiting(1), 0);
        Due.due("new read(true)", x.read(true), HandleDesk.WAIT);
        Due.due("new count()", x.count(), 0);
        Due.due("new shown(0)", x.shown(0), NONE);
        Due.due("new left(0)", x.left(0), 0);
    }

    private static void promise1ObjectsAreApart() {
        HandleDesk x = new HandleDesk();
        HandleDesk y = new HandleDesk();
        x.open(0, 2, 5, 1);
        x.pipe(1);
        x.type(10);
        Due.due("apart about", y.about(0, 0, 0), NONE);
        Due.due("apart ends", y.ends(0, 0), NONE);
        Due.due("apart waiting", y.waiting(1), 0);
        Due.due("apart count", y.count(), 0);
    }

    private static void promise2Open() {
        HandleDesk x = new HandleDesk();
        Due.due("open inode", x.open(0, 2, 7, 1), 0);
        Due.due("open console", x.open(0, 3, 7, 2), 1);
        Due.due("open in the last process", x.open(14, 2, 8, 3), 0);
        Due.due("open inode 0", x.open(0, 2, 0, 3), 2);
        Due.due("open an inode below 0", x.open(0, 2, -9, 3), 3);
        Due.due("open the least inode", x.open(0, 2, Integer.MIN_VALUE, 3), 4);
        Due.due("open the largest inode", x.open(0, 2, Integer.MAX_VALUE, 3), 5);
        Due.due("inode 7", x.about(0, 0, 1), 7);
        Due.due("console has no inode", x.about(0, 1, 1), 0);
        Due.due("inode 0", x.about(0, 2, 1), 0);
        Due.due("inode -9", x.about(0, 3, 1), -9);
        Due.due("least inode", x.about(0, 4, 1), Integer.MIN_VALUE);
        Due.due("largest inode", x.about(0, 5, 1), Integer.MAX_VALUE);
        x.close(0, 1);
        x.close(0, 3);
        Due.due("open takes the least that is free", x.open(0, 2, 1, 1), 1);
        Due.due("open takes the next that is free", x.open(0, 2, 1, 1), 3);
        Due.due("open goes on behind", x.open(0, 2, 1, 1), 6);
    }

    private static void promise2OpenRefuses() {
        HandleDesk x = new HandleDesk();
        for (int process : NO_PROCESS) {
            Due.due("open(" + process + ", ..)", x.open(process, 2, 1, 1), NONE);
        }
        for (int kind : new int[] {0, 1, 4, -1, -2, 6, Integer.MIN_VALUE, Integer.MAX_VALUE}) {
            Due.due("open kind " + kind, x.open(0, kind, 1, 1), NONE);
        }
        for (int how : new int[] {0, 4, 5, -1, -2, -3, Integer.MIN_VALUE, Integer.MAX_VALUE}) {
            Due.due("open how " + how, x.open(0, 2, 1, how), NONE);
            Due.due("open console how " + how, x.open(0, 3, 1, how), NONE);
        }
        Due.due("refusals open nothing", x.about(0, 0, 0), NONE);
        for (int d = 0; d < 16; d++) {
            Due.due("open number " + d, x.open(3, 2, 1, 1), d);
        }
        Due.due("open with no free descriptor", x.open(3, 2, 1, 1), NONE);
        Due.due("open elsewhere then", x.open(4, 2, 1, 1), 0);
        Due.due("a refused open takes no open file", x.about(4, 0, 6), 16);
    }

    private static void promise2OpenFileLimit() {
        HandleDesk x = new HandleDesk();
        for (int i = 0; i < 32; i++) {
            Due.due("open file " + i, x.open(i / 16, 2, i, 3), i % 16);
        }
        Due.due("open with 32 files", x.open(2, 2, 1, 1), NONE);
        Due.due("open the console with 32 files", x.open(2, 3, 1, 1), NONE);
        Due.due("nothing opened then", x.about(2, 0, 0), NONE);
        x.close(0, 5);
        Due.due("open with 31 files", x.open(2, 2, 1, 1), 0);
        Due.due("open with 32 files again", x.open(2, 2, 1, 1), NONE);
    }

    private static void promise4Again() {
        HandleDesk x = new HandleDesk();
        x.open(0, 2, 7, 3);
        x.open(0, 2, 8, 1);
        x.open(0, 2, 9, 1);
        x.close(0, 1);
        Due.due("again takes the least that is free", x.again(0, 2), 1);
        Due.due("again goes on behind", x.again(0, 1), 3);
        Due.due("again: the same file", x.about(0, 3, 6), 2);
        Due.due("again: the same inode", x.about(0, 1, 1), 9);
        Due.due("again: names", x.about(0, 2, 5), 3);
        Due.due("again: others' names", x.about(0, 0, 5), 1);
        x.move(0, 3, 44);
        Due.due("again: one place", x.about(0, 1, 4), 44);
        x.close(0, 2);
        Due.due("again: the first may close", x.about(0, 1, 5), 2);
        x.close(0, 0);
        Due.due("again takes descriptor 0 when it is free", x.again(0, 1), 0);
        for (int i = 0; i < 32; i++) {
            x.open(5 + i / 8, 2, 1, 1);
        }
        Due.due("again needs no new file", x.again(0, 0), 2);
    }

    private static void promise4AgainRefuses() {
        HandleDesk x = new HandleDesk();
        x.open(0, 2, 7, 3);
        for (int process : NO_PROCESS) {
            Due.due("again(" + process + ", 0)", x.again(process, 0), NONE);
        }
        for (int d : NO_DESCRIPTOR) {
            Due.due("again(0, " + d + ")", x.again(0, d), NONE);
        }
        Due.due("again of a free one", x.again(0, 1), NONE);
        Due.due("again in another process", x.again(1, 0), NONE);
        for (int d = 1; d < 16; d++) {
            Due.due("again up to " + d, x.again(0, 0), d);
        }
        Due.due("again with none free", x.again(0, 0), NONE);
        Due.due("names of a full row", x.about(0, 15, 5), 16);
    }

    private static void promise5Close() {
        HandleDesk x = new HandleDesk();
        x.open(0, 2, 7, 3);
        x.again(0, 0);
        x.copy(1, 0);
        Due.due("close 1 of 4", x.close(0, 0), 0);
        Due.due("free then", x.about(0, 0, 0), NONE);
        Due.due("close 2 of 4", x.close(1, 1), 0);
        Due.due("close 3 of 4", x.close(1, 0), 0);
        Due.due("close 4 of 4", x.close(0, 1), 7);
        x.open(2, 3, 9, 1);
        Due.due("close the console", x.close(2, 0), 0);
        x.pipe(2);
        Due.due("close a reading end", x.close(2, 0), 0);
        Due.due("close a writing end", x.close(2, 1), 0);
        x.open(2, 2, -1, 1);
        Due.due("close inode -1", x.close(2, 0), -1);
        x.open(2, 2, 0, 1);
        Due.due("close inode 0", x.close(2, 0), 0);
        Due.due("inode 0 is closed", x.close(2, 0), NONE);
        x.open(14, 2, 6, 1);
        x.open(14, 2, 6, 1);
        Due.due("two files for an inode: the first", x.close(14, 0), 6);
        Due.due("two files for an inode: the second", x.close(14, 1), 6);
    }

    private static void promise5CloseRefuses() {
        HandleDesk x = new HandleDesk();
        x.open(0, 2, 7, 3);
        for (int process : NO_PROCESS) {
            Due.due("close(" + process + ", 0)", x.close(process, 0), NONE);
        }
        for (int d : NO_DESCRIPTOR) {
            Due.due("close(0, " + d + ")", x.close(0, d), NONE);
            Due.due("close(1, " + d + ")", x.close(1, d), NONE);
        }
        Due.due("close a free one", x.close(0, 1), NONE);
        Due.due("refusals close nothing", x.about(0, 0, 5), 1);
        Due.due("close", x.close(0, 0), 7);
        Due.due("close twice", x.close(0, 0), NONE);
    }

    private static void promise5NoDescriptorOfTheNextProcess() {
        HandleDesk x = new HandleDesk();
        for (int process = 0; process < 15; process++) {
            x.open(process, 2, 7, 3);
        }
        for (int process = 0; process < 15; process++) {
            Due.due("about(" + process + ", 16, 0)", x.about(process, 16, 0), NONE);
            Due.due("again(" + process + ", 16)", x.again(process, 16), NONE);
            Due.due("move(" + process + ", 16, 1)", x.move(process, 16, 1), false);
            Due.due("close(" + process + ", 16)", x.close(process, 16), NONE);
            Due.due("close(" + process + ", -16)", x.close(process, -16), NONE);
        }
        for (int process = 0; process < 15; process++) {
            Due.due("still open in " + process, x.about(process, 0, 5), 1);
        }
    }

    private static void promise6CloseAll() {
        HandleDesk x = new HandleDesk();
        for (int process : NO_PROCESS) {
            Due.due("closeAll(" + process + ")", x.closeAll(process), NONE);
        }
        Due.due("closeAll of nothing", x.closeAll(0), 0);
        x.open(0, 2, 5, 1);
        x.open(0, 3, 5, 1);
        x.open(0, 2, 5, 1);
        x.open(0, 2, 0, 1);
        x.open(1, 2, 8, 1);
        Due.due("closeAll counts each, inode 0 too", x.closeAll(0), 3);
        for (int d = 0; d < 16; d++) {
            Due.due("closed all " + d, x.about(0, d, 0), NONE);
        }
        Due.due("others stay", x.about(1, 0, 1), 8);
        Due.due("closeAll twice", x.closeAll(0), 0);
        for (int d = 0; d < 16; d++) {
            x.open(14, 2, 100 + d, 1);
        }
        Due.due("closeAll of a full row", x.closeAll(14), 16);
        Due.due("left 0 of a full row", x.left(0), 100);
        Due.due("left 15 of a full row", x.left(15), 115);
        Due.due("left 16 of a full row", x.left(16), 0);
    }

    private static void promise6CloseAllOfSharedFiles() {
        HandleDesk x = new HandleDesk();
        x.open(0, 2, 5, 1);
        x.open(0, 2, 6, 1);
        x.again(0, 0);
        x.open(0, 2, 7, 1);
        Due.due("closeAll with a double", x.closeAll(0), 3);
        Due.due("left when the last name goes: 0", x.left(0), 6);
        Due.due("left when the last name goes: 1", x.left(1), 5);
        Due.due("left when the last name goes: 2", x.left(2), 7);
        x.open(1, 2, 5, 1);
        x.copy(2, 1);
        x.open(1, 2, 9, 1);
        Due.due("closeAll with one held elsewhere", x.closeAll(1), 1);
        Due.due("the one that is left", x.left(0), 9);
        Due.due("the one held elsewhere", x.about(2, 0, 5), 1);
        Due.due("closeAll of the other", x.closeAll(2), 1);
        Due.due("left at last", x.left(0), 5);
        Due.due("not more", x.left(1), 0);
    }

    private static void promise6CloseAllClosesPipes() {
        HandleDesk x = new HandleDesk();
        x.pipe(0);
        x.copy(1, 0);
        x.close(1, 1);
        Due.due("closeAll of pipe ends", x.closeAll(0), 0);
        Due.due("writing end closed", x.ends(0, 2), 0);
        Due.due("reading end held elsewhere", x.ends(0, 1), 1);
        Due.due("take then", x.take(1, 0), HandleDesk.END);
        x.closeAll(1);
        Due.due("pipe gone", x.ends(0, 0), NONE);
    }

    private static void promise7Left() {
        HandleDesk x = new HandleDesk();
        Due.due("left before any", x.left(0), 0);
        x.open(0, 2, 11, 1);
        x.open(0, 2, -12, 1);
        x.open(0, 2, 13, 1);
        x.open(1, 2, 14, 1);
        x.closeAll(0);
        Due.due("left(0)", x.left(0), 11);
        Due.due("left(1)", x.left(1), -12);
        Due.due("left(2)", x.left(2), 13);
        for (int k : new int[] {-1, 3, 15, 16, 17, Integer.MIN_VALUE, Integer.MAX_VALUE}) {
            Due.due("left(" + k + ")", x.left(k), 0);
        }
        x.open(2, 2, 15, 1);
        x.close(2, 0);
        Due.due("close changes no left", x.left(0), 11);
        x.closeAll(1);
        Due.due("the latest closeAll alone: 0", x.left(0), 14);
        Due.due("the latest closeAll alone: 1", x.left(1), 0);
        x.closeAll(5);
        Due.due("the latest closeAll left none", x.left(0), 0);
    }

    private static void promise7LeftOfRefusedCloseAll() {
        HandleDesk x = new HandleDesk();
        x.open(0, 2, 11, 1);
        x.closeAll(0);
        x.closeAll(15);
        Due.due("a refused closeAll closes nothing and changes no left", x.left(0), 11);
    }

    private static void promise8Copy() {
        HandleDesk x = new HandleDesk();
        Due.due("copy of nothing", x.copy(0, 1), 0);
        x.open(0, 2, 7, 3);
        x.open(0, 3, 0, 1);
        x.pipe(0);
        x.again(0, 0);
        x.close(0, 1);
        Due.due("copy", x.copy(14, 0), 4);
        for (int d = 0; d < 16; d++) {
            for (int what = 0; what < 7; what++) {
                Due.due("copied about(" + d + ", " + what + ")", x.about(14, d, what), x.about(0, d, what));
            }
        }
        Due.due("copy: names", x.about(14, 0, 5), 4);
        Due.due("copy: names of an end", x.about(0, 2, 5), 2);
        x.put(14, 3, 9);
        Due.due("copy: one pipe", x.take(0, 2), 9);
        Due.due("the other way is refused", x.copy(0, 14), NONE);
    }

    private static void promise8CopyRefuses() {
        HandleDesk x = new HandleDesk();
        x.open(0, 2, 7, 3);
        x.open(1, 2, 8, 3);
        x.open(1, 2, 9, 3);
        x.close(1, 0);
        for (int process : NO_PROCESS) {
            Due.due("copy(" + process + ", 0)", x.copy(process, 0), NONE);
            Due.due("copy(2, " + process + ")", x.copy(2, process), NONE);
            Due.due("copy(" + process + ", " + process + ")", x.copy(process, process), NONE);
        }
        Due.due("copy to itself", x.copy(0, 0), NONE);
        Due.due("copy to itself, none used", x.copy(3, 3), NONE);
        Due.due("copy to one with a used descriptor", x.copy(1, 0), NONE);
        Due.due("copy of nothing to one with a used descriptor", x.copy(1, 4), NONE);
        Due.due("nothing changed", x.about(1, 0, 0), NONE);
        Due.due("nothing changed there", x.about(1, 1, 1), 9);
        Due.due("no name more", x.about(0, 0, 5), 1);
    }

    private static void promise9About() {
        HandleDesk x = new HandleDesk();
        x.open(0, 2, 70, 1);
        x.open(0, 2, 71, 2);
        x.open(0, 2, 72, 3);
        x.open(0, 3, 73, 1);
        x.open(0, 3, 74, 2);
        x.pipe(0);
        x.pipe(0);
        x.move(0, 1, 12);
        int[][] want = {
            {2, 70, 1, 0, 0, 1, 0},
            {2, 71, 0, 1, 12, 1, 1},
            {2, 72, 1, 1, 0, 1, 2},
            {3, 0, 1, 0, 0, 1, 3},
            {3, 0, 0, 1, 0, 1, 4},
            {1, 0, 1, 0, 0, 1, 5},
            {1, 0, 0, 1, 0, 1, 6},
            {1, 1, 1, 0, 0, 1, 7},
            {1, 1, 0, 1, 0, 1, 8},
        };
        for (int d = 0; d < want.length; d++) {
            for (int what = 0; what < 7; what++) {
                Due.due("about(0, " + d + ", " + what + ")", x.about(0, d, what), want[d][what]);
            }
        }
    }

    private static void promise9AboutLeastFreeFile() {
        HandleDesk x = new HandleDesk();
        for (int i = 0; i < 6; i++) {
            x.open(i, 2, 9, 3);
            x.move(i, 0, 100);
        }
        x.close(1, 0);
        x.close(4, 0);
        x.close(2, 0);
        x.open(7, 3, 9, 1);
        Due.due("a new file is the least that is free", x.about(7, 0, 6), 1);
        Due.due("a file used anew: kind", x.about(7, 0, 0), 3);
        Due.due("a file used anew: inode", x.about(7, 0, 1), 0);
        Due.due("a file used anew: written", x.about(7, 0, 3), 0);
        Due.due("a file used anew: place", x.about(7, 0, 4), 0);
        x.pipe(8);
        Due.due("the reading end is the least", x.about(8, 0, 6), 2);
        Due.due("the writing end is the next", x.about(8, 1, 6), 4);
        x.close(8, 0);
        x.open(9, 2, 33, 2);
        Due.due("an end used anew: which", x.about(9, 0, 6), 2);
        Due.due("an end used anew: inode", x.about(9, 0, 1), 33);
        Due.due("an end used anew: no pipe", x.put(9, 0, 1), NONE);
        Due.due("an end used anew: read", x.about(9, 0, 2), 0);
        Due.due("an end used anew: left", x.close(9, 0), 33);
        Due.due("and the pipe's end stays", x.ends(0, 2), 1);
    }

    private static void promise9AboutRefuses() {
        HandleDesk x = new HandleDesk();
        x.open(0, 2, 7, 3);
        for (int what : new int[] {-1, 7, 8, Integer.MIN_VALUE, Integer.MAX_VALUE}) {
            Due.due("about what " + what, x.about(0, 0, what), NONE);
        }
        for (int what = 0; what < 7; what++) {
            for (int process : NO_PROCESS) {
                Due.due("about(" + process + ", 0, " + what + ")", x.about(process, 0, what), NONE);
            }
            for (int d : NO_DESCRIPTOR) {
                Due.due("about(0, " + d + ", " + what + ")", x.about(0, d, what), NONE);
                Due.due("about(1, " + d + ", " + what + ")", x.about(1, d, what), NONE);
            }
            Due.due("about a free one, " + what, x.about(0, 1, what), NONE);
        }
    }

    private static void promise10Move() {
        HandleDesk x = new HandleDesk();
        x.open(0, 2, 7, 1);
        x.open(0, 2, 7, 1);
        Due.due("move", x.move(0, 0, 500), true);
        Due.due("moved", x.about(0, 0, 4), 500);
        Due.due("another file for the inode has its own place", x.about(0, 1, 4), 0);
        Due.due("move to the largest", x.move(0, 0, Integer.MAX_VALUE), true);
        Due.due("moved to the largest", x.about(0, 0, 4), Integer.MAX_VALUE);
        Due.due("move to 0", x.move(0, 0, 0), true);
        Due.due("moved to 0", x.about(0, 0, 4), 0);
    }

    private static void promise10MoveRefuses() {
        HandleDesk x = new HandleDesk();
        x.open(0, 2, 7, 3);
        x.open(0, 3, 7, 3);
        x.pipe(0);
        x.move(0, 0, 5);
        Due.due("move below 0", x.move(0, 0, -1), false);
        Due.due("move far below 0", x.move(0, 0, Integer.MIN_VALUE), false);
        Due.due("place stays", x.about(0, 0, 4), 5);
        for (int d = 1; d < 4; d++) {
            Due.due("move another kind, " + d, x.move(0, d, 1), false);
            Due.due("its place stays, " + d, x.about(0, d, 4), 0);
        }
        Due.due("move a free one", x.move(0, 4, 1), false);
        for (int process : NO_PROCESS) {
            Due.due("move(" + process + ", 0, 1)", x.move(process, 0, 1), false);
        }
        for (int d : NO_DESCRIPTOR) {
            Due.due("move(0, " + d + ", 1)", x.move(0, d, 1), false);
        }
    }
}
