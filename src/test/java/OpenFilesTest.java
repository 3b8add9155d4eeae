/** Promises 1, 2 and 4 to 10: descriptors and the open files that they name. */
public final class OpenFilesTest {
    private static final int NONE = HandleDesk.NONE;

    public static void main(String[] args) {
        promise1ObjectsAreApart();
        promise2Open();
        promise4Again();
        promise5Close();
        promise6CloseAll();
        promise6CloseAllOfSharedFiles();
        promise6CloseAllClosesPipes();
        promise7Left();
        promise8Copy();
        promise9About();
        promise9AboutLeastFreeFile();
        promise10Move();
        Due.finish();
    }

    private static void promise1ObjectsAreApart() {
        HandleDesk x = new HandleDesk();
        HandleDesk y = new HandleDesk();
        x.open(0, 2, 5, 1);
        x.pipe(1);
        x.type(10);
        Due.due("apart about", y.about(0, 0, 0), NONE);
        Due.due("apart ends", y.ends(0, 0), NONE);
        Due.due("apart waiting", y.waiting(1), 0);
        Due.due("apart count", y.count(), 0);
    }

    private static void promise2Open() {
        HandleDesk x = new HandleDesk();
        Due.due("open inode", x.open(0, 2, 7, 1), 0);
        Due.due("open console", x.open(0, 3, 7, 2), 1);
        Due.due("open in the last process", x.open(14, 2, 8, 3), 0);
        Due.due("open inode 0", x.open(0, 2, 0, 3), 2);
        Due.due("open an inode below 0", x.open(0, 2, -9, 3), 3);
        Due.due("open the least inode", x.open(0, 2, Integer.MIN_VALUE, 3), 4);
        Due.due("open the largest inode", x.open(0, 2, Integer.MAX_VALUE, 3), 5);
        Due.due("inode 7", x.about(0, 0, 1), 7);
        Due.due("console has no inode", x.about(0, 1, 1), 0);
        Due.due("inode 0", x.about(0, 2, 1), 0);
        Due.due("inode -9", x.about(0, 3, 1), -9);
        Due.due("least inode", x.about(0, 4, 1), Integer.MIN_VALUE);
        Due.due("largest inode", x.about(0, 5, 1), Integer.MAX_VALUE);
        x.close(0, 1);
        x.close(0, 3);
        Due.due("open takes the least that is free", x.open(0, 2, 1, 1), 1);
        Due.due("open takes the next that is free", x.open(0, 2, 1, 1), 3);
        Due.due("open goes on behind", x.open(0, 2, 1, 1), 6);
    }

    private static void promise4Again() {
        HandleDesk x = new HandleDesk();
        x.open(0, 2, 7, 3);
        x.open(0, 2, 8, 1);
        x.open(0, 2, 9, 1);
        x.close(0, 1);
        Due.due("again takes the least that is free", x.again(0, 2), 1);
        Due.due("again goes on behind", x.again(0, 1), 3);
        Due.due("again: the same file", x.about(0, 3, 6), 2);
        Due.due("again: the same inode", x.about(0, 1, 1), 9);
        Due.due("again: names", x.about(0, 2, 5), 3);
        Due.due("again: others' names", x.about(0, 0, 5), 1);
        x.move(0, 3, 44);
        Due.due("again: one place", x.about(0, 1, 4), 44);
        x.close(0, 2);
        Due.due("again: the first may close", x.about(0, 1, 5), 2);
        x.close(0, 0);
        Due.due("again takes descriptor 0 when it is free", x.again(0, 1), 0);
        for (int i = 0; i < 32; i++) {
            x.open(5 + i / 8, 2, 1, 1);
        }
        Due.due("again needs no new file", x.again(0, 0), 2);
    }

    private static void promise5Close() {
        HandleDesk x = new HandleDesk();
        x.open(0, 2, 7, 3);
        x.again(0, 0);
        x.copy(1, 0);
        Due.due("close 1 of 4", x.close(0, 0), 0);
        Due.due("free then", x.about(0, 0, 0), NONE);
        Due.due("close 2 of 4", x.close(1, 1), 0);
        Due.due("close 3 of 4", x.close(1, 0), 0);
        Due.due("close 4 of 4", x.close(0, 1), 7);
        x.open(2, 3, 9, 1);
        Due.due("close the console", x.close(2, 0), 0);
        x.pipe(2);
        Due.due("close a reading end", x.close(2, 0), 0);
        Due.due("close a writing end", x.close(2, 1), 0);
        x.open(2, 2, -1, 1);
        Due.due("close inode -1", x.close(2, 0), -1);
        x.open(2, 2, 0, 1);
        Due.due("close inode 0", x.close(2, 0), 0);
        Due.due("inode 0 is closed", x.close(2, 0), NONE);
        x.open(14, 2, 6, 1);
        x.open(14, 2, 6, 1);
        Due.due("two files for an inode: the first", x.close(14, 0), 6);
        Due.due("two files for an inode: the second", x.close(14, 1), 6);
    }

    private static void promise6CloseAll() {
        HandleDesk x = new HandleDesk();
        Due.due("closeAll of nothing", x.closeAll(0), 0);
        x.open(0, 2, 5, 1);
        x.open(0, 3, 5, 1);
        x.open(0, 2, 5, 1);
        x.open(0, 2, 0, 1);
        x.open(1, 2, 8, 1);
        Due.due("closeAll counts each, inode 0 too", x.closeAll(0), 3);
        for (int d = 0; d < 16; d++) {
            Due.due("closed all " + d, x.about(0, d, 0), NONE);
        }
        Due.due("others stay", x.about(1, 0, 1), 8);
        Due.due("closeAll twice", x.closeAll(0), 0);
        for (int d = 0; d < 16; d++) {
            x.open(14, 2, 100 + d, 1);
        }
        Due.due("closeAll of a full row", x.closeAll(14), 16);
        Due.due("left 0 of a full row", x.left(0), 100);
        Due.due("left 15 of a full row", x.left(15), 115);
        Due.due("left 16 of a full row", x.left(16), 0);
    }

    private static void promise6CloseAllOfSharedFiles() {
        HandleDesk x = new HandleDesk();
        x.open(0, 2, 5, 1);
        x.open(0, 2, 6, 1);
        x.again(0, 0);
        x.open(0, 2, 7, 1);
        Due.due("closeAll with a double", x.closeAll(0), 3);
        Due.due("left when the last name goes: 0", x.left(0), 6);
        Due.due("left when the last name goes: 1", x.left(1), 5);
        Due.due("left when the last name goes: 2", x.left(2), 7);
        x.open(1, 2, 5, 1);
        x.copy(2, 1);
        x.open(1, 2, 9, 1);
        Due.due("closeAll with one held elsewhere", x.closeAll(1), 1);
        Due.due("the one that is left", x.left(0), 9);
        Due.due("the one held elsewhere", x.about(2, 0, 5), 1);
        Due.due("closeAll of the other", x.closeAll(2), 1);
        Due.due("left at last", x.left(0), 5);
        Due.due("not more", x.left(1), 0);
    }

    private static void promise6CloseAllClosesPipes() {
        HandleDesk x = new HandleDesk();
        x.pipe(0);
        x.copy(1, 0);
        x.close(1, 1);
        Due.due("closeAll of pipe ends", x.closeAll(0), 0);
        Due.due("writing end closed", x.ends(0, 2), 0);
        Due.due("reading end held elsewhere", x.ends(0, 1), 1);
        Due.due("take then", x.take(1, 0), HandleDesk.END);
        x.closeAll(1);
        Due.due("pipe gone", x.ends(0, 0), NONE);
    }

    private static void promise7Left() {
        HandleDesk x = new HandleDesk();
        Due.due("left before any", x.left(0), 0);
        x.open(0, 2, 11, 1);
        x.open(0, 2, -12, 1);
        x.open(0, 2, 13, 1);
        x.open(1, 2, 14, 1);
        x.closeAll(0);
        Due.due("left(0)", x.left(0), 11);
        Due.due("left(1)", x.left(1), -12);
        Due.due("left(2)", x.left(2), 13);
        for (int k : new int[] {-1, 3, 15, 16, 17, Integer.MIN_VALUE, Integer.MAX_VALUE}) {
            Due.due("left(" + k + ")", x.left(k), 0);
        }
        x.open(2, 2, 15, 1);
        x.close(2, 0);
        Due.due("close changes no left", x.left(0), 11);
        x.closeAll(1);
        Due.due("the latest closeAll alone: 0", x.left(0), 14);
        Due.due("the latest closeAll alone: 1", x.left(1), 0);
        x.closeAll(5);
        Due.due("the latest closeAll left none", x.left(0), 0);
    }

    private static void promise8Copy() {
        HandleDesk x = new HandleDesk();
        Due.due("copy of nothing", x.copy(0, 1), 0);
        x.open(0, 2, 7, 3);
        x.open(0, 3, 0, 1);
        x.pipe(0);
        x.again(0, 0);
        x.close(0, 1);
        Due.due("copy", x.copy(14, 0), 4);
        for (int d = 0; d < 16; d++) {
            for (int what = 0; what < 7; what++) {
                Due.due("copied about(" + d + ", " + what + ")", x.about(14, d, what), x.about(0, d, what));
            }
        }
        Due.due("copy: names", x.about(14, 0, 5), 4);
        Due.due("copy: names of an end", x.about(0, 2, 5), 2);
        x.put(14, 3, 9);
        Due.due("copy: one pipe", x.take(0, 2), 9);
        Due.due("the other way is refused", x.copy(0, 14), NONE);
    }

    private static void promise9About() {
        HandleDesk x = new HandleDesk();
        x.open(0, 2, 70, 1);
        x.open(0, 2, 71, 2);
        x.open(0, 2, 72, 3);
        x.open(0, 3, 73, 1);
        x.open(0, 3, 74, 2);
        x.pipe(0);
        x.pipe(0);
        x.move(0, 1, 12);
        int[][] want = {
            {2, 70, 1, 0, 0, 1, 0},
            {2, 71, 0, 1, 12, 1, 1},
            {2, 72, 1, 1, 0, 1, 2},
            {3, 0, 1, 0, 0, 1, 3},
            {3, 0, 0, 1, 0, 1, 4},
            {1, 0, 1, 0, 0, 1, 5},
            {1, 0, 0, 1, 0, 1, 6},
            {1, 1, 1, 0, 0, 1, 7},
            {1, 1, 0, 1, 0, 1, 8},
        };
        for (int d = 0; d < want.length; d++) {
            for (int what = 0; what < 7; what++) {
                Due.due("about(0, " + d + ", " + what + ")", x.about(0, d, what), want[d][what]);
            }
        }
    }

    private static void promise9AboutLeastFreeFile() {
        HandleDesk x = new HandleDesk();
        for (int i = 0; i < 6; i++) {
            x.open(i, 2, 9, 3);
            x.move(i, 0, 100);
        }
        x.close(1, 0);
        x.close(4, 0);
        x.close(2, 0);
        x.open(7, 3, 9, 1);
        Due.due("a new file is the least that is free", x.about(7, 0, 6), 1);
        Due.due("a file used anew: kind", x.about(7, 0, 0), 3);
        Due.due("a file used anew: inode", x.about(7, 0, 1), 0);
        Due.due("a file used anew: written", x.about(7, 0, 3), 0);
        Due.due("a file used anew: place", x.about(7, 0, 4), 0);
        x.pipe(8);
        Due.due("the reading end is the least", x.about(8, 0, 6), 2);
        Due.due("the writing end is the next", x.about(8, 1, 6), 4);
        x.close(8, 0);
        x.open(9, 2, 33, 2);
        Due.due("an end used anew: which", x.about(9, 0, 6), 2);
        Due.due("an end used anew: inode", x.about(9, 0, 1), 33);
        Due.due("an end used anew: no pipe", x.put(9, 0, 1), NONE);
        Due.due("an end used anew: read", x.about(9, 0, 2), 0);
        Due.due("an end used anew: left", x.close(9, 0), 33);
        Due.due("and the pipe's end stays", x.ends(0, 2), 1);
    }

    private static void promise10Move() {
        HandleDesk x = new HandleDesk();
        x.open(0, 2, 7, 1);
        x.open(0, 2, 7, 1);
        Due.due("move", x.move(0, 0, 500), true);
        Due.due("moved", x.about(0, 0, 4), 500);
        Due.due("another file for the inode has its own place", x.about(0, 1, 4), 0);
        Due.due("move to the largest", x.move(0, 0, Integer.MAX_VALUE), true);
        Due.due("moved to the largest", x.about(0, 0, 4), Integer.MAX_VALUE);
        Due.due("move to 0", x.move(0, 0, 0), true);
        Due.due("moved to 0", x.about(0, 0, 4), 0);
    }
}
