/** What the processes of a small kernel hold open, and the console at which lines are typed. */
public final class HandleDesk {
    /** Nothing there. */
    public static final int NONE = -1;
    /** The other end is closed. */
    public static final int BROKEN = -2;
    /** It must wait. */
    public static final int WAIT = -3;
    /** The end of what can be read. */
    public static final int END = -4;

    private static final int PROCESSES = 15;
    private static final int DESCRIPTORS = 16;
    private static final int FILES = 32;
    private static final int PIPES = 8;
    private static final int PIPE_BYTES = 512;
    private static final int CONSOLE_BYTES = 128;
    private static final int SCREEN_BYTES = 4096;

    private static final int KIND_PIPE = 1;
    private static final int KIND_INODE = 2;
    private static final int KIND_CONSOLE = 3;

    private static final int READING = 1;
    private static final int WRITING = 2;

    private static final int END_OF_INPUT = 4;
    private static final int BACKSPACE = 8;
    private static final int NEWLINE = 10;
    private static final int RETURN = 13;
    private static final int KILL_LINE = 21;
    private static final int SPACE = 32;
    private static final int DELETE = 127;
    private static final int LARGEST_BYTE = 255;

    /** The descriptors of all processes, row by row; null where one is free. */
    private final OpenFile[] named;
    private final OpenFile[] files;
    private final Pipe[] pipes;
    private final int[] leftInodes;
    private int leftCount;
    private final Console console;
    private final Screen screen;

    public HandleDesk() {
        named = new OpenFile[PROCESSES * DESCRIPTORS];
        files = new OpenFile[FILES];
        for (int i = 0; i < FILES; i++) {
            files[i] = new OpenFile(i);
        }
        pipes = new Pipe[PIPES];
        for (int i = 0; i < PIPES; i++) {
            pipes[i] = new Pipe(i);
        }
        leftInodes = new int[DESCRIPTORS];
        leftCount = 0;
        console = new Console();
        screen = new Screen();
    }

    public int open(int process, int kind, int inode, int how) {
        if (!isProcess(process) || !isOpenable(kind) || !isHow(how)) {
            return NONE;
        }
        int d = freeDescriptor(process, 0);
        OpenFile file = freeFile(0);
        if (d == NONE || file == null) {
            return NONE;
        }
        file.begin(kind, how);
        if (kind == KIND_INODE) {
            file.inode = inode;
        }
        setName(process, d, file);
        return d;
    }

    public int pipe(int process) {
        if (!isProcess(process)) {
            return NONE;
        }
        int reading = freeDescriptor(process, 0);
        if (reading == NONE) {
            return NONE;
        }
        int writing = freeDescriptor(process, reading + 1);
        if (writing == NONE) {
            return NONE;
        }
        OpenFile reader = freeFile(0);
        if (reader == null) {
            return NONE;
        }
        OpenFile writer = freeFile(reader.number + 1);
        Pipe row = freePipe();
        if (writer == null || row == null) {
            return NONE;
        }
        joinEnds(row, reader, writer);
        setName(process, reading, reader);
        setName(process, writing, writer);
        return reading + DESCRIPTORS * writing;
    }

    public int again(int process, int d) {
        OpenFile file = fileOf(process, d);
        if (file == null) {
            return NONE;
        }
        int other = freeDescriptor(process, 0);
        if (other == NONE) {
            return NONE;
        }
        setName(process, other, file);
        return other;
    }

    public int close(int process, int d) {
        OpenFile file = fileOf(process, d);
        if (file == null) {
            return NONE;
        }
        return dropName(process, d, file) ? file.inode : 0;
    }

    public int closeAll(int process) {
        if (!isProcess(process)) {
            return NONE;
        }
        leftCount = 0;
        for (int d = 0; d < DESCRIPTORS; d++) {
            OpenFile file = fileOf(process, d);
            if (file != null && dropName(process, d, file)) {
                keepLeft(file.inode);
            }
        }
        return leftCount;
    }

    public int left(int k) {
        if (k < 0 || k >= leftCount || k >= leftInodes.length) {
            return 0;
        }
        return leftInodes[k];
    }

    public int copy(int process, int from) {
        if (!isProcess(process) || !isProcess(from) || process == from) {
            return NONE;
        }
        if (usedDescriptors(process) > 0) {
            return NONE;
        }
        for (int d = 0; d < DESCRIPTORS; d++) {
            OpenFile file = fileOf(from, d);
            if (file != null) {
                setName(process, d, file);
            }
        }
        return usedDescriptors(process);
    }

    public int about(int process, int d, int what) {
        OpenFile file = fileOf(process, d);
        if (file == null) {
            return NONE;
        }
        switch (what) {
            case 0:
                return file.kind;
            case 1:
                return file.row == null ? file.inode : file.row.number;
            case 2:
                return oneIf(file.canRead);
            case 3:
                return oneIf(file.canWrite);
            case 4:
                return file.place;
            case 5:
                return file.names;
            case 6:
                return file.number;
            default:
                return NONE;
        }
    }

    public boolean move(int process, int d, int n) {
        OpenFile file = fileOf(process, d);
        if (file == null || file.kind != KIND_INODE || n < 0) {
            return false;
        }
        file.place = n;
        return true;
    }

    public int put(int process, int d, int b) {
        OpenFile file = fileOf(process, d);
        if (file == null || !file.canWrite) {
            return NONE;
        }
        Pipe row = file.row;
        if (row == null) {
            return NONE;
        }
        if (!row.readerOpen) {
            return BROKEN;
        }
        if (row.isFull()) {
            return WAIT;
        }
        row.addLast(b);
        return 0;
    }

    public int take(int process, int d) {
        OpenFile file = fileOf(process, d);
        if (file == null || !file.canRead) {
            return NONE;
        }
        Pipe row = file.row;
        if (row == null) {
            return NONE;
        }
        if (row.size > 0) {
            return row.removeFirst();
        }
        return row.writerOpen ? WAIT : END;
    }

    public int ends(int k, int what) {
        if (k < 0 || k >= pipes.length) {
            return NONE;
        }
        Pipe row = pipes[k];
        if (row == null || row.isGone()) {
            return NONE;
        }
        switch (what) {
            case 0:
                return row.size;
            case 1:
                return oneIf(row.readerOpen);
            case 2:
                return oneIf(row.writerOpen);
            default:
                return NONE;
        }
    }

    public boolean type(int b) {
        if (b < 0 || b > LARGEST_BYTE) {
            return false;
        }
        if (b == BACKSPACE || b == DELETE) {
            takeBack(Math.min(1, console.lineLength()));
            return true;
        }
        if (b == KILL_LINE) {
            takeBack(console.lineLength());
            return true;
        }
        if (console.isFull()) {
            return false;
        }
        int meant = b == RETURN ? NEWLINE : b;
        console.addToLine(meant);
        screen.addLast(meant);
        return true;
    }

    public int read(boolean first) {
        if (console.done <= 0) {
            return WAIT;
        }
        int b = console.firstDone();
        if (b != END_OF_INPUT) {
            console.dropFirstDone();
            return b;
        }
        if (first) {
            console.dropFirstDone();
        }
        return END;
    }

    public int waiting(int what) {
        switch (what) {
            case 0:
                return console.done;
            case 1:
                return console.size;
            default:
                return NONE;
        }
    }

    public void show(int b) {
        screen.addLast(b);
    }

    public int shown(int k) {
        return screen.byteAt(k);
    }

    public int count() {
        return screen.total;
    }

    private static boolean isProcess(int process) {
        return process >= 0 && process < PROCESSES;
    }

    private static boolean isDescriptor(int d) {
        return d >= 0 && d < DESCRIPTORS;
    }

    private static boolean isOpenable(int kind) {
        return kind == KIND_INODE || kind == KIND_CONSOLE;
    }

    private static boolean isHow(int how) {
        return how >= READING && how <= (READING | WRITING);
    }

    private static int oneIf(boolean holds) {
        return holds ? 1 : 0;
    }

    /** The open file that a descriptor names; null if it is not used, or there is no such one. */
    private OpenFile fileOf(int process, int d) {
        if (!isProcess(process) || !isDescriptor(d)) {
            return null;
        }
        return named[process * DESCRIPTORS + d];
    }

    private int freeDescriptor(int process, int start) {
        for (int d = start; d < DESCRIPTORS; d++) {
            if (fileOf(process, d) == null) {
                return d;
            }
        }
        return NONE;
    }

    private int usedDescriptors(int process) {
        int used = 0;
        for (int d = 0; d < DESCRIPTORS; d++) {
            if (fileOf(process, d) != null) {
                used++;
            }
        }
        return used;
    }

    private OpenFile freeFile(int start) {
        if (start < 0) {
            return null;
        }
        for (int i = start; i < files.length; i++) {
            OpenFile file = files[i];
            if (file != null && file.names == 0) {
                return file;
            }
        }
        return null;
    }

    private Pipe freePipe() {
        for (int i = 0; i < pipes.length; i++) {
            Pipe row = pipes[i];
            if (row != null && row.isGone()) {
                return row;
            }
        }
        return null;
    }

    private static void joinEnds(Pipe row, OpenFile reader, OpenFile writer) {
        row.begin();
        reader.begin(KIND_PIPE, READING);
        reader.row = row;
        writer.begin(KIND_PIPE, WRITING);
        writer.row = row;
    }

    private void setName(int process, int d, OpenFile file) {
        if (isProcess(process) && isDescriptor(d)) {
            named[process * DESCRIPTORS + d] = file;
            file.names++;
        }
    }

    /** Frees a descriptor that names the file; tells whether an inode is left by that. */
    private boolean dropName(int process, int d, OpenFile file) {
        if (!isProcess(process) || !isDescriptor(d)) {
            return false;
        }
        named[process * DESCRIPTORS + d] = null;
        file.names--;
        if (file.names > 0) {
            return false;
        }
        if (file.row != null) {
            file.row.endClosed(file.canRead);
        }
        return file.kind == KIND_INODE;
    }

    private void keepLeft(int inode) {
        if (leftCount >= 0 && leftCount < leftInodes.length) {
            leftInodes[leftCount] = inode;
            leftCount++;
        }
    }

    private void takeBack(int bytes) {
        for (int i = 0; i < bytes; i++) {
            console.dropLastOfLine();
            screen.addLast(BACKSPACE);
            screen.addLast(SPACE);
            screen.addLast(BACKSPACE);
        }
    }

    /** An open file; it is free while no descriptor names it. */
    private static final class OpenFile {
        final int number;
        int kind;
        int inode;
        /** The pipe that it is an end of; null for the other kinds. */
        Pipe row;
        boolean canRead;
        boolean canWrite;
        int place;
        int names;

        OpenFile(int number) {
            this.number = number;
        }

        void begin(int newKind, int how) {
            kind = newKind;
            inode = 0;
            row = null;
            canRead = (how & READING) != 0;
            canWrite = (how & WRITING) != 0;
            place = 0;
            names = 0;
        }
    }

    /** A pipe; it is gone, and free for a new one, while neither end is open. */
    private static final class Pipe {
        final int number;
        final byte[] ring = new byte[PIPE_BYTES];
        int start;
        int size;
        boolean readerOpen;
        boolean writerOpen;

        Pipe(int number) {
            this.number = number;
        }

        void begin() {
            start = 0;
            size = 0;
            readerOpen = true;
            writerOpen = true;
        }

        boolean isGone() {
            return !readerOpen && !writerOpen;
        }

        boolean isFull() {
            return size >= PIPE_BYTES;
        }

        void endClosed(boolean reading) {
            if (reading) {
                readerOpen = false;
            } else {
                writerOpen = false;
            }
        }

        // The ring's length is a power of two, so that a mask keeps every index inside it.
        void addLast(int b) {
            ring[(start + size) & (PIPE_BYTES - 1)] = (byte) b;
            size++;
        }

        int removeFirst() {
            int b = ring[start & (PIPE_BYTES - 1)] & LARGEST_BYTE;
            start = (start + 1) & (PIPE_BYTES - 1);
            size--;
            return b;
        }
    }

    /** The bytes that wait: first those that are done, behind them the line that is being typed. */
    private static final class Console {
        final byte[] ring = new byte[CONSOLE_BYTES];
        int start;
        int done;
        int size;

        boolean isFull() {
            return size >= CONSOLE_BYTES;
        }

        int lineLength() {
            return size - done;
        }

        void addToLine(int b) {
            ring[(start + size) & (CONSOLE_BYTES - 1)] = (byte) b;
            size++;
            // A full console ends the line: else nothing could be read, and nothing more typed.
            if (b == NEWLINE || b == END_OF_INPUT || isFull()) {
                done = size;
            }
        }

        void dropLastOfLine() {
            if (size > done) {
                size--;
            }
        }

        int firstDone() {
            return ring[start & (CONSOLE_BYTES - 1)] & LARGEST_BYTE;
        }

        void dropFirstDone() {
            if (done > 0) {
                start = (start + 1) & (CONSOLE_BYTES - 1);
                done--;
                size--;
            }
        }
    }

    /** What was shown; only the latest bytes of it are kept. */
    private static final class Screen {
        final byte[] ring = new byte[SCREEN_BYTES];
        int total;

        void addLast(int b) {
            ring[total & (SCREEN_BYTES - 1)] = (byte) b;
            total++;
        }

        int byteAt(int k) {
            if (k < 0 || k >= total || total - k > SCREEN_BYTES) {
                return NONE;
            }
            return ring[k & (SCREEN_BYTES - 1)] & LARGEST_BYTE;
        }
    }
}
