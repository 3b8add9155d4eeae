import java.util.ArrayDeque;
import java.util.ArrayList;
import java.util.List;
import java.util.TreeMap;

/** Runs of 512 calls, the same ones each time, compared with a plainer model of the document. */
public final class ModelTest {
    private static final int RUNS = 3000;
    private static final int CALLS = 512;
    private static final int[] ODD = {-1, 15, 16, 31, 32, 256, -256, Integer.MIN_VALUE, Integer.MAX_VALUE};

    private long seed;
    private int processes;
    private int descriptors;
    private int oddOf;

    public static void main(String[] args) {
        for (int run = 0; run < RUNS; run++) {
            new ModelTest().compare(run);
        }
        Due.finish();
    }

    private void compare(int run) {
        seed = 88172645463325252L + 7919L * run;
        processes = run % 3 == 0 ? 15 : 2 + run % 4;
        descriptors = run % 2 == 0 ? 16 : 5;
        oddOf = run % 5 == 0 ? 12 : 60;
        HandleDesk x = new HandleDesk();
        Model m = new Model();
        for (int i = 0; i < CALLS; i++) {
            String at = "run " + run + " call " + i + ": ";
            if (run % 4 == 3 || next(4) == 0) {
                consoleCall(at, x, m);
            } else {
                fileCall(at, x, m);
            }
        }
    }

    private int next(int bound) {
        seed ^= seed << 13;
        seed ^= seed >>> 7;
        seed ^= seed << 17;
        return (int) ((seed >>> 20) % bound);
    }

    private int upTo(int bound) {
        return next(oddOf) == 0 ? ODD[next(ODD.length)] : next(bound);
    }

    private void fileCall(String at, HandleDesk x, Model m) {
        int p = upTo(processes);
        int d = upTo(descriptors);
        int a = upTo(8);
        switch (next(26)) {
            case 0, 1, 2, 3 -> {
                int kind = next(8) == 0 ? upTo(5) : 2 + next(2);
                int how = next(8) == 0 ? upTo(5) : 1 + next(3);
                Due.due(at + "open(" + p + ", " + kind + ", " + a + ", " + how + ")",
                        x.open(p, kind, a, how), m.open(p, kind, a, how));
            }
            case 4, 5, 6 -> Due.due(at + "pipe(" + p + ")", x.pipe(p), m.pipe(p));
            case 7, 8 -> Due.due(at + "again(" + p + ", " + d + ")", x.again(p, d), m.again(p, d));
            case 9, 10 -> Due.due(at + "close(" + p + ", " + d + ")", x.close(p, d), m.close(p, d));
            case 11 -> {
                if (next(2) == 0) {
                    Due.due(at + "closeAll(" + p + ")", x.closeAll(p), m.closeAll(p));
                }
            }
            case 12 -> Due.due(at + "left(" + a + ")", x.left(a), m.left(a));
            case 13 -> {
                int from = upTo(processes);
                Due.due(at + "copy(" + p + ", " + from + ")", x.copy(p, from), m.copy(p, from));
            }
            case 14, 15, 16, 17 -> Due.due(at + "about(" + p + ", " + d + ", " + a + ")",
                    x.about(p, d, a), m.about(p, d, a));
            case 18 -> Due.due(at + "move(" + p + ", " + d + ", " + a + ")", x.move(p, d, a), m.move(p, d, a));
            case 19, 20, 21 -> {
                int b = upTo(256);
                Due.due(at + "put(" + p + ", " + d + ", " + b + ")", x.put(p, d, b), m.put(p, d, b));
            }
            case 22, 23 -> Due.due(at + "take(" + p + ", " + d + ")", x.take(p, d), m.take(p, d));
            default -> {
                int what = upTo(4);
                Due.due(at + "ends(" + a + ", " + what + ")", x.ends(a, what), m.ends(a, what));
            }
        }
    }

    private void consoleCall(String at, HandleDesk x, Model m) {
        switch (next(16)) {
            case 0, 1, 2, 3, 4, 5, 6 -> {
                int b = upTo(256);
                Due.due(at + "type(" + b + ")", x.type(b), m.type(b));
            }
            case 7, 8 -> {
                int b = new int[] {4, 8, 10, 13, 21, 127}[next(6)];
                Due.due(at + "type(" + b + ")", x.type(b), m.type(b));
            }
            case 9, 10 -> {
                boolean first = next(2) == 0;
                Due.due(at + "read(" + first + ")", x.read(first), m.read(first));
            }
            case 11, 12 -> {
                int what = upTo(3);
                Due.due(at + "waiting(" + what + ")", x.waiting(what), m.waiting(what));
            }
            case 13 -> {
                int b = upTo(256);
                x.show(b);
                m.shown.add(b & 255);
            }
            case 14 -> {
                int k = upTo(m.shown.size() + 2);
                Due.due(at + "shown(" + k + ")", x.shown(k), m.shown(k));
            }
            default -> Due.due(at + "count()", x.count(), m.shown.size());
        }
    }

    private static final class ModelPipe {
        final ArrayDeque<Integer> bytes = new ArrayDeque<>();
    }

    private static final class ModelFile {
        int kind;
        int inode;
        ModelPipe pipe;
        int how;
        int place;
    }

    /** Counts nothing ahead: names, ends and numbers are looked up anew whenever they are asked for. */
    private static final class Model {
        final List<TreeMap<Integer, ModelFile>> table = new ArrayList<>();
        final ModelFile[] files = new ModelFile[32];
        final ModelPipe[] pipes = new ModelPipe[8];
        List<Integer> left = new ArrayList<>();
        final List<Integer> done = new ArrayList<>();
        final List<Integer> line = new ArrayList<>();
        final List<Integer> shown = new ArrayList<>();

        Model() {
            for (int p = 0; p < 15; p++) {
                table.add(new TreeMap<>());
            }
        }

        ModelFile at(int p, int d) {
            return p < 0 || p > 14 ? null : table.get(p).get(d);
        }

        int name(int p, ModelFile f) {
            for (int d = 0; d < 16; d++) {
                if (table.get(p).putIfAbsent(d, f) == null) {
                    return d;
                }
            }
            throw new AssertionError("no descriptor");
        }

        int places(int p) {
            return p < 0 || p > 14 ? 0 : 16 - table.get(p).size();
        }

        int names(ModelFile f) {
            int n = 0;
            for (TreeMap<Integer, ModelFile> row : table) {
                for (ModelFile g : row.values()) {
                    n += g == f ? 1 : 0;
                }
            }
            return n;
        }

        <T> int indexOf(T[] row, T x) {
            for (int i = 0; i < row.length; i++) {
                if (row[i] == x) {
                    return i;
                }
            }
            return -1;
        }

        <T> int room(T[] row) {
            int n = 0;
            for (T x : row) {
                n += x == null ? 1 : 0;
            }
            return n;
        }

        ModelFile make(int kind, int inode, ModelPipe pipe, int how) {
            ModelFile f = new ModelFile();
            f.kind = kind;
            f.inode = inode;
            f.pipe = pipe;
            f.how = how;
            files[indexOf(files, null)] = f;
            return f;
        }

        boolean hasEnd(ModelPipe pipe, int how) {
            for (ModelFile f : files) {
                if (f != null && f.pipe == pipe && f.how == how) {
                    return true;
                }
            }
            return false;
        }

        /** Forgets the files that nothing names and the pipes without ends. */
        void sweep() {
            for (int i = 0; i < files.length; i++) {
                if (files[i] != null && names(files[i]) == 0) {
                    files[i] = null;
                }
            }
            for (int k = 0; k < pipes.length; k++) {
                if (pipes[k] != null && !hasEnd(pipes[k], 1) && !hasEnd(pipes[k], 2)) {
                    pipes[k] = null;
                }
            }
        }

        int open(int p, int kind, int inode, int how) {
            if (places(p) < 1 || kind < 2 || kind > 3 || how < 1 || how > 3 || room(files) < 1) {
                return -1;
            }
            return name(p, make(kind, kind == 2 ? inode : 0, null, how));
        }

        int pipe(int p) {
            if (places(p) < 2 || room(files) < 2 || room(pipes) < 1) {
                return -1;
            }
            ModelPipe pipe = new ModelPipe();
            pipes[indexOf(pipes, null)] = pipe;
            int r = name(p, make(1, 0, pipe, 1));
            return r + 16 * name(p, make(1, 0, pipe, 2));
        }

        int again(int p, int d) {
            return at(p, d) == null || places(p) < 1 ? -1 : name(p, at(p, d));
        }

        int close(int p, int d) {
            ModelFile f = at(p, d);
            if (f == null) {
                return -1;
            }
            table.get(p).remove(d);
            sweep();
            return f.kind == 2 && names(f) == 0 ? f.inode : 0;
        }

        int closeAll(int p) {
            if (p < 0 || p > 14) {
                return -1;
            }
            left = new ArrayList<>();
            while (!table.get(p).isEmpty()) {
                ModelFile f = table.get(p).pollFirstEntry().getValue();
                if (f.kind == 2 && names(f) == 0) {
                    left.add(f.inode);
                }
            }
            sweep();
            return left.size();
        }

        int left(int k) {
            return k >= 0 && k < left.size() ? left.get(k) : 0;
        }

        int copy(int p, int from) {
            if (places(p) != 16 || from < 0 || from > 14 || p == from) {
                return -1;
            }
            table.get(p).putAll(table.get(from));
            return table.get(from).size();
        }

        int about(int p, int d, int what) {
            ModelFile f = at(p, d);
            if (f == null) {
                return -1;
            }
            return switch (what) {
                case 0 -> f.kind;
                case 1 -> f.kind == 1 ? indexOf(pipes, f.pipe) : f.inode;
                case 2 -> f.how % 2;
                case 3 -> f.how / 2;
                case 4 -> f.place;
                case 5 -> names(f);
                case 6 -> indexOf(files, f);
                default -> -1;
            };
        }

        boolean move(int p, int d, int n) {
            ModelFile f = at(p, d);
            if (f == null || f.kind != 2 || n < 0) {
                return false;
            }
            f.place = n;
            return true;
        }

        int put(int p, int d, int b) {
            ModelFile f = at(p, d);
            if (f == null || f.kind != 1 || f.how != 2) {
                return -1;
            }
            if (!hasEnd(f.pipe, 1)) {
                return -2;
            }
            if (f.pipe.bytes.size() == 512) {
                return -3;
            }
            f.pipe.bytes.add(b & 255);
            return 0;
        }

        int take(int p, int d) {
            ModelFile f = at(p, d);
            if (f == null || f.kind != 1 || f.how != 1) {
                return -1;
            }
            if (!f.pipe.bytes.isEmpty()) {
                return f.pipe.bytes.remove();
            }
            return hasEnd(f.pipe, 2) ? -3 : -4;
        }

        int ends(int k, int what) {
            if (k < 0 || k > 7 || pipes[k] == null || what < 0 || what > 2) {
                return -1;
            }
            if (what == 0) {
                return pipes[k].bytes.size();
            }
            return hasEnd(pipes[k], what) ? 1 : 0;
        }

        boolean type(int b) {
            if (b < 0 || b > 255) {
                return false;
            }
            if (b == 8 || b == 127 || b == 21) {
                int keep = b == 21 ? 0 : line.size() - 1;
                while (!line.isEmpty() && line.size() > keep) {
                    line.remove(line.size() - 1);
                    shown.addAll(List.of(8, 32, 8));
                }
                return true;
            }
            if (done.size() + line.size() == 128) {
                return false;
            }
            int c = b == 13 ? 10 : b;
            line.add(c);
            shown.add(c);
            if (c == 10 || c == 4 || done.size() + line.size() == 128) {
                done.addAll(line);
                line.clear();
            }
            return true;
        }

        int read(boolean first) {
            if (done.isEmpty()) {
                return -3;
            }
            boolean end = done.get(0) == 4;
            if (end && !first) {
                return -4;
            }
            int b = done.remove(0);
            return end ? -4 : b;
        }

        int waiting(int what) {
            if (what == 0) {
                return done.size();
            }
            return what == 1 ? done.size() + line.size() : -1;
        }

        int shown(int k) {
            return k < 0 || k >= shown.size() || shown.size() - k > 4096 ? -1 : shown.get(k);
        }
    }
}
