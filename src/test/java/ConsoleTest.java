/** Promises 14 to 19: what is typed, read and shown at the console. */
public final class ConsoleTest {
    private static final int NONE = HandleDesk.NONE;
    private static final int END = HandleDesk.END;
    private static final int WAIT = HandleDesk.WAIT;

    public static void main(String[] args) {
        promise14Type();
        promise14EveryByte();
        promise14TakeBack();
        promise14TakeBackStopsAtTheLine();
        promise15Read();
        promise15ReadEnd();
        promise15ReadRound();
        promise16Waiting();
        promise17Show();
        promise18Shown();
        promise18ShownOfTyped();
        promise19Count();
        Due.finish();
    }

    private static void typeAll(HandleDesk x, int... bytes) {
        for (int b : bytes) {
            Due.due("type(" + b + ")", x.type(b), true);
        }
    }

    private static void readAll(HandleDesk x, String told, int... want) {
        for (int w : want) {
            Due.due(told, x.read(true), w);
        }
    }

    private static void shownAll(HandleDesk x, String told, int... want) {
        Due.due(told + ": count()", x.count(), want.length);
        for (int k = 0; k < want.length; k++) {
            Due.due(told + ": shown(" + k + ")", x.shown(k), want[k]);
        }
        Due.due(told + ": nothing behind", x.shown(want.length), NONE);
    }

    private static void promise14Type() {
        HandleDesk x = new HandleDesk();
        typeAll(x, 97, 98);
        Due.due("a line is not done", x.read(true), WAIT);
        typeAll(x, 13);
        readAll(x, "13 stands for 10", 97, 98, 10, WAIT);
        typeAll(x, 99, 10);
        readAll(x, "10 ends a line", 99, 10, WAIT);
        typeAll(x, 100, 4);
        readAll(x, "4 ends a line", 100, END, WAIT);
        typeAll(x, 10, 4);
        readAll(x, "lines of one byte", 10, END, WAIT);
    }

    private static void promise14EveryByte() {
        for (int b = 0; b < 256; b++) {
            boolean plain = b != 4 && b != 8 && b != 10 && b != 13 && b != 21 && b != 127;
            if (plain) {
                HandleDesk x = new HandleDesk();
                typeAll(x, 97, b);
                Due.due("byte " + b + " ends no line", x.waiting(0), 0);
                typeAll(x, 10);
                readAll(x, "byte " + b, 97, b, 10, WAIT);
                shownAll(x, "byte " + b, 97, b, 10);
            }
        }
    }

    private static void promise14TakeBack() {
        HandleDesk x = new HandleDesk();
        typeAll(x, 97, 98, 99, 8, 127, 100, 10);
        readAll(x, "8 and 127 take back", 97, 100, 10, WAIT);
        typeAll(x, 97, 98, 99, 21, 101, 10);
        readAll(x, "21 takes all back", 101, 10, WAIT);
        HandleDesk y = new HandleDesk();
        typeAll(y, 97, 98, 127, 8, 99, 100, 21);
        shownAll(y, "taken back", 97, 98, 8, 32, 8, 8, 32, 8, 99, 100, 8, 32, 8, 8, 32, 8);
        Due.due("nothing waits", y.waiting(1), 0);
    }

    private static void promise14TakeBackStopsAtTheLine() {
        HandleDesk x = new HandleDesk();
        typeAll(x, 8, 127, 21);
        Due.due("nothing to take back shows nothing", x.count(), 0);
        typeAll(x, 97, 10, 98, 8, 8, 127, 21);
        Due.due("done bytes stay", x.waiting(0), 2);
        Due.due("the line is empty", x.waiting(1), 2);
        shownAll(x, "the line alone", 97, 10, 98, 8, 32, 8);
        typeAll(x, 99, 4, 8, 21, 127);
        Due.due("a line done by 4 stays", x.waiting(0), 4);
        readAll(x, "what was done", 97, 10, 99, END, WAIT);
    }

    private static void promise15Read() {
        HandleDesk x = new HandleDesk();
        Due.due("read(true) of nothing", x.read(true), WAIT);
        Due.due("read(false) of nothing", x.read(false), WAIT);
        typeAll(x, 0, 200, 255, 10, 97);
        Due.due("byte 0", x.read(true), 0);
        Due.due("byte 200", x.read(false), 200);
        Due.due("byte 255", x.read(true), 255);
        Due.due("byte 10", x.read(false), 10);
        Due.due("the line is not read", x.read(false), WAIT);
        Due.due("the line stays", x.waiting(1), 1);
    }

    private static void promise15ReadEnd() {
        HandleDesk x = new HandleDesk();
        typeAll(x, 97, 4, 4, 98, 10);
        Due.due("read before the end", x.read(true), 97);
        Due.due("end, not first", x.read(false), END);
        Due.due("it stays", x.waiting(0), 4);
        Due.due("end, not first, again", x.read(false), END);
        Due.due("end, first", x.read(true), END);
        Due.due("it is gone", x.waiting(0), 3);
        Due.due("second end, not first", x.read(false), END);
        Due.due("second end, first", x.read(true), END);
        Due.due("read behind", x.read(true), 98);
        Due.due("read the last", x.read(false), 10);
        Due.due("no more", x.read(false), WAIT);
        Due.due("none waits", x.waiting(1), 0);
    }

    private static void promise15ReadRound() {
        HandleDesk x = new HandleDesk();
        for (int i = 0; i < 60; i++) {
            typeAll(x, 128 + i, 60 + i % 60, 8, 10);
            readAll(x, "round " + i, 128 + i, 10, WAIT);
        }
    }

    private static void promise16Waiting() {
        HandleDesk x = new HandleDesk();
        typeAll(x, 97, 98);
        Due.due("done: none", x.waiting(0), 0);
        Due.due("in all: 2", x.waiting(1), 2);
        typeAll(x, 10, 99);
        Due.due("done: 3", x.waiting(0), 3);
        Due.due("in all: 4", x.waiting(1), 4);
        x.read(true);
        Due.due("done: 2", x.waiting(0), 2);
        Due.due("in all: 3", x.waiting(1), 3);
        for (int what : new int[] {-1, 2, 3, Integer.MIN_VALUE, Integer.MAX_VALUE}) {
            Due.due("waiting(" + what + ")", x.waiting(what), NONE);
        }
    }

    private static void promise17Show() {
        HandleDesk x = new HandleDesk();
        int[] bytes = {0, 8, 13, 127, 128, 255, 256, 300, -1, -256, Integer.MIN_VALUE, Integer.MAX_VALUE};
        for (int b : bytes) {
            x.show(b);
        }
        shownAll(x, "shown as they are", 0, 8, 13, 127, 128, 255, 0, 44, 255, 0, 0, 255);
        Due.due("what is shown is not typed", x.waiting(1), 0);
    }

    private static void promise18Shown() {
        HandleDesk x = new HandleDesk();
        Due.due("shown(0) of nothing", x.shown(0), NONE);
        for (int i = 0; i < 250; i++) {
            x.show(i);
        }
        for (int k = 0; k < 250; k++) {
            Due.due("shown(" + k + ")", x.shown(k), k);
        }
        for (int k : new int[] {-1, 250, 251, 4096, Integer.MIN_VALUE, Integer.MAX_VALUE}) {
            Due.due("shown(" + k + ")", x.shown(k), NONE);
        }
    }

    private static void promise18ShownOfTyped() {
        HandleDesk x = new HandleDesk();
        typeAll(x, 97, 13, 98);
        x.show(7);
        typeAll(x, 4, 99, 127);
        x.read(true);
        shownAll(x, "typed", 97, 10, 98, 7, 4, 99, 8, 32, 8);
    }

    private static void promise19Count() {
        HandleDesk x = new HandleDesk();
        Due.due("count of nothing", x.count(), 0);
        x.show(5);
        Due.due("count of one", x.count(), 1);
        typeAll(x, 97, 98);
        Due.due("typed bytes count", x.count(), 3);
        typeAll(x, 8);
        Due.due("a byte taken back counts three", x.count(), 6);
        typeAll(x, 99, 100, 21);
        Due.due("three taken back count nine", x.count(), 17);
        typeAll(x, 4);
        Due.due("4 counts", x.count(), 18);
        x.read(true);
        x.shown(0);
        Due.due("reading shows nothing", x.count(), 18);
    }
}
