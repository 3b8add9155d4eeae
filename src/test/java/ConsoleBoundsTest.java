import java.util.function.Consumer;

/** Promises 14 to 19: a test for each sentence that names a boundary case. */
public final class ConsoleBoundsTest {
    private static final int NONE = HandleDesk.NONE;
    private static final int END = HandleDesk.END;
    private static final int WAIT = HandleDesk.WAIT;
    private static final int CONSOLE_BYTES = 128;
    private static final int[] TAKING_BACK = {8, 127, 21};
    private static final int[] COMING_TO_THE_LINE = {0, 1, 4, 7, 9, 10, 11, 13, 20, 22, 32, 65, 126, 128, 255};

    public static void main(String[] args) {
        promise14TooSmallAndTooLarge();
        promise14LeastAndGreatest();
        promise14AtMost128();
        promise14Full();
        promise14FullTakingBack();
        promise14DoneWhen128Wait();
        promise14DoneBehindOtherLines();
        promise14RoomAgain();
        promise14NoRoomWhileTheEndStays();
        promise14LastByteTakenBack();
        promise14AllTakenBack();
        promise14EmptyLine();
        promise14OnlyThatLine();
        promise14ThirteenStandsForTen();
        promise14FourIsShown();
        promise14RoundTakenBack();
        promise15NoneDone();
        promise15Round();
        promise15RoundFull();
        promise15RoundAtTheEnd();
        promise15EndStaysOrIsGone();
        promise15EndAfterEnd();
        promise15OnlyFourIsAnEnd();
        promise15FirstMattersAtAnEndAlone();
        promise16EmptyAndFull();
        promise16AnotherWhat();
        promise17LowestEightBits();
        promise17ShownIsNotTyped();
        promise18TooSmallAndTooLarge();
        promise18FromTheFirstOn();
        promise18BehindIt();
        promise18Round();
        promise19FromNought();
        promise19RefusedBytes();
        promise19TakenBackByTheLine();
        Due.finish();
    }

    private static void typeMany(HandleDesk x, int bytes, int b) {
        for (int i = 0; i < bytes; i++) {
            x.type(b);
        }
    }

    /** Bytes that neither end a line nor take anything back. */
    private static int plain(int i) {
        return 128 + i % 120;
    }

    private static void typePlain(HandleDesk x, int bytes) {
        for (int i = 0; i < bytes; i++) {
            x.type(plain(i));
        }
    }

    /** So many bytes are typed, done and read: the next one stands that far along the row. */
    private static void goAlong(HandleDesk x, int bytes) {
        if (bytes > 0) {
            typeMany(x, bytes - 1, 120);
            x.type(10);
        }
        for (int i = 0; i < bytes; i++) {
            x.read(true);
        }
    }

    private static void refusedType(String when, Consumer<HandleDesk> before, int b) {
        Looks.changesNothing("type(" + b + ")" + when, before, x -> x.type(b) ? 1 : 0, 0);
    }

    private static void waits(String told, HandleDesk x, int done, int inAll) {
        Due.due(told + ": done", x.waiting(0), done);
        Due.due(told + ": in all", x.waiting(1), inAll);
    }

    private static void shownAll(String told, HandleDesk x, int... want) {
        Due.due(told + ": count()", x.count(), want.length);
        for (int k = 0; k < want.length; k++) {
            Due.due(told + ": shown(" + k + ")", x.shown(k), want[k]);
        }
    }

    private static void promise14TooSmallAndTooLarge() {
        Due.promise(14, "false, changing nothing, if b is not 0 .. 255");
        for (int b : Wrong.BYTES) {
            refusedType(" on a new desk", x -> { }, b);
            refusedType(" behind a line that is begun", Looks::busy, b);
            refusedType(" with 127", x -> typePlain(x, 127), b);
            refusedType(" with 128", x -> typePlain(x, 128), b);
        }
    }

    private static void promise14LeastAndGreatest() {
        Due.promise(14, "Byte b is typed: true (0 .. 255)");
        for (int b = 0; b < 256; b++) {
            HandleDesk x = new HandleDesk();
            Due.due("type(" + b + ")", x.type(b), true);
        }
        HandleDesk x = new HandleDesk();
        x.type(0);
        x.type(255);
        x.type(10);
        Due.due("byte 0", x.read(true), 0);
        Due.due("byte 255", x.read(true), 255);
        shownAll("0, 255, 10", x, 0, 255, 10);
    }

    private static void promise14AtMost128() {
        Due.promise(14, "Byte b is typed: true (fewer than 128 wait)");
        for (int b : COMING_TO_THE_LINE) {
            HandleDesk x = new HandleDesk();
            typePlain(x, 126);
            Due.due("type(65) with 126", x.type(65), true);
            waits("127 wait", x, 0, 127);
            Due.due("type(" + b + ") with 127", x.type(b), true);
            waits("128 wait", x, 128, 128);
            Due.due("it is shown", x.shown(127), b == 13 ? 10 : b);
        }
    }

    private static void promise14Full() {
        Due.promise(14, "false, changing nothing, if 128 wait and it would come to the line");
        for (int b : COMING_TO_THE_LINE) {
            refusedType(" with 128 of one line", x -> typePlain(x, 128), b);
            refusedType(" with 128 of two lines", x -> {
                typePlain(x, 60);
                x.type(10);
                typePlain(x, 67);
            }, b);
            refusedType(" with 128 lines", x -> typeMany(x, 128, 10), b);
        }
    }

    private static void promise14FullTakingBack() {
        Due.promise(14, "true if 128 wait and it would not come to the line");
        for (int b : TAKING_BACK) {
            Looks.changesNothing("type(" + b + ") with 128", x -> typePlain(x, 128), x -> x.type(b) ? 1 : 0, 1);
        }
    }

    private static void promise14DoneWhen128Wait() {
        Due.promise(14, "when 128 wait then, the line is done");
        HandleDesk x = new HandleDesk();
        typePlain(x, 127);
        waits("127 wait", x, 0, 127);
        Due.due("read with 127", x.read(true), WAIT);
        x.type(plain(127));
        waits("128 wait", x, 128, 128);
        for (int i = 0; i < 128; i++) {
            Due.due("read number " + i, x.read(true), plain(i));
        }
        Due.due("read behind", x.read(true), WAIT);
        waits("all read", x, 0, 0);
    }

    private static void promise14DoneBehindOtherLines() {
        Due.promise(14, "when 128 wait then, the line is done (behind lines that are done)");
        for (int before : new int[] {1, 2, 64, 126, 127}) {
            HandleDesk x = new HandleDesk();
            typePlain(x, before - 1);
            x.type(10);
            waits("a line of " + before, x, before, before);
            typePlain(x, 127 - before);
            waits("127 wait", x, before, 127);
            x.type(66);
            waits("128 wait", x, 128, 128);
        }
    }

    private static void promise14RoomAgain() {
        Due.promise(14, "128 wait (those that were not read)");
        HandleDesk x = new HandleDesk();
        typePlain(x, 128);
        Due.due("type(65) with 128", x.type(65), false);
        Due.due("read", x.read(true), plain(0));
        Due.due("type(65) with 127", x.type(65), true);
        waits("done at once, 128 waiting", x, 128, 128);
        Due.due("type(66) with 128 again", x.type(66), false);
        x.read(true);
        x.read(true);
        Due.due("type(67) with 126", x.type(67), true);
        waits("a line begun", x, 126, 127);
        Due.due("type(8)", x.type(8), true);
        waits("taken back", x, 126, 126);
        x.type(68);
        x.type(69);
        waits("done, 128 waiting", x, 128, 128);
        for (int i = 0; i < 125; i++) {
            Due.due("read on", x.read(true), plain(i + 3));
        }
        Due.due("read the one typed with 127", x.read(true), 65);
        Due.due("read the line's first", x.read(true), 68);
        Due.due("read the line's last", x.read(true), 69);
        Due.due("read behind", x.read(true), WAIT);
    }

    private static void promise14NoRoomWhileTheEndStays() {
        Due.promise(14, "128 wait (an end that stays among them)");
        HandleDesk x = new HandleDesk();
        x.type(4);
        typePlain(x, 127);
        waits("128 wait", x, 128, 128);
        Due.due("read(false)", x.read(false), END);
        Due.due("type(65) while the end stays", x.type(65), false);
        Due.due("read(true)", x.read(true), END);
        Due.due("type(65) when the end is gone", x.type(65), true);
        waits("128 wait again", x, 128, 128);
    }

    private static void promise14LastByteTakenBack() {
        Due.promise(14, "8 or 127, typed, takes the last byte of that line back");
        for (int b : new int[] {8, 127}) {
            HandleDesk x = new HandleDesk();
            typePlain(x, 127);
            for (int i = 126; i >= 0; i--) {
                Due.due("type(" + b + ")", x.type(b), true);
                Due.due("wait then", x.waiting(1), i);
            }
            int count = 127 + 3 * 127;
            Due.due("count()", x.count(), count);
            Due.due("type(" + b + ") with none", x.type(b), true);
            Due.due("count() then", x.count(), count);
            HandleDesk y = new HandleDesk();
            for (int typed : new int[] {97, 98, b, 99, 10}) {
                y.type(typed);
            }
            Due.due("the first stays", y.read(true), 97);
            Due.due("the one typed behind", y.read(true), 99);
            shownAll("97, 98, " + b + ", 99, 10", y, 97, 98, 8, 32, 8, 99, 10);
        }
    }

    private static void promise14AllTakenBack() {
        Due.promise(14, "21 all of them");
        for (int bytes : new int[] {1, 2, 126, 127}) {
            HandleDesk x = new HandleDesk();
            x.type(10);
            x.read(true);
            typePlain(x, bytes);
            Due.due("type(21) with " + bytes, x.type(21), true);
            waits("nothing", x, 0, 0);
            Due.due("count()", x.count(), 1 + 4 * bytes);
            for (int i = 0; i < 3 * bytes; i++) {
                Due.due("shown number " + i, x.shown(1 + bytes + i), i % 3 == 1 ? 32 : 8);
            }
            x.type(21);
            Due.due("count() when none is there", x.count(), 1 + 4 * bytes);
        }
    }

    private static void promise14EmptyLine() {
        Due.promise(14, "takes the last byte of that line back (the line is empty)");
        for (int b : TAKING_BACK) {
            Looks.changesNothing("type(" + b + ") on a new desk", x -> { }, x -> x.type(b) ? 1 : 0, 1);
            Looks.changesNothing("type(" + b + ") behind 10", x -> {
                x.type(97);
                x.type(10);
            }, x -> x.type(b) ? 1 : 0, 1);
            Looks.changesNothing("type(" + b + ") behind 4", x -> {
                x.type(97);
                x.type(4);
            }, x -> x.type(b) ? 1 : 0, 1);
            Looks.changesNothing("type(" + b + ") when all was read", x -> goAlong(x, 5), x -> x.type(b) ? 1 : 0, 1);
        }
    }

    private static void promise14OnlyThatLine() {
        Due.promise(14, "takes the last byte of that line back (no byte of a line that is done)");
        for (int b : TAKING_BACK) {
            HandleDesk x = new HandleDesk();
            for (int typed : new int[] {97, 10, 98, 4, 99}) {
                x.type(typed);
            }
            x.type(b);
            waits("type(" + b + ") takes 99 back", x, 4, 4);
            x.type(b);
            waits("type(" + b + ") takes no 4 back", x, 4, 4);
            shownAll("type(" + b + ")", x, 97, 10, 98, 4, 99, 8, 32, 8);
        }
    }

    private static void promise14ThirteenStandsForTen() {
        Due.promise(14, "13 stands for 10");
        Looks.same("type(13) and type(10)", x -> {
            x.type(97);
            x.type(13);
        }, x -> {
            x.type(97);
            x.type(10);
        });
        Looks.same("type(13) and type(10) as the 128th", x -> {
            typePlain(x, 127);
            x.type(13);
        }, x -> {
            typePlain(x, 127);
            x.type(10);
        });
        HandleDesk x = new HandleDesk();
        x.type(13);
        waits("a line of 13 alone", x, 1, 1);
        Due.due("read", x.read(true), 10);
        shownAll("13", x, 10);
    }

    private static void promise14FourIsShown() {
        Due.promise(14, "4 is shown, too");
        HandleDesk x = new HandleDesk();
        x.type(4);
        waits("a line of 4 alone", x, 1, 1);
        shownAll("4", x, 4);
    }

    private static void promise14RoundTakenBack() {
        Due.promise(14, "takes the last byte of that line back (on past the place where the row is full)");
        for (int along = 0; along <= CONSOLE_BYTES; along++) {
            HandleDesk x = new HandleDesk();
            goAlong(x, along);
            typePlain(x, 9);
            x.type(8);
            x.type(127);
            x.type(65);
            x.type(10);
            for (int i = 0; i < 7; i++) {
                Due.due("read number " + i + ", " + along + " along", x.read(true), plain(i));
            }
            Due.due("read the one typed behind, " + along + " along", x.read(true), 65);
            Due.due("read the last, " + along + " along", x.read(true), 10);
            typePlain(x, 127);
            x.type(21);
            waits("all taken back, " + along + " along", x, 0, 0);
        }
    }

    private static void promise15NoneDone() {
        Due.promise(15, "WAIT if none is done");
        for (boolean first : new boolean[] {true, false}) {
            Looks.changesNothing("read(" + first + ") on a new desk", x -> { }, x -> x.read(first), WAIT);
            Looks.changesNothing("read(" + first + ") of a line begun", x -> x.type(97), x -> x.read(first), WAIT);
            Looks.changesNothing("read(" + first + ") with 127", x -> typePlain(x, 127), x -> x.read(first), WAIT);
            Looks.changesNothing("read(" + first + ") when all was read", x -> {
                goAlong(x, 3);
                x.type(97);
            }, x -> x.read(first), WAIT);
            Looks.changesNothing("read(" + first + ") when the end is gone", x -> {
                x.type(4);
                x.read(true);
            }, x -> x.read(first), WAIT);
        }
    }

    private static void promise15Round() {
        Due.promise(15, "The next byte that is done is read (on past the place where the row is full)");
        HandleDesk x = new HandleDesk();
        for (int line = 0; line < 30; line++) {
            for (int i = 0; i < 6; i++) {
                x.type(plain(line * 6 + i));
            }
            x.type(10);
            for (int i = 0; i < 6; i++) {
                Due.due("read " + i + " of line " + line, x.read(i == 0), plain(line * 6 + i));
            }
            Due.due("read the end of line " + line, x.read(false), 10);
            Due.due("read behind line " + line, x.read(false), WAIT);
        }
    }

    private static void promise15RoundFull() {
        Due.promise(15, "The next byte that is done is read (128 of them, from every place of the row on)");
        for (int along = 0; along < CONSOLE_BYTES; along++) {
            HandleDesk x = new HandleDesk();
            goAlong(x, along);
            typePlain(x, 128);
            Due.due("type(65) with 128, " + along + " along", x.type(65), false);
            for (int i = 0; i < 128; i++) {
                Due.due("read number " + i + ", " + along + " along", x.read(false), plain(i));
            }
            Due.due("read behind, " + along + " along", x.read(true), WAIT);
        }
    }

    private static void promise15RoundAtTheEnd() {
        Due.promise(15, "END at an end (on past the place where the row is full)");
        for (int along = 120; along <= 135; along++) {
            HandleDesk x = new HandleDesk();
            goAlong(x, 60);
            goAlong(x, along - 60);
            x.type(97);
            x.type(4);
            x.type(98);
            x.type(10);
            Due.due("read before the end, " + along + " along", x.read(true), 97);
            Due.due("the end stays, " + along + " along", x.read(false), END);
            Due.due("the end is gone, " + along + " along", x.read(true), END);
            Due.due("read behind the end, " + along + " along", x.read(true), 98);
        }
    }

    private static void promise15EndStaysOrIsGone() {
        Due.promise(15, "END at an end, which is gone then if first");
        Looks.changesNothing("read(false) at an end", x -> {
            x.type(4);
            x.type(97);
        }, x -> x.read(false), END);
        HandleDesk x = new HandleDesk();
        x.type(97);
        x.type(4);
        x.type(98);
        Due.due("read(true)", x.read(true), 97);
        for (int i = 0; i < 3; i++) {
            Due.due("read(false) at the end", x.read(false), END);
            waits("it stays", x, 1, 2);
        }
        Due.due("read(true) at the end", x.read(true), END);
        waits("it is gone", x, 0, 1);
        Due.due("read(true) behind the end", x.read(true), WAIT);
    }

    private static void promise15EndAfterEnd() {
        Due.promise(15, "END at an end (128 of them)");
        HandleDesk x = new HandleDesk();
        typeMany(x, 128, 4);
        waits("128 ends", x, 128, 128);
        for (int i = 127; i >= 0; i--) {
            Due.due("read(false)", x.read(false), END);
            Due.due("read(true)", x.read(true), END);
        }
        Due.due("read behind the last", x.read(true), WAIT);
    }

    private static void promise15OnlyFourIsAnEnd() {
        Due.promise(15, "The next byte that is done is read (none but 4 is an end)");
        for (int b : COMING_TO_THE_LINE) {
            HandleDesk x = new HandleDesk();
            x.type(b);
            x.type(10);
            int want = b == 4 ? END : b == 13 ? 10 : b;
            Due.due("read " + b, x.read(true), want);
        }
    }

    private static void promise15FirstMattersAtAnEndAlone() {
        Due.promise(15, "The next byte that is done is read (once, whether first or not)");
        for (boolean first : new boolean[] {true, false}) {
            HandleDesk x = new HandleDesk();
            x.type(97);
            x.type(98);
            x.type(10);
            Due.due("read(" + first + ") of 97", x.read(first), 97);
            Due.due("read(" + first + ") of 98", x.read(first), 98);
            Due.due("read(" + first + ") of 10", x.read(first), 10);
            waits("all read", x, 0, 0);
        }
    }

    private static void promise16EmptyAndFull() {
        Due.promise(16, "How many bytes are done and not read, for what 0, or wait in all, 1");
        HandleDesk x = new HandleDesk();
        waits("nothing", x, 0, 0);
        for (int i = 1; i < CONSOLE_BYTES; i++) {
            x.type(65);
            Due.due("in all", x.waiting(1), i);
        }
        Due.due("done with 127", x.waiting(0), 0);
        x.type(65);
        waits("128", x, 128, 128);
        x.type(65);
        waits("128, one refused", x, 128, 128);
        for (int i = CONSOLE_BYTES - 1; i >= 0; i--) {
            x.read(true);
            Due.due("done", x.waiting(0), i);
        }
        waits("all read", x, 0, 0);
        x.read(true);
        waits("nothing to read", x, 0, 0);
    }

    private static void promise16AnotherWhat() {
        Due.promise(16, "NONE for another what");
        for (int what : Wrong.WHATS_WAITING) {
            Looks.changesNothing("waiting(" + what + ") on a new desk", x -> { }, x -> x.waiting(what), NONE);
            Looks.changesNothing("waiting(" + what + ")", x -> x.waiting(what), NONE);
            Looks.changesNothing("waiting(" + what + ") with 128", x -> typePlain(x, 128), x -> x.waiting(what), NONE);
        }
    }

    private static void promise17LowestEightBits() {
        Due.promise(17, "The lowest eight bits of b are shown");
        HandleDesk x = new HandleDesk();
        int[] bytes = {
            0, 1, 4, 8, 10, 13, 21, 127, 128, 255, 256, 257, 511, 0x12345680,
            -1, -128, -129, -255, -256, -257, Integer.MIN_VALUE, Integer.MAX_VALUE
        };
        for (int b : bytes) {
            x.show(b);
        }
        shownAll("as they are", x, 0, 1, 4, 8, 10, 13, 21, 127, 128, 255, 0, 1, 255, 128,
                255, 128, 127, 1, 0, 255, 0, 255);
    }

    private static void promise17ShownIsNotTyped() {
        Due.promise(17, "are shown (and nothing else)");
        HandleDesk x = new HandleDesk();
        x.type(97);
        for (int b : new int[] {8, 127, 21, 10, 13, 4}) {
            x.show(b);
        }
        waits("the line", x, 0, 1);
        HandleDesk y = new HandleDesk();
        typePlain(y, 128);
        y.show(65);
        Due.due("shown when 128 wait", y.shown(128), 65);
        waits("128", y, 128, 128);
    }

    private static void promise18TooSmallAndTooLarge() {
        Due.promise(18, "NONE if there is none");
        for (int k : new int[] {Integer.MIN_VALUE, -4096, -2, -1, 0, 1, 4095, 4096, Integer.MAX_VALUE}) {
            Looks.changesNothing("shown(" + k + ") on a new desk", x -> { }, x -> x.shown(k), NONE);
        }
        for (int count : new int[] {1, 2, 100}) {
            for (int k : new int[] {Integer.MIN_VALUE, -1, count, count + 1, 4096, Integer.MAX_VALUE}) {
                Looks.changesNothing("shown(" + k + ") with " + count, x -> {
                    for (int i = 0; i < count; i++) {
                        x.show(65);
                    }
                }, x -> x.shown(k), NONE);
            }
        }
    }

    private static void promise18FromTheFirstOn() {
        Due.promise(18, "Byte k, from 0 on, of what was shown");
        HandleDesk x = new HandleDesk();
        for (int i = 0; i < 250; i++) {
            x.show(i * 3);
        }
        for (int k = 0; k < 250; k++) {
            Due.due("shown(" + k + ")", x.shown(k), (k * 3) & 255);
        }
    }

    // So many bytes take more calls than an object is promised for; the words hold there all the same.
    private static void promise18BehindIt() {
        Due.promise(18, "NONE if 4,096 were shown behind it");
        HandleDesk x = new HandleDesk();
        for (int i = 0; i < 4096; i++) {
            x.show(i * 11);
        }
        Due.due("shown(0), 4,095 behind it", x.shown(0), 0);
        x.show(1);
        Due.due("shown(0), 4,096 behind it", x.shown(0), NONE);
        Due.due("shown(1), 4,095 behind it", x.shown(1), 11);
        Due.due("shown(4095), one behind it", x.shown(4095), (4095 * 11) & 255);
        Due.due("shown(4096), none behind it", x.shown(4096), 1);
        Due.due("shown(4097), not yet", x.shown(4097), NONE);
        x.show(2);
        Due.due("shown(0), 4,097 behind it", x.shown(0), NONE);
        Due.due("shown(1), 4,096 behind it", x.shown(1), NONE);
        Due.due("shown(2), 4,095 behind it", x.shown(2), 22);
    }

    private static void promise18Round() {
        Due.promise(18, "Byte k of what was shown (on past the place where the row is full)");
        HandleDesk x = new HandleDesk();
        int count = 3 * 4096 + 100;
        for (int i = 0; i < count; i++) {
            x.show(i / 16);
        }
        for (int k = 0; k < count; k++) {
            int want = k < count - 4096 ? NONE : (k / 16) & 255;
            Due.due("shown(" + k + ")", x.shown(k), want);
        }
        Due.due("count()", x.count(), count);
    }

    private static void promise19FromNought() {
        Due.promise(19, "How many bytes were shown");
        HandleDesk x = new HandleDesk();
        Due.due("count() of nothing", x.count(), 0);
        x.show(0);
        Due.due("count() of byte 0", x.count(), 1);
        x.type(97);
        Due.due("count() with one typed", x.count(), 2);
        x.type(8);
        Due.due("count() with one taken back", x.count(), 5);
        x.type(8);
        Due.due("count() with none taken back", x.count(), 5);
        x.type(13);
        Due.due("count() with a line done", x.count(), 6);
        x.read(true);
        x.shown(0);
        x.shown(-1);
        Due.due("count() with a byte read", x.count(), 6);
    }

    private static void promise19RefusedBytes() {
        Due.promise(19, "How many bytes were shown (none that was refused)");
        HandleDesk x = new HandleDesk();
        typePlain(x, 128);
        Due.due("count() with 128", x.count(), 128);
        for (int b : COMING_TO_THE_LINE) {
            x.type(b);
        }
        for (int b : TAKING_BACK) {
            x.type(b);
        }
        x.type(-1);
        x.type(256);
        Due.due("count() then", x.count(), 128);
    }

    private static void promise19TakenBackByTheLine() {
        Due.promise(19, "How many bytes were shown (bytes taken back by the line)");
        HandleDesk x = new HandleDesk();
        for (int round = 0; round < 3; round++) {
            typePlain(x, 127);
            x.type(21);
        }
        Due.due("count()", x.count(), 3 * 4 * 127);
        Due.due("the first", x.shown(0), plain(0));
        Due.due("the first taken back", x.shown(127), 8);
        Due.due("the last", x.shown(3 * 4 * 127 - 1), 8);
        Due.due("the last but one", x.shown(3 * 4 * 127 - 2), 32);
        typePlain(x, 120);
        x.type(21);
        Due.due("count() then", x.count(), 3 * 4 * 127 + 4 * 120);
    }
}
