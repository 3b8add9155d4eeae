import java.util.function.Consumer;

/** Rule 7 of LANGUAGE.md: no call throws, for any arguments in any state. */
public final class AnyCallTest {
    private static final int LONG_RUN = 400_000;
    private static final int CLOSE = 2;
    private static final int CLOSE_ALL = 3;
    private static final int PUT = 9;
    private static final int LEAST = Integer.MIN_VALUE;
    private static final int GREATEST = Integer.MAX_VALUE;
    private static final int[] ARGUMENTS = {
        LEAST, LEAST + 1, -(1 << 28), -257, -256, -16, -4, -1, 0, 1, 2, 3, 4, 7, 8, 10, 14, 15, 16, 21,
        31, 32, 127, 128, 255, 256, 511, 512, 4095, 4096, 1 << 28, GREATEST - 1, GREATEST
    };
    private static final int[] USUAL = {0, 1, 2, 3, 4, 5, 14, 15};

    private long seed = 88172645463325252L;

    public static void main(String[] args) {
        everyArgument("a new desk", x -> { });
        everyArgument("a busy desk", Looks::busy);
        everyArgument("a desk with no room", AnyCallTest::fill);
        new AnyCallTest().longRun(true);
        new AnyCallTest().longRun(false);
        Due.finish();
    }

    private static void fill(HandleDesk x) {
        for (int k = 0; k < 8; k++) {
            x.pipe(0);
        }
        for (int i = 0; i < 16; i++) {
            x.open(14, 2, i, 3);
        }
        for (int process = 1; process < 14; process++) {
            x.copy(process, process % 2 == 0 ? 0 : 14);
        }
        for (int i = 0; i < 512; i++) {
            x.put(0, 1, i);
        }
        for (int i = 0; i < 128; i++) {
            x.type(4);
        }
        for (int i = 0; i < 4097; i++) {
            x.show(i);
        }
    }

    /** Each call with each argument, on one desk for each name: what came before stays in it. */
    private static void everyArgument(String told, Consumer<HandleDesk> before) {
        for (int name = 0; name < 18; name++) {
            HandleDesk x = new HandleDesk();
            before.accept(x);
            for (int a : ARGUMENTS) {
                for (int b : ARGUMENTS) {
                    for (int c : ARGUMENTS) {
                        call(told, x, name, a, b, c);
                    }
                }
            }
        }
    }

    /**
     * Far past the 512th call: the answers are free there, but they stay answers. Only where nothing
     * is closed do pipes stay long enough to become full and go round.
     */
    private void longRun(boolean closing) {
        HandleDesk x = new HandleDesk();
        for (int i = 0; i < LONG_RUN; i++) {
            int name = next(18);
            boolean closes = name == CLOSE || name == CLOSE_ALL;
            call("call " + i, x, closes && !closing ? PUT : name, argument(), argument(), argument());
        }
    }

    private int next(int bound) {
        seed ^= seed << 13;
        seed ^= seed >>> 7;
        seed ^= seed << 17;
        return (int) ((seed >>> 20) % bound);
    }

    private int argument() {
        return next(6) == 0 ? ARGUMENTS[next(ARGUMENTS.length)] : USUAL[next(USUAL.length)];
    }

    private static void call(String told, HandleDesk x, int name, int a, int b, int c) {
        String thrown = "";
        try {
            fileCall(x, name, a, b, c);
            otherCall(x, name, a, b, c);
        } catch (RuntimeException e) {
            thrown = " threw " + e;
        }
        Due.due(told + ", call " + name + " of (" + a + ", " + b + ", " + c + ")" + thrown, thrown.isEmpty(), true);
    }

    private static void fileCall(HandleDesk x, int name, int a, int b, int c) {
        switch (name) {
            case 0 -> {
                within("open", x.open(a, b, c, 3), -1, 15);
                within("open", x.open(a, 2, c, b), -1, 15);
                within("open", x.open(2, a, b, c), -1, 15);
            }
            case 1 -> within("again", x.again(a, b), -1, 15);
            case CLOSE -> x.close(a, b);
            case CLOSE_ALL -> within("closeAll", x.closeAll(a), -1, 16);
            case 4 -> x.left(a);
            case 5 -> within("copy", x.copy(a, b), -1, 16);
            case 6 -> x.about(a, b, c);
            case 7 -> x.move(a, b, c);
            default -> { }
        }
    }

    private static void otherCall(HandleDesk x, int name, int a, int b, int c) {
        switch (name) {
            case 8 -> within("pipe", x.pipe(a), -1, 255);
            case PUT -> within("put", x.put(a, b, c), -3, 0);
            case 10 -> within("take", x.take(a, b), -4, 255);
            case 11 -> within("ends", x.ends(a, b), -1, 512);
            case 12 -> x.type(a);
            case 13 -> within("read", x.read(a > b), -4, 255);
            case 14 -> within("waiting", x.waiting(a), -1, 128);
            case 15 -> x.show(a);
            case 16 -> within("shown", x.shown(a), -1, 255);
            case 17 -> within("count", x.count(), 0, GREATEST);
            default -> { }
        }
    }

    private static void within(String call, int got, int least, int greatest) {
        Due.due(call + " answered " + got + ", which it never does", got >= least && got <= greatest, true);
    }
}
