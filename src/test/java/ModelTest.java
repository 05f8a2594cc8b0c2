/** Long runs of calls, drawn by a fixed rule: the class answers each as Model does. */
public final class ModelTest {
    private static final int[] WILD = {Integer.MIN_VALUE, -100, -1, 0, 1, 30, 61, 101, Integer.MAX_VALUE};
    private static final int CALLS = 30;
    private static final int DIGEST = 29;

    private static long drawn;

    public static void main(String[] args) {
        for (int run = 0; run < 2000; run++) {
            drawn = run * 7919L + 17;
            play(run, 20 + draw(300));
        }
        for (int run = 2000; run < 2020; run++) {
            drawn = run * 7919L + 17;
            play(run, 511);
        }
        Check.end("ModelTest");
    }

    private static int draw(int bound) {
        drawn = drawn * 6364136223846793005L + 1442695040888963407L;
        return (int) ((drawn >>> 33) % bound);
    }

    private static void play(int run, int calls) {
        FairyDust x = new FairyDust();
        Model model = new Model();
        boolean isDry = draw(2) == 0;
        for (int i = 0; i < calls; i++) {
            int call = drawCall();
            int a = drawFirst(call, isDry);
            int b = drawSecond(call, isDry);
            int n = draw(10) == 0 ? wild() : 1 + draw(60);
            compare(run, i, x, model, call, a, b, n);
        }
        compare(run, calls, x, model, DIGEST, 0, 0, 0);
    }

    private static void compare(int run, int i, FairyDust x, Model model, int call, int a, int b, int n) {
        Object want = Check.outcome(() -> model.ask(call, a, b, n));
        Object got = Check.outcome(() -> Model.ask(x, call, a, b, n));
        Check.due("run " + run + ", call " + i + ": " + call + "(" + a + ", " + b + ", " + n + ")", got, want);
    }

    private static int drawCall() {
        int kind = draw(10);
        if (kind < 5) {
            return 4;
        }
        return kind < 6 ? 6 : draw(draw(20) == 0 ? CALLS : DIGEST);
    }

    private static int drawFirst(int call, boolean isDry) {
        if (draw(25) == 0) {
            return wild();
        }
        switch (call) {
            case 0: return 1 + draw(isDry ? 20 : 60);
            case 1: case 3: case 14: case 15: case 26: return draw(4);
            case 6: return 1 + draw(draw(4) == 0 ? 100 : 5);
            case 27: return 1 + draw(20);
            default: return draw(draw(2) == 0 ? 2 : 10);
        }
    }

    private static int drawSecond(int call, boolean isDry) {
        if (draw(25) == 0) {
            return wild();
        }
        switch (call) {
            case 0: case 3: return draw(isDry ? 3 : 10);
            case 1: return draw(30);
            case 2: return draw(4);
            default: return 1 + draw(20);
        }
    }

    private static int wild() {
        return WILD[draw(WILD.length)];
    }
}
