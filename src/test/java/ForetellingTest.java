import java.util.ArrayList;
import java.util.List;

/**
 * What the class says would be (promises 24 to 29) is made true by its own other calls: the
 * same calls are played again on a new object, and then what was foretold is done there.
 */
public final class ForetellingTest {
    private static long drawn;

    private final List<int[]> calls = new ArrayList<>();

    public static void main(String[] args) {
        for (int run = 0; run < 1500; run++) {
            drawn = run * 104729L + 5;
            new ForetellingTest().play(10 + draw(60));
        }
        Check.end("ForetellingTest");
    }

    private static int draw(int bound) {
        drawn = drawn * 6364136223846793005L + 1442695040888963407L;
        return (int) ((drawn >>> 33) % bound);
    }

    private void play(int length) {
        drawCalls(length);
        FairyDust x = again();
        long before = x.digest();
        for (int child = 0; child < x.children(); child++) {
            int size = 1 + draw(20);
            int hours = 1 + draw(60);
            Check.due("24 greatestWish(" + child + ")", x.greatestWish(child), foundGreatest(child));
            Check.due("25 hoursUntil(" + child + ", " + size + ")", x.hoursUntil(child, size), foundUntil(child, size));
            Check.due("26 grantedIn(" + child + ", " + size + ", " + hours + ")",
                    x.grantedIn(child, size, hours), countGranted(again(), child, size, hours));
            checkFallWanted(x, child, size);
        }
        for (int wand = 0; wand < x.wands(); wand++) {
            Check.due("28 hoursUntilFull(" + wand + ")", x.hoursUntilFull(wand), foundFull(wand));
        }
        for (int size = 1; size <= 20; size++) {
            Check.due("29 bestChild(" + size + ")", x.bestChild(size), foundBest(x.children(), size));
        }
        Check.due("digest() behind all questions", x.digest(), before);
    }

    private void drawCalls(int length) {
        int wands = 1 + draw(4);
        int children = 1 + draw(10);
        for (int i = 0; i < wands; i++) {
            calls.add(new int[] {0, 1 + draw(60), draw(10)});
        }
        for (int i = 0; i < children; i++) {
            calls.add(new int[] {1, draw(wands), draw(30)});
        }
        for (int i = 0; i < length; i++) {
            int kind = draw(20);
            int call = kind < 14 ? 4 : kind < 17 ? 6 : kind - 15;
            int first = call == 3 ? draw(wands) : call == 6 ? 1 + draw(draw(3) == 0 ? 100 : 4) : draw(children);
            int second = call == 2 ? draw(wands) : call == 3 ? draw(10) : 1 + draw(20);
            calls.add(new int[] {call, first, second});
        }
    }

    private FairyDust again() {
        FairyDust x = new FairyDust();
        for (int[] call : calls) {
            Model.ask(x, call[0], call[1], call[2], 0);
        }
        return x;
    }

    private int foundGreatest(int child) {
        for (int size = 20; size >= 1; size--) {
            if (again().wish(child, size)) {
                return size;
            }
        }
        return 0;
    }

    private int foundUntil(int child, int size) {
        FairyDust x = again();
        for (int hours = 0; hours <= 100; hours++) {
            if (x.greatestWish(child) >= size) {
                return hours;
            }
            x.pass(1);
        }
        return -1;
    }

    private static int countGranted(FairyDust x, int child, int size, int hours) {
        int before = x.granted();
        for (int i = 0; i < hours; i++) {
            x.wish(child, size);
            x.pass(1);
        }
        return x.granted() - before;
    }

    /** Only the falls up to 9 can be set; beyond them it must be that 9 do not do. */
    private void checkFallWanted(FairyDust x, int child, int size) {
        int least = 0;
        while (least <= 9 && !isEnough(child, size, least)) {
            least++;
        }
        int foretold = x.fallWanted(child, size);
        String what = "27 fallWanted(" + child + ", " + size + ")";
        if (least <= 9) {
            Check.due(what, foretold, least);
        } else {
            Check.holds(what + " is " + foretold, foretold == -1 || foretold > 9 && foretold <= 20);
        }
    }

    private boolean isEnough(int child, int size, int falls) {
        FairyDust tried = again();
        tried.setFall(tried.wandOf(child), falls);
        return countGranted(tried, child, size, 24) == 24;
    }

    private int foundFull(int wand) {
        FairyDust x = again();
        int room = calls.get(wand)[1];
        for (int hours = 0; hours <= 100; hours++) {
            if (x.dustIn(wand) == room) {
                return hours;
            }
            x.pass(1);
        }
        return -1;
    }

    private int foundBest(int children, int size) {
        int best = -1;
        int most = -1;
        for (int child = 0; child < children; child++) {
            FairyDust x = again();
            if (x.wish(child, size) && x.dustIn(x.wandOf(child)) > most) {
                best = child;
                most = x.dustIn(x.wandOf(child));
            }
        }
        return best;
    }
}
