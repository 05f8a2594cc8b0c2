import java.util.Arrays;

/**
 * The document once more, written otherwise than the class: the whole state is one row of
 * numbers, and what would be is found by doing it on a copy of the whole fairy.
 */
final class Model {
    private static final int WANDS = 0;
    private static final int CHILDREN = 1;
    private static final int HOUR = 2;
    private static final int GRANTED = 3;
    private static final int DENIED = 4;
    private static final int WAND = 5;
    private static final int CHILD = WAND + 4 * 3;
    private static final int LENGTH = CHILD + 10 * 6;

    private final int[] s;

    Model() {
        s = new int[LENGTH];
    }

    private Model(Model other) {
        s = Arrays.copyOf(other.s, LENGTH);
    }

    // Of a wand: room 0, falls 1, dust 2. Of a child: wand 0, birthday 1, burst 2,
    // punished 3, marks 4, times punished 5.
    private int w(int wand, int what) {
        return WAND + wand * 3 + what;
    }

    private int c(int child, int what) {
        return CHILD + child * 6 + what;
    }

    private static void argument(boolean isRight) {
        if (!isRight) {
            throw new IllegalArgumentException();
        }
    }

    private void wand(int wand) {
        if (!(0 <= wand && wand < s[WANDS])) {
            throw new IndexOutOfBoundsException();
        }
    }

    private void child(int child) {
        if (!(0 <= child && child < s[CHILDREN])) {
            throw new IndexOutOfBoundsException();
        }
    }

    Object ask(int call, int a, int b, int n) {
        switch (call) {
            case 0: return addWand(a, b);
            case 1: return addChild(a, b);
            case 2: return give(a, b);
            case 3: return setFall(a, b);
            case 4: return wish(a, b);
            case 5: return forgive(a);
            case 6: return pass(a);
            case 7: return s[HOUR];
            case 8: return s[HOUR] / 24;
            case 9: return s[WANDS];
            case 10: return s[CHILDREN];
            case 11: return s[GRANTED];
            case 12: return s[DENIED];
            case 13: return punished();
            case 14: wand(a); return s[w(a, 2)];
            case 15: return users(a);
            case 16: child(a); return s[c(a, 0)];
            case 17: child(a); return s[c(a, 2)];
            case 18: child(a); return s[c(a, 3)];
            case 19: child(a); return s[c(a, 4)];
            case 20: child(a); return next(a);
            case 21: return daysToBirthday(a);
            case 22: return greatestWish(a);
            case 23: return hoursUntil(a, b);
            case 24: return grantedIn(a, b, n);
            case 25: return fallWanted(a, b);
            case 26: return hoursUntilFull(a);
            case 27: return bestChild(a);
            case 28: return s[GRANTED] + s[DENIED] == 0 ? 0.0 : s[GRANTED] * 1.0 / (s[GRANTED] + s[DENIED]);
            default: return digest();
        }
    }

    static Object ask(FairyDust x, int call, int a, int b, int n) {
        switch (call) {
            case 0: return x.addWand(a, b);
            case 1: return x.addChild(a, b);
            case 2: return x.give(a, b);
            case 3: return x.setFall(a, b);
            case 4: return x.wish(a, b);
            case 5: return x.forgive(a);
            case 6: return x.pass(a);
            case 7: return x.hour();
            case 8: return x.day();
            case 9: return x.wands();
            case 10: return x.children();
            case 11: return x.granted();
            case 12: return x.denied();
            case 13: return x.punished();
            case 14: return x.dustIn(a);
            case 15: return x.users(a);
            case 16: return x.wandOf(a);
            case 17: return x.burstOf(a);
            case 18: return x.punishedFor(a);
            case 19: return x.marksOf(a);
            case 20: return x.nextPunishment(a);
            case 21: return x.daysToBirthday(a);
            case 22: return x.greatestWish(a);
            case 23: return x.hoursUntil(a, b);
            case 24: return x.grantedIn(a, b, n);
            case 25: return x.fallWanted(a, b);
            case 26: return x.hoursUntilFull(a);
            case 27: return x.bestChild(a);
            case 28: return x.share();
            default: return x.digest();
        }
    }

    private int addWand(int room, int falls) {
        argument(1 <= room && room <= 60 && 0 <= falls && falls <= 9);
        if (s[WANDS] == 4) {
            throw new IllegalStateException();
        }
        s[w(s[WANDS], 0)] = room;
        s[w(s[WANDS], 1)] = falls;
        s[w(s[WANDS], 2)] = room;
        return s[WANDS]++;
    }

    private int addChild(int wand, int birthday) {
        wand(wand);
        argument(0 <= birthday && birthday <= 29);
        if (s[CHILDREN] == 10) {
            throw new IllegalStateException();
        }
        s[c(s[CHILDREN], 0)] = wand;
        s[c(s[CHILDREN], 1)] = birthday;
        s[c(s[CHILDREN], 2)] = s[HOUR] / 24 % 30 == birthday ? 12 : 0;
        return s[CHILDREN]++;
    }

    private int give(int child, int wand) {
        child(child);
        wand(wand);
        int before = s[c(child, 0)];
        s[c(child, 0)] = wand;
        return before;
    }

    private int setFall(int wand, int falls) {
        wand(wand);
        argument(0 <= falls && falls <= 9);
        int before = s[w(wand, 1)];
        s[w(wand, 1)] = falls;
        return before;
    }

    private int next(int child) {
        int[] hours = {4, 8, 16, 32};
        return hours[Math.min(3, s[c(child, 5)])];
    }

    private boolean wish(int child, int size) {
        child(child);
        argument(1 <= size && size <= 20);
        int dust = w(s[c(child, 0)], 2);
        if (s[c(child, 3)] > 0) {
            s[c(child, 3)] += s[c(child, 3)] < 48 ? 1 : 0;
        } else if (s[c(child, 2)] + s[dust] >= size) {
            for (int grain = 0; grain < size; grain++) {
                s[s[c(child, 2)] > 0 ? c(child, 2) : dust]--;
            }
            s[c(child, 4)] -= s[c(child, 4)] > 0 ? 1 : 0;
            s[GRANTED]++;
            return true;
        } else if (++s[c(child, 4)] == 3) {
            s[c(child, 3)] = next(child);
            s[c(child, 4)] = 0;
            s[c(child, 5)]++;
        }
        s[DENIED]++;
        return false;
    }

    private int forgive(int child) {
        child(child);
        int before = s[c(child, 3)];
        s[c(child, 3)] = 0;
        s[c(child, 4)] = 0;
        return before;
    }

    private int pass(int hours) {
        argument(1 <= hours && hours <= 100);
        int fallen = 0;
        for (int i = 0; i < hours; i++) {
            for (int wand = 0; wand < s[WANDS]; wand++) {
                for (int grain = 0; grain < s[w(wand, 1)] && s[w(wand, 2)] < s[w(wand, 0)]; grain++) {
                    s[w(wand, 2)]++;
                    fallen++;
                }
            }
            s[HOUR]++;
            for (int child = 0; child < s[CHILDREN]; child++) {
                s[c(child, 3)] -= s[c(child, 3)] > 0 ? 1 : 0;
                int sinceBirthday = s[HOUR] % (24 * 30) - 24 * s[c(child, 1)];
                if (sinceBirthday == 0) {
                    s[c(child, 2)] = 12;
                } else if (sinceBirthday == 24 || sinceBirthday == 24 - 24 * 30) {
                    s[c(child, 2)] = 0;
                }
            }
        }
        return fallen;
    }

    private int punished() {
        int count = 0;
        for (int child = 0; child < 10; child++) {
            count += s[c(child, 3)] > 0 ? 1 : 0;
        }
        return count;
    }

    private int users(int wand) {
        wand(wand);
        int count = 0;
        for (int child = 0; child < s[CHILDREN]; child++) {
            count += s[c(child, 0)] == wand ? 1 : 0;
        }
        return count;
    }

    private int daysToBirthday(int child) {
        child(child);
        int days = 0;
        while ((s[HOUR] / 24 + days) % 30 != s[c(child, 1)]) {
            days++;
        }
        return days;
    }

    private int greatestWish(int child) {
        child(child);
        for (int size = 20; size >= 1; size--) {
            if (new Model(this).wish(child, size)) {
                return size;
            }
        }
        return 0;
    }

    private int hoursUntil(int child, int size) {
        child(child);
        argument(1 <= size && size <= 20);
        for (int hours = 0; hours <= 100; hours++) {
            Model later = new Model(this);
            if (hours > 0) {
                later.pass(hours);
            }
            if (later.wish(child, size)) {
                return hours;
            }
        }
        return -1;
    }

    private int grantedIn(int child, int size, int hours) {
        child(child);
        argument(1 <= size && size <= 20);
        argument(1 <= hours && hours <= 60);
        Model tried = new Model(this);
        tried.wish(child, size);
        for (int i = 1; i < hours; i++) {
            tried.pass(1);
            tried.wish(child, size);
        }
        return tried.s[GRANTED] - s[GRANTED];
    }

    private int fallWanted(int child, int size) {
        child(child);
        argument(1 <= size && size <= 20);
        for (int falls = 0; falls <= 20; falls++) {
            Model tried = new Model(this);
            tried.s[w(s[c(child, 0)], 1)] = falls;
            if (tried.grantedIn(child, size, 24) == 24) {
                return falls;
            }
        }
        return -1;
    }

    private int hoursUntilFull(int wand) {
        wand(wand);
        Model later = new Model(this);
        for (int hours = 0; hours <= 100; hours++) {
            if (later.s[w(wand, 2)] == later.s[w(wand, 0)]) {
                return hours;
            }
            later.pass(1);
        }
        return -1;
    }

    private int bestChild(int size) {
        argument(1 <= size && size <= 20);
        int best = -1;
        int most = -1;
        for (int child = s[CHILDREN] - 1; child >= 0; child--) {
            Model tried = new Model(this);
            if (tried.wish(child, size) && tried.s[w(s[c(child, 0)], 2)] >= most) {
                best = child;
                most = tried.s[w(s[c(child, 0)], 2)];
            }
        }
        return best;
    }

    private long digest() {
        long d = 2267;
        for (int call : new int[] {7, 8, 9, 10, 11, 12, 13}) {
            d = d * 31 + (int) ask(call, 0, 0, 0);
        }
        d = d * 31 + bestChild(5);
        for (int wand = 0; wand < s[WANDS]; wand++) {
            for (int call : new int[] {14, 15, 26}) {
                d = d * 31 + (int) ask(call, wand, 0, 0);
            }
        }
        for (int child = 0; child < s[CHILDREN]; child++) {
            for (int call : new int[] {16, 17, 18, 19, 20, 21, 22}) {
                d = d * 31 + (int) ask(call, child, 0, 0);
            }
            d = d * 31 + hoursUntil(child, 10);
            d = d * 31 + grantedIn(child, 4, 12);
            d = d * 31 + fallWanted(child, 3);
        }
        return d;
    }
}
