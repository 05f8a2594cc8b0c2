/** The fairies that the tests begin with, and what is done with them again and again. */
final class Fairies {
    static final int LOW = Integer.MIN_VALUE;
    static final int HIGH = Integer.MAX_VALUE;

    private Fairies() {
    }

    /** One full wand, and one child (0) whose birthday is the day 29. */
    static FairyDust one(int room, int falls) {
        return born(29, room, falls);
    }

    /** One full wand, and one child (0) with that birthday; it is the hour 0. */
    static FairyDust born(int birthday, int room, int falls) {
        FairyDust x = new FairyDust();
        x.addWand(room, falls);
        x.addChild(0, birthday);
        return x;
    }

    /** One wand in which so many grains are left, and one child (0) without marks. */
    static FairyDust left(int dust, int room, int falls) {
        FairyDust x = one(room, falls);
        take(x, 0, room - dust);
        return x;
    }

    /** So many wands, 10 grains each, and so many children, who all use the wand 0. */
    static FairyDust many(int wands, int children) {
        FairyDust x = new FairyDust();
        for (int i = 0; i < wands; i++) {
            x.addWand(10, 0);
        }
        for (int i = 0; i < children; i++) {
            x.addChild(0, 29);
        }
        return x;
    }

    /** Something of everything: wands that are not full, marks, a burst, punished children. */
    static FairyDust some() {
        FairyDust x = new FairyDust();
        x.addWand(30, 2);
        x.addWand(8, 0);
        x.addChild(0, 0);
        x.addChild(1, 5);
        x.addChild(0, 29);
        x.addChild(0, 0);
        take(x, 0, 35);
        take(x, 1, 8);
        deny(x, 1, 3);
        x.pass(3);
        deny(x, 1, 2);
        deny(x, 2, 1);
        return x;
    }

    /** As many wands and children as there can be, on the day 1. */
    static FairyDust full() {
        FairyDust x = new FairyDust();
        x.addWand(60, 9);
        x.addWand(1, 1);
        x.addWand(20, 0);
        x.addWand(40, 3);
        for (int i = 0; i < 10; i++) {
            x.addChild(i % 4, i * 3 + 1);
        }
        x.pass(30);
        take(x, 0, 35);
        take(x, 2, 15);
        deny(x, 2, 1);
        deny(x, 5, 3);
        take(x, 7, 17);
        return x;
    }

    /** So many grains are taken by wishes that are all granted. */
    static void take(FairyDust x, int child, int grains) {
        for (int rest = grains; rest > 0; rest -= 20) {
            Check.due("a wish within the dust", x.wish(child, Math.min(20, rest)), true);
        }
    }

    static void deny(FairyDust x, int child, int times) {
        for (int i = 0; i < times; i++) {
            Check.due("a wish beyond the dust", x.wish(child, 20), false);
        }
    }

    /** A fairy without wands and children at that hour. */
    static FairyDust at(int hour) {
        return later(new FairyDust(), hour);
    }

    static FairyDust later(FairyDust x, int hours) {
        passHours(x, hours);
        return x;
    }

    /** Any number of hours, also of more than one call. */
    static void passHours(FairyDust x, int hours) {
        for (int rest = hours; rest > 0; rest -= 100) {
            x.pass(Math.min(100, rest));
        }
    }

    static void passDays(FairyDust x, int days) {
        passHours(x, days * 24);
    }

    /**
     * All that can be seen of a fairy, and what becomes of it in 100 hours, by some 200 calls:
     * two fairies with the same picture were used alike. What there is comes first, so that
     * the questions of what would be show in it if they change something.
     */
    static String picture(FairyDust x) {
        StringBuilder told = new StringBuilder();
        tellWhatThereIs(x, told);
        tellWhatWouldBe(x, told);
        tellWhatBecomes(x, told);
        return told.toString();
    }

    private static void tellWhatThereIs(FairyDust x, StringBuilder told) {
        tell(told, x.hour(), x.day(), x.wands(), x.children(), x.granted(), x.denied(), x.punished());
        for (int wand = 0; wand < x.wands(); wand++) {
            tell(told, x.dustIn(wand), x.users(wand));
        }
        for (int child = 0; child < x.children(); child++) {
            tell(told, x.wandOf(child), x.burstOf(child), x.punishedFor(child), x.marksOf(child),
                    x.nextPunishment(child), x.daysToBirthday(child));
        }
    }

    private static void tellWhatWouldBe(FairyDust x, StringBuilder told) {
        for (int child = 0; child < x.children(); child++) {
            tell(told, x.greatestWish(child), x.hoursUntil(child, 1), x.hoursUntil(child, 20),
                    x.grantedIn(child, 2, 60), x.fallWanted(child, 4));
        }
        for (int wand = 0; wand < x.wands(); wand++) {
            tell(told, x.hoursUntilFull(wand));
        }
        tell(told, x.bestChild(1), x.bestChild(5), x.bestChild(10), x.bestChild(20));
        tell(told, x.share(), x.digest());
    }

    /** What falls and how much room there is shows by what comes of it alone. */
    private static void tellWhatBecomes(FairyDust x, StringBuilder told) {
        for (int wand = 0; wand < x.wands(); wand++) {
            tell(told, x.setFall(wand, 9));
        }
        tell(told, x.pass(100));
        for (int wand = 0; wand < x.wands(); wand++) {
            tell(told, x.dustIn(wand));
        }
    }

    private static void tell(StringBuilder told, Object... answers) {
        for (Object answer : answers) {
            told.append(answer).append(' ');
        }
        told.append('/');
    }
}
