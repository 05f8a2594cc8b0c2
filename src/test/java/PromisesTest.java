/** A part for each promise of the document; the answers are counted by hand from its words. */
public final class PromisesTest {
    private static final int LOW = Fairies.LOW;
    private static final int HIGH = Fairies.HIGH;

    public static void main(String[] args) {
        newObject();
        addWand();
        addChild();
        give();
        setFall();
        wish();
        punishment();
        forgive();
        pass();
        hourAndDay();
        counts();
        dustIn();
        users();
        wandOf();
        burstOf();
        punishedFor();
        marksOf();
        nextPunishment();
        daysToBirthday();
        greatestWish();
        hoursUntil();
        grantedIn();
        fallWanted();
        hoursUntilFull();
        bestChild();
        share();
        digest();
        Check.end("PromisesTest");
    }

    // Promise 1
    private static void newObject() {
        FairyDust x = new FairyDust();
        Check.due("1 hour()", x.hour(), 0);
        Check.due("1 day()", x.day(), 0);
        Check.due("1 wands()", x.wands(), 0);
        Check.due("1 children()", x.children(), 0);
        Check.due("1 granted()", x.granted(), 0);
        Check.due("1 denied()", x.denied(), 0);
        Check.due("1 punished()", x.punished(), 0);
        Check.due("1 share()", x.share(), 0.0);
        Check.due("1 pass(1)", x.pass(1), 0);
        FairyDust other = new FairyDust();
        other.addWand(1, 0);
        Check.due("1 wands() beside another object", x.wands(), 0);
    }

    // Promise 2
    private static void addWand() {
        FairyDust x = new FairyDust();
        for (int room : new int[] {0, 61, -1, LOW, HIGH}) {
            Check.badArgument(x, "2 addWand(" + room + ", 0)", () -> x.addWand(room, 0));
        }
        for (int falls : new int[] {-1, 10, LOW, HIGH}) {
            Check.badArgument(x, "2 addWand(1, " + falls + ")", () -> x.addWand(1, falls));
        }
        Check.due("2 addWand(1, 0)", x.addWand(1, 0), 0);
        Check.due("2 addWand(60, 9)", x.addWand(60, 9), 1);
        Check.due("2 addWand(20, 3)", x.addWand(20, 3), 2);
        Check.due("2 addWand(20, 3) again", x.addWand(20, 3), 3);
        Check.due("2 dustIn(0)", x.dustIn(0), 1);
        Check.due("2 dustIn(1)", x.dustIn(1), 60);
        Check.due("2 dustIn(3)", x.dustIn(3), 20);
        Check.badState(x, "2 the fifth addWand", () -> x.addWand(1, 0));
        Check.badArgument(x, "2 the fifth addWand with no room", () -> x.addWand(0, 0));
        Check.badArgument(x, "2 the fifth addWand with 10 falls", () -> x.addWand(1, 10));
        Check.due("2 wands()", x.wands(), 4);
    }

    // Promise 3
    private static void addChild() {
        FairyDust x = new FairyDust();
        Check.outOfBounds(x, "3 addChild(0, 0) without wands", () -> x.addChild(0, 0));
        x.addWand(10, 0);
        for (int wand : new int[] {-1, 1, LOW, HIGH}) {
            Check.outOfBounds(x, "3 addChild(" + wand + ", 0)", () -> x.addChild(wand, 0));
            Check.outOfBounds(x, "3 addChild(" + wand + ", 30)", () -> x.addChild(wand, 30));
        }
        for (int birthday : new int[] {-1, 30, LOW, HIGH}) {
            Check.badArgument(x, "3 addChild(0, " + birthday + ")", () -> x.addChild(0, birthday));
        }
        for (int i = 0; i < 10; i++) {
            Check.due("3 addChild(0, " + i + " * 3)", x.addChild(0, i * 3), i);
        }
        Check.badState(x, "3 the 11th addChild", () -> x.addChild(0, 29));
        Check.badArgument(x, "3 the 11th addChild, wrong birthday", () -> x.addChild(0, 30));
        Check.outOfBounds(x, "3 the 11th addChild, no wand", () -> x.addChild(1, 30));
        Check.due("3 children()", x.children(), 10);
        Check.due("3 marksOf(9)", x.marksOf(9), 0);
        Check.due("3 punishedFor(9)", x.punishedFor(9), 0);
        Check.due("3 burstOf(0), added on its birthday", x.burstOf(0), 12);
        Check.due("3 burstOf(1), added on another day", x.burstOf(1), 0);
        addChildLater();
    }

    private static void addChildLater() {
        FairyDust x = Fairies.one(10, 0);
        x.pass(47);
        x.addChild(0, 1);
        x.addChild(0, 0);
        Check.due("3 burstOf(), added in the last hour of its birthday", x.burstOf(1), 12);
        Check.due("3 burstOf(), added the day behind its birthday", x.burstOf(2), 0);
        x.pass(1);
        Check.due("3 burstOf() as the next day begins", x.burstOf(1), 0);
    }

    // Promise 4
    private static void give() {
        FairyDust x = Fairies.one(10, 0);
        Check.outOfBounds(x, "4 give(0, 1) with one wand", () -> x.give(0, 1));
        x.addWand(20, 0);
        x.addWand(30, 0);
        for (int number : new int[] {-1, 3, LOW, HIGH}) {
            Check.outOfBounds(x, "4 give(" + number + ", 0)", () -> x.give(number, 0));
            Check.outOfBounds(x, "4 give(0, " + number + ")", () -> x.give(0, number));
        }
        Check.outOfBounds(x, "4 give(1, 0)", () -> x.give(1, 0));
        Check.due("4 give(0, 2)", x.give(0, 2), 0);
        Check.due("4 give(0, 2) again", x.give(0, 2), 2);
        Check.due("4 give(0, 1)", x.give(0, 1), 2);
        Check.due("4 wandOf(0)", x.wandOf(0), 1);
        Check.due("4 wish(0, 15) of the new wand", x.wish(0, 15), true);
        Check.due("4 dustIn(0)", x.dustIn(0), 10);
        Check.due("4 dustIn(1)", x.dustIn(1), 5);
    }

    // Promise 5
    private static void setFall() {
        FairyDust x = Fairies.one(40, 2);
        x.addWand(40, 5);
        for (int wand : new int[] {-1, 2, LOW, HIGH}) {
            Check.outOfBounds(x, "5 setFall(" + wand + ", 0)", () -> x.setFall(wand, 0));
            Check.outOfBounds(x, "5 setFall(" + wand + ", 10)", () -> x.setFall(wand, 10));
        }
        for (int falls : new int[] {-1, 10, LOW, HIGH}) {
            Check.badArgument(x, "5 setFall(0, " + falls + ")", () -> x.setFall(0, falls));
        }
        x.wish(0, 20);
        x.wish(0, 20);
        Check.due("5 setFall(0, 9)", x.setFall(0, 9), 2);
        Check.due("5 pass(2) with 9", x.pass(2), 18);
        Check.due("5 setFall(0, 0)", x.setFall(0, 0), 9);
        Check.due("5 pass(2) with 0", x.pass(2), 0);
        Check.due("5 setFall(0, 1)", x.setFall(0, 1), 0);
        Check.due("5 setFall(1, 5)", x.setFall(1, 5), 5);
    }

    // Promise 6
    private static void wish() {
        FairyDust x = new FairyDust();
        x.addWand(15, 0);
        x.addChild(0, 0);
        x.addChild(0, 29);
        for (int child : new int[] {-1, 2, LOW, HIGH}) {
            Check.outOfBounds(x, "6 wish(" + child + ", 1)", () -> x.wish(child, 1));
            Check.outOfBounds(x, "6 wish(" + child + ", 0)", () -> x.wish(child, 0));
        }
        for (int size : new int[] {0, 21, LOW, HIGH}) {
            Check.badArgument(x, "6 wish(0, " + size + ")", () -> x.wish(0, size));
        }
        Check.due("6 wish(0, 5) of the burst alone", x.wish(0, 5), true);
        Check.due("6 burstOf(0)", x.burstOf(0), 7);
        Check.due("6 dustIn(0)", x.dustIn(0), 15);
        Check.due("6 wish(0, 20) of both", x.wish(0, 20), true);
        Check.due("6 burstOf(0) behind both", x.burstOf(0), 0);
        Check.due("6 dustIn(0) behind both", x.dustIn(0), 2);
        Check.due("6 wish(1, 3)", x.wish(1, 3), false);
        Check.due("6 dustIn(0) behind a denied wish", x.dustIn(0), 2);
        Check.due("6 marksOf(1)", x.marksOf(1), 1);
        Check.due("6 wish(1, 1)", x.wish(1, 1), true);
        Check.due("6 marksOf(1) behind a granted wish", x.marksOf(1), 0);
        Check.due("6 wish(1, 1), the last grain", x.wish(1, 1), true);
        Check.due("6 marksOf(1) stays at 0", x.marksOf(1), 0);
        Check.due("6 granted()", x.granted(), 4);
        Check.due("6 denied()", x.denied(), 1);
    }

    // Promise 6, what the terms say of punishment
    private static void punishment() {
        FairyDust x = Fairies.one(19, 0);
        Fairies.deny(x, 0, 2);
        Check.due("6 punishedFor(0) with 2 marks", x.punishedFor(0), 0);
        Fairies.deny(x, 0, 1);
        Check.due("6 punishedFor(0) with 3 marks", x.punishedFor(0), 4);
        Check.due("6 marksOf(0) with 3 marks", x.marksOf(0), 0);
        Check.due("6 wish(0, 1) of a punished child", x.wish(0, 1), false);
        Check.due("6 punishedFor(0) behind it", x.punishedFor(0), 5);
        Check.due("6 marksOf(0) behind it", x.marksOf(0), 0);
        Check.due("6 dustIn(0) behind it", x.dustIn(0), 19);
        Fairies.deny(x, 0, 42);
        Check.due("6 punishedFor(0) behind 43", x.punishedFor(0), 47);
        Fairies.deny(x, 0, 1);
        Check.due("6 punishedFor(0) behind 44", x.punishedFor(0), 48);
        Fairies.deny(x, 0, 1);
        Check.due("6 punishedFor(0) behind 45", x.punishedFor(0), 48);
        x.pass(47);
        Check.due("6 wish(0, 1) in the last punished hour", x.wish(0, 1), false);
        x.pass(2);
        Check.due("6 wish(0, 1) behind the punishment", x.wish(0, 1), true);
        int[] hours = {8, 16, 32, 32, 32};
        for (int due : hours) {
            Fairies.deny(x, 0, 3);
            Check.due("6 punishedFor(0) the next time", x.punishedFor(0), due);
            x.forgive(0);
        }
    }

    // Promise 7
    private static void forgive() {
        FairyDust x = Fairies.one(5, 0);
        for (int child : new int[] {-1, 1, LOW, HIGH}) {
            Check.outOfBounds(x, "7 forgive(" + child + ")", () -> x.forgive(child));
        }
        Check.due("7 forgive(0) without punishment", x.forgive(0), 0);
        Fairies.deny(x, 0, 2);
        Check.due("7 forgive(0) with 2 marks", x.forgive(0), 0);
        Check.due("7 marksOf(0)", x.marksOf(0), 0);
        Fairies.deny(x, 0, 4);
        Check.due("7 forgive(0) of a punished child", x.forgive(0), 5);
        Check.due("7 punishedFor(0)", x.punishedFor(0), 0);
        Check.due("7 nextPunishment(0) stays", x.nextPunishment(0), 8);
        Check.due("7 wish(0, 5)", x.wish(0, 5), true);
        Check.due("7 denied() stays", x.denied(), 6);
    }

    // Promise 8
    private static void pass() {
        FairyDust x = Fairies.one(20, 3);
        x.addWand(60, 9);
        for (int hours : new int[] {0, -1, 101, LOW, HIGH}) {
            Check.badArgument(x, "8 pass(" + hours + ")", () -> x.pass(hours));
        }
        Check.due("8 pass(1) with full wands", x.pass(1), 0);
        x.wish(0, 20);
        x.give(0, 1);
        x.wish(0, 20);
        Check.due("8 pass(1) into both", x.pass(1), 12);
        Check.due("8 pass(2), 2 * 3 and 9 + 2", x.pass(2), 17);
        Check.due("8 dustIn(1)", x.dustIn(1), 60);
        Check.due("8 pass(100) as far as there is room", x.pass(100), 11);
        Check.due("8 dustIn(0)", x.dustIn(0), 20);
        Check.due("8 hour()", x.hour(), 104);
    }

    // Promises 9 and 10
    private static void hourAndDay() {
        FairyDust x = new FairyDust();
        x.pass(23);
        Check.due("9 hour()", x.hour(), 23);
        Check.due("10 day()", x.day(), 0);
        x.pass(1);
        Check.due("9 hour()", x.hour(), 24);
        Check.due("10 day()", x.day(), 1);
        for (int i = 0; i < 8; i++) {
            x.pass(100);
        }
        Check.due("9 hour()", x.hour(), 824);
        Check.due("10 day() goes beyond 30", x.day(), 34);
    }

    // Promises 11 to 15
    private static void counts() {
        FairyDust x = Fairies.one(10, 0);
        x.addWand(1, 0);
        x.addChild(0, 29);
        x.addChild(1, 29);
        Check.due("11 wands()", x.wands(), 2);
        Check.due("12 children()", x.children(), 3);
        x.wish(2, 1);
        x.wish(1, 1);
        Check.due("13 granted()", x.granted(), 2);
        Fairies.deny(x, 1, 3);
        Check.due("15 punished()", x.punished(), 1);
        Fairies.deny(x, 2, 5);
        Check.due("13 granted() behind denied ones", x.granted(), 2);
        Check.due("14 denied() counts those of the punished too", x.denied(), 8);
        Check.due("15 punished()", x.punished(), 2);
        x.pass(4);
        Check.due("15 punished() as one ends", x.punished(), 1);
        x.forgive(2);
        Check.due("15 punished() behind forgive", x.punished(), 0);
    }

    // Promise 16
    private static void dustIn() {
        FairyDust x = Fairies.one(30, 4);
        for (int wand : new int[] {-1, 1, LOW, HIGH}) {
            Check.outOfBounds(x, "16 dustIn(" + wand + ")", () -> x.dustIn(wand));
        }
        Check.due("16 dustIn(0) at first", x.dustIn(0), 30);
        x.wish(0, 11);
        Check.due("16 dustIn(0) behind a wish", x.dustIn(0), 19);
        x.pass(2);
        Check.due("16 dustIn(0) behind 2 hours", x.dustIn(0), 27);
        x.pass(1);
        Check.due("16 dustIn(0) when full", x.dustIn(0), 30);
    }

    // Promise 17
    private static void users() {
        FairyDust x = Fairies.one(5, 0);
        x.addWand(5, 0);
        for (int wand : new int[] {-1, 2, LOW, HIGH}) {
            Check.outOfBounds(x, "17 users(" + wand + ")", () -> x.users(wand));
        }
        Check.due("17 users(0)", x.users(0), 1);
        Check.due("17 users(1)", x.users(1), 0);
        x.addChild(1, 0);
        x.addChild(1, 0);
        x.give(0, 1);
        Check.due("17 users(0) behind give", x.users(0), 0);
        Check.due("17 users(1) behind give", x.users(1), 3);
    }

    // Promise 18
    private static void wandOf() {
        FairyDust x = Fairies.one(5, 0);
        x.addWand(5, 0);
        x.addChild(1, 0);
        for (int child : new int[] {-1, 2, LOW, HIGH}) {
            Check.outOfBounds(x, "18 wandOf(" + child + ")", () -> x.wandOf(child));
        }
        Check.due("18 wandOf(0)", x.wandOf(0), 0);
        Check.due("18 wandOf(1)", x.wandOf(1), 1);
        x.hoursUntil(1, 6);
        Check.due("18 wandOf(1) behind a question", x.wandOf(1), 1);
    }

    // Promise 19
    private static void burstOf() {
        FairyDust x = new FairyDust();
        x.addWand(60, 0);
        x.addChild(0, 1);
        for (int child : new int[] {-1, 1, LOW, HIGH}) {
            Check.outOfBounds(x, "19 burstOf(" + child + ")", () -> x.burstOf(child));
        }
        Check.due("19 burstOf(0) ahead", x.burstOf(0), 0);
        x.pass(23);
        Check.due("19 burstOf(0) the hour ahead", x.burstOf(0), 0);
        x.pass(1);
        Check.due("19 burstOf(0) on the birthday", x.burstOf(0), 12);
        x.wish(0, 5);
        x.pass(23);
        Check.due("19 burstOf(0) on its last hour", x.burstOf(0), 7);
        x.pass(1);
        Check.due("19 burstOf(0) the next day", x.burstOf(0), 0);
        Fairies.passDays(x, 29);
        Check.due("19 burstOf(0) 30 days later", x.burstOf(0), 12);
    }

    // Promise 20
    private static void punishedFor() {
        FairyDust x = Fairies.one(5, 0);
        for (int child : new int[] {-1, 1, LOW, HIGH}) {
            Check.outOfBounds(x, "20 punishedFor(" + child + ")", () -> x.punishedFor(child));
        }
        Check.due("20 punishedFor(0)", x.punishedFor(0), 0);
        x.pass(1);
        Check.due("20 punishedFor(0) stays 0", x.punishedFor(0), 0);
        Fairies.deny(x, 0, 3);
        x.pass(1);
        Check.due("20 punishedFor(0) behind 1 hour", x.punishedFor(0), 3);
        x.pass(3);
        Check.due("20 punishedFor(0) behind 4", x.punishedFor(0), 0);
        x.pass(100);
        Check.due("20 punishedFor(0) behind 104", x.punishedFor(0), 0);
    }

    // Promise 21
    private static void marksOf() {
        FairyDust x = Fairies.one(5, 0);
        for (int child : new int[] {-1, 1, LOW, HIGH}) {
            Check.outOfBounds(x, "21 marksOf(" + child + ")", () -> x.marksOf(child));
        }
        Fairies.deny(x, 0, 2);
        x.pass(100);
        Check.due("21 marksOf(0) stay with time", x.marksOf(0), 2);
        x.wish(0, 1);
        Check.due("21 marksOf(0) behind a granted wish", x.marksOf(0), 1);
        Fairies.deny(x, 0, 1);
        Check.due("21 marksOf(0) again", x.marksOf(0), 2);
        x.grantedIn(0, 20, 5);
        Check.due("21 marksOf(0) behind a question", x.marksOf(0), 2);
    }

    // Promise 22
    private static void nextPunishment() {
        FairyDust x = Fairies.one(5, 0);
        for (int child : new int[] {-1, 1, LOW, HIGH}) {
            Check.outOfBounds(x, "22 nextPunishment(" + child + ")", () -> x.nextPunishment(child));
        }
        int[] hours = {4, 8, 16, 32, 32, 32};
        for (int due : hours) {
            Check.due("22 nextPunishment(0)", x.nextPunishment(0), due);
            Fairies.deny(x, 0, 3);
            x.pass(50);
        }
    }

    // Promise 23
    private static void daysToBirthday() {
        FairyDust x = new FairyDust();
        x.addWand(1, 0);
        x.addChild(0, 0);
        x.addChild(0, 29);
        x.addChild(0, 1);
        for (int child : new int[] {-1, 3, LOW, HIGH}) {
            Check.outOfBounds(x, "23 daysToBirthday(" + child + ")", () -> x.daysToBirthday(child));
        }
        Check.due("23 daysToBirthday(0) today", x.daysToBirthday(0), 0);
        Check.due("23 daysToBirthday(1)", x.daysToBirthday(1), 29);
        x.pass(23);
        Check.due("23 daysToBirthday(0) in the last hour of it", x.daysToBirthday(0), 0);
        Check.due("23 daysToBirthday(2) the day ahead", x.daysToBirthday(2), 1);
        x.pass(1);
        Check.due("23 daysToBirthday(0) the day behind", x.daysToBirthday(0), 29);
        Check.due("23 daysToBirthday(2) today", x.daysToBirthday(2), 0);
        Fairies.passDays(x, 30);
        Check.due("23 daysToBirthday(1) 31 days on", x.daysToBirthday(1), 28);
    }

    // Promise 24
    private static void greatestWish() {
        FairyDust x = new FairyDust();
        x.addWand(15, 0);
        x.addChild(0, 0);
        x.addChild(0, 29);
        for (int child : new int[] {-1, 2, LOW, HIGH}) {
            Check.outOfBounds(x, "24 greatestWish(" + child + ")", () -> x.greatestWish(child));
        }
        Check.due("24 greatestWish(0), 20 at the most", x.greatestWish(0), 20);
        Check.due("24 greatestWish(1)", x.greatestWish(1), 15);
        x.wish(0, 10);
        Check.due("24 greatestWish(0), 2 and 15", x.greatestWish(0), 17);
        x.wish(1, 15);
        Check.due("24 greatestWish(0), 2 and 0", x.greatestWish(0), 2);
        Check.due("24 greatestWish(1) without dust", x.greatestWish(1), 0);
        Fairies.deny(x, 0, 3);
        Check.due("24 greatestWish(0) of a punished child", x.greatestWish(0), 0);
        Check.due("24 burstOf(0) is there all the same", x.burstOf(0), 2);
    }

    // Promise 25
    private static void hoursUntil() {
        FairyDust x = Fairies.one(20, 1);
        for (int child : new int[] {-1, 1, LOW, HIGH}) {
            Check.outOfBounds(x, "25 hoursUntil(" + child + ", 1)", () -> x.hoursUntil(child, 1));
            Check.outOfBounds(x, "25 hoursUntil(" + child + ", 0)", () -> x.hoursUntil(child, 0));
        }
        for (int size : new int[] {0, 21, LOW, HIGH}) {
            Check.badArgument(x, "25 hoursUntil(0, " + size + ")", () -> x.hoursUntil(0, size));
        }
        Check.due("25 hoursUntil(0, 20) now", x.hoursUntil(0, 20), 0);
        x.wish(0, 18);
        Check.due("25 hoursUntil(0, 2) now", x.hoursUntil(0, 2), 0);
        Check.due("25 hoursUntil(0, 3)", x.hoursUntil(0, 3), 1);
        Check.due("25 hoursUntil(0, 20)", x.hoursUntil(0, 20), 18);
        Fairies.deny(x, 0, 3);
        Check.due("25 hoursUntil(0, 1) of a punished child", x.hoursUntil(0, 1), 4);
        Check.due("25 hoursUntil(0, 10) of a punished child", x.hoursUntil(0, 10), 8);
        Check.due("25 dustIn(0) is not changed", x.dustIn(0), 2);
        Check.due("25 hour() is not changed", x.hour(), 0);
        x.setFall(0, 0);
        Check.due("25 hoursUntil(0, 3) without falls", x.hoursUntil(0, 3), -1);
        hoursUntilBirthday();
        hoursUntilRoom();
    }

    private static void hoursUntilBirthday() {
        FairyDust x = new FairyDust();
        x.addWand(5, 0);
        x.addChild(0, 5);
        x.pass(19);
        Check.due("25 hoursUntil(0, 17) 101 hours ahead", x.hoursUntil(0, 17), -1);
        x.pass(1);
        Check.due("25 hoursUntil(0, 17) 100 hours ahead", x.hoursUntil(0, 17), 100);
        Check.due("25 hoursUntil(0, 18)", x.hoursUntil(0, 18), -1);
        x.pass(100);
        Check.due("25 hoursUntil(0, 17) on the birthday", x.hoursUntil(0, 17), 0);
        Check.due("25 wish(0, 17)", x.wish(0, 17), true);
        Check.due("25 hoursUntil(0, 1)", x.hoursUntil(0, 1), -1);
    }

    private static void hoursUntilRoom() {
        FairyDust x = Fairies.one(10, 9);
        x.wish(0, 10);
        Check.due("25 hoursUntil(0, 10), 9 and 1", x.hoursUntil(0, 10), 2);
        Check.due("25 hoursUntil(0, 11) beyond the room", x.hoursUntil(0, 11), -1);
    }

    // Promise 26
    private static void grantedIn() {
        FairyDust x = Fairies.one(10, 1);
        for (int child : new int[] {-1, 1, LOW, HIGH}) {
            Check.outOfBounds(x, "26 grantedIn(" + child + ", 1, 1)", () -> x.grantedIn(child, 1, 1));
            Check.outOfBounds(x, "26 grantedIn(" + child + ", 0, 0)", () -> x.grantedIn(child, 0, 0));
        }
        for (int wrong : new int[] {0, -1, 61, LOW, HIGH}) {
            Check.badArgument(x, "26 grantedIn(0, " + wrong + ", 1)", () -> x.grantedIn(0, wrong, 1));
            Check.badArgument(x, "26 grantedIn(0, 1, " + wrong + ")", () -> x.grantedIn(0, 1, wrong));
        }
        Check.badArgument(x, "26 grantedIn(0, 21, 1)", () -> x.grantedIn(0, 21, 1));
        Check.due("26 grantedIn(0, 10, 1)", x.grantedIn(0, 10, 1), 1);
        Check.due("26 grantedIn(0, 11, 60)", x.grantedIn(0, 11, 60), 0);
        Check.due("26 grantedIn(0, 1, 60)", x.grantedIn(0, 1, 60), 60);
        // The dust at wishes of 4: 10, 7, 4, then 1 and 2 and 3 are too little, and the
        // punishment of 4 hours begins; each wish in it makes it as long as it was.
        Check.due("26 grantedIn(0, 4, 3)", x.grantedIn(0, 4, 3), 3);
        Check.due("26 grantedIn(0, 4, 60)", x.grantedIn(0, 4, 60), 3);
        // The dust at wishes of 3: 10, 8, 6, 4, 2 (a mark), 3 (none again), 1, 2 (two marks),
        // 3 (one again), 1, 2 (three: punished, and each wish makes it longer).
        Check.due("26 grantedIn(0, 3, 4)", x.grantedIn(0, 3, 4), 4);
        Check.due("26 grantedIn(0, 3, 8)", x.grantedIn(0, 3, 8), 5);
        Check.due("26 grantedIn(0, 3, 9)", x.grantedIn(0, 3, 9), 6);
        Check.due("26 grantedIn(0, 3, 60)", x.grantedIn(0, 3, 60), 6);
        Check.due("26 granted() is not changed", x.granted(), 0);
        Check.due("26 denied() is not changed", x.denied(), 0);
        Check.due("26 dustIn(0) is not changed", x.dustIn(0), 10);
        Check.due("26 marksOf(0) is not changed", x.marksOf(0), 0);
        Check.due("26 hour() is not changed", x.hour(), 0);
        grantedInBirthday();
    }

    private static void grantedInBirthday() {
        FairyDust x = new FairyDust();
        x.addWand(1, 0);
        x.addChild(0, 1);
        x.pass(22);
        // At the hours 22 and 23 there is 1 grain, from the hour 24 on there are 12 more.
        Check.due("26 grantedIn(0, 6, 2)", x.grantedIn(0, 6, 2), 0);
        Check.due("26 grantedIn(0, 6, 3)", x.grantedIn(0, 6, 3), 1);
        Check.due("26 grantedIn(0, 6, 4)", x.grantedIn(0, 6, 4), 2);
        Check.due("26 grantedIn(0, 6, 60)", x.grantedIn(0, 6, 60), 2);
        Check.due("26 grantedIn(0, 1, 4)", x.grantedIn(0, 1, 4), 3);
        x.pass(25);
        Check.due("26 grantedIn(0, 1, 1), the burst's last hour", x.grantedIn(0, 1, 1), 1);
        Check.due("26 grantedIn(0, 1, 5), the burst ends", x.grantedIn(0, 1, 5), 2);
    }

    // Promise 27
    private static void fallWanted() {
        FairyDust x = Fairies.one(60, 9);
        for (int child : new int[] {-1, 1, LOW, HIGH}) {
            Check.outOfBounds(x, "27 fallWanted(" + child + ", 1)", () -> x.fallWanted(child, 1));
            Check.outOfBounds(x, "27 fallWanted(" + child + ", 0)", () -> x.fallWanted(child, 0));
        }
        for (int size : new int[] {0, 21, LOW, HIGH}) {
            Check.badArgument(x, "27 fallWanted(0, " + size + ")", () -> x.fallWanted(0, size));
        }
        // 24 wishes take 24 * size; 60 grains are there, and 23 hours bring the others.
        Check.due("27 fallWanted(0, 2)", x.fallWanted(0, 2), 0);
        Check.due("27 fallWanted(0, 3)", x.fallWanted(0, 3), 1);
        Check.due("27 fallWanted(0, 10)", x.fallWanted(0, 10), 8);
        Check.due("27 fallWanted(0, 20)", x.fallWanted(0, 20), 19);
        Check.due("27 setFall(0, 9) is not changed", x.setFall(0, 9), 9);
        Check.due("27 pass(1) is not changed", x.pass(1), 0);
        Check.due("27 fallWanted(0, 1) of 24 grains", Fairies.one(24, 0).fallWanted(0, 1), 0);
        Check.due("27 fallWanted(0, 1) of 23 grains", Fairies.one(23, 0).fallWanted(0, 1), 1);
        fallWantedOfLittle();
        fallWantedOnBirthday();
    }

    private static void fallWantedOfLittle() {
        FairyDust x = Fairies.one(20, 0);
        Check.due("27 fallWanted(0, 20) as fast as taken", x.fallWanted(0, 20), 20);
        x.wish(0, 1);
        Check.due("27 fallWanted(0, 20) with the first denied", x.fallWanted(0, 20), -1);
        Check.due("27 fallWanted(0, 19)", x.fallWanted(0, 19), 19);
        FairyDust narrow = Fairies.one(10, 0);
        Check.due("27 fallWanted(0, 11) beyond the room", narrow.fallWanted(0, 11), -1);
        Fairies.deny(narrow, 0, 3);
        Check.due("27 fallWanted(0, 1) of a punished child", narrow.fallWanted(0, 1), -1);
    }

    private static void fallWantedOnBirthday() {
        FairyDust x = new FairyDust();
        x.addWand(12, 0);
        x.addChild(0, 0);
        x.addChild(0, 1);
        Check.due("27 fallWanted(0, 1) of burst and dust", x.fallWanted(0, 1), 0);
        Check.due("27 fallWanted(1, 1) of dust", x.fallWanted(1, 1), 1);
        x.pass(12);
        Check.due("27 fallWanted(0, 1) with a lost burst", x.fallWanted(0, 1), 0);
        Check.due("27 fallWanted(1, 1) with the burst to come", x.fallWanted(1, 1), 0);
    }

    // Promise 28
    private static void hoursUntilFull() {
        FairyDust x = Fairies.one(60, 1);
        for (int wand : new int[] {-1, 1, LOW, HIGH}) {
            Check.outOfBounds(x, "28 hoursUntilFull(" + wand + ")", () -> x.hoursUntilFull(wand));
        }
        Check.due("28 hoursUntilFull(0) now", x.hoursUntilFull(0), 0);
        x.wish(0, 20);
        x.wish(0, 20);
        x.wish(0, 20);
        Check.due("28 hoursUntilFull(0) of 60 by 1", x.hoursUntilFull(0), 60);
        x.setFall(0, 9);
        Check.due("28 hoursUntilFull(0) of 60 by 9", x.hoursUntilFull(0), 7);
        x.setFall(0, 6);
        Check.due("28 hoursUntilFull(0) of 60 by 6", x.hoursUntilFull(0), 10);
        x.setFall(0, 0);
        Check.due("28 hoursUntilFull(0) by 0", x.hoursUntilFull(0), -1);
        x.setFall(0, 6);
        Check.due("28 dustIn(0) is not changed", x.dustIn(0), 0);
        x.pass(10);
        Check.due("28 hoursUntilFull(0) then", x.hoursUntilFull(0), 0);
    }

    // Promise 29
    private static void bestChild() {
        FairyDust x = new FairyDust();
        for (int size : new int[] {0, 21, LOW, HIGH}) {
            Check.badArgument(x, "29 bestChild(" + size + ")", () -> x.bestChild(size));
        }
        Check.due("29 bestChild(1) without children", x.bestChild(1), -1);
        x.addWand(10, 0);
        x.addWand(12, 0);
        x.addChild(0, 29);
        x.addChild(0, 29);
        Check.due("29 bestChild(10), the smallest number", x.bestChild(10), 0);
        Check.due("29 bestChild(11), to none", x.bestChild(11), -1);
        x.addChild(1, 29);
        Check.due("29 bestChild(1), the most dust", x.bestChild(1), 2);
        Check.due("29 bestChild(12), nothing left", x.bestChild(12), 2);
        x.addChild(0, 0);
        // The child 3 leaves 10 of 10 with its burst, the child 2 leaves 12 - size.
        Check.due("29 bestChild(1) with a burst, 11 to 10", x.bestChild(1), 2);
        Check.due("29 bestChild(2) with a burst, 10 to 10", x.bestChild(2), 2);
        Check.due("29 bestChild(3) with a burst, 9 to 10", x.bestChild(3), 3);
        Check.due("29 bestChild(20) with a burst", x.bestChild(20), 3);
        Check.due("29 burstOf(3) is not changed", x.burstOf(3), 12);
        Check.due("29 dustIn(0) is not changed", x.dustIn(0), 10);
        x.wish(2, 13);
        x.wish(2, 13);
        x.wish(2, 13);
        Check.due("29 bestChild(1), one is punished", x.bestChild(1), 3);
    }

    // Promise 30
    private static void share() {
        FairyDust x = Fairies.one(2, 0);
        Check.due("30 share() without wishes", x.share(), 0.0);
        x.wish(0, 1);
        Check.due("30 share() of 1", x.share(), 1.0);
        x.wish(0, 2);
        Check.due("30 share() of 2", x.share(), 0.5);
        x.wish(0, 2);
        Check.due("30 share() of 3", x.share(), 1.0 / 3.0);
        x.wish(0, 1);
        Check.due("30 share() of 4", x.share(), 0.5);
        FairyDust none = Fairies.one(2, 0);
        none.wish(0, 3);
        Check.due("30 share() with none granted", none.share(), 0.0);
    }

    // Promise 31
    private static void digest() {
        FairyDust x = new FairyDust();
        Check.due("31 digest() at first", x.digest(), sum(0, 0, 0, 0, 0, 0, 0, -1));
        x.addWand(10, 1);
        x.addChild(0, 29);
        x.addChild(0, 0);
        x.wish(0, 7);
        Fairies.deny(x, 0, 1);
        x.pass(25);
        x.wish(1, 6);
        // The dust is 10 - 7, then full, then 4 with the wish of 6.
        long due = sum(25, 1, 1, 2, 2, 1, 0, -1,
                4, 2, 6,
                0, 0, 0, 1, 4, 28, 4, 6, 1, 3,
                0, 0, 0, 0, 4, 29, 4, 6, 1, 3);
        Check.due("31 grantedIn(0, 4, 12)", x.grantedIn(0, 4, 12), 1);
        Check.due("31 fallWanted(0, 3)", x.fallWanted(0, 3), 3);
        Check.due("31 digest()", x.digest(), due);
        Check.due("31 digest() again", x.digest(), due);
        // 50 grains are 12 wishes of 4, but 10 of 5; 24 wishes of 3 take 72, of 4 take 96.
        Check.due("31 digest() of 50 grains", Fairies.one(50, 0).digest(), sum(0, 0, 1, 1, 0, 0, 0, 0,
                50, 1, 0,
                0, 0, 0, 0, 4, 29, 20, 0, 12, 1));
    }

    private static long sum(int... numbers) {
        long d = 2267;
        for (int x : numbers) {
            d = d * 31 + x;
        }
        return d;
    }
}
