/** A test for each boundary that the promises 1 to 8 name; what they refuse is in RefusedTest. */
public final class WandsAndChildrenTest {
    public static void main(String[] args) {
        sentences();
        Check.end("WandsAndChildrenTest");
    }

    static void sentences() {
        newObject();
        addWand();
        addChild();
        give();
        giveTakesNothing();
        setFall();
        wish();
        wishCounts();
        forgive();
        forgiveKeeps();
        pass();
        passAcross();
    }

    private static void sentence(String promise, String words, String tells, Runnable test) {
        Check.sentence(promise, words, tells, test);
    }

    private static void newObject() {
        sentence("1", "without wands", "none", () ->
                Check.due("wands()", new FairyDust().wands(), 0));
        sentence("1", "without children", "none", () ->
                Check.due("children()", new FairyDust().children(), 0));
        sentence("1", "at the hour 0", "of the day 0", () -> {
            Check.due("hour()", new FairyDust().hour(), 0);
            Check.due("day()", new FairyDust().day(), 0);
        });
        sentence("1", "Creates a fairy", "each has wands, children, wishes and hours of its own", () -> {
            FairyDust x = new FairyDust();
            FairyDust other = Fairies.some();
            Check.due("granted() of the other", other.granted() > 0, true);
            Check.due("its picture", Fairies.picture(x), Fairies.picture(new FairyDust()));
        });
    }

    private static void addWand() {
        added("room is not 1 to 60", "1 is room", 1, 0);
        added("room is not 1 to 60", "60 is room", 60, 0);
        added("falls is not 0 to 9", "0 are falls", 20, 0);
        added("falls is not 0 to 9", "9 are falls", 20, 9);
        added("falls is not 0 to 9", "more falls than room", 1, 9);
        sentence("2", "Returns its number", "of each of 4 alike wands", () -> {
            FairyDust x = new FairyDust();
            for (int number = 0; number < 4; number++) {
                Check.due("addWand(5, 5)", x.addWand(5, 5), number);
            }
        });
        sentence("2", "if there are 4", "with 3 there is one more", () -> {
            FairyDust x = Fairies.many(3, 0);
            Check.due("addWand(60, 9)", x.addWand(60, 9), 3);
            Check.due("dustIn(3)", x.dustIn(3), 60);
        });
        sentence("2", "Returns its number", "refused calls take none", () -> {
            FairyDust x = Fairies.many(1, 0);
            Check.badArgument(x, "addWand(0, 0)", () -> x.addWand(0, 0));
            Check.badArgument(x, "addWand(1, 10)", () -> x.addWand(1, 10));
            Check.due("addWand(1, 0)", x.addWand(1, 0), 1);
        });
    }

    private static void added(String words, String tells, int room, int falls) {
        sentence("2", words, tells, () -> {
            FairyDust x = new FairyDust();
            Check.due("addWand(" + room + ", " + falls + ")", x.addWand(room, falls), 0);
            Check.due("dustIn(0)", x.dustIn(0), room);
            Check.due("setFall(0, 0)", x.setFall(0, 0), falls);
        });
    }

    private static void addChild() {
        sentence("3", "if there is no such wand", "the wand 0 is one", () -> {
            FairyDust x = Fairies.many(1, 0);
            Check.due("addChild(0, 29)", x.addChild(0, 29), 0);
            Check.due("wandOf(0)", x.wandOf(0), 0);
        });
        sentence("3", "if there is no such wand", "the last of 4 is one", () -> {
            FairyDust x = Fairies.many(4, 0);
            Check.due("addChild(3, 29)", x.addChild(3, 29), 0);
            Check.due("wandOf(0)", x.wandOf(0), 3);
        });
        sentence("3", "if birthday is not 0 to 29", "0 is a birthday", () ->
                Check.due("addChild(0, 0)", Fairies.many(1, 0).addChild(0, 0), 0));
        sentence("3", "if birthday is not 0 to 29", "29 is a birthday", () ->
                Check.due("addChild(0, 29)", Fairies.many(1, 0).addChild(0, 29), 0));
        sentence("3", "Returns its number", "of each of 10 alike children", () -> {
            FairyDust x = Fairies.many(1, 0);
            for (int number = 0; number < 10; number++) {
                Check.due("addChild(0, 29)", x.addChild(0, 29), number);
            }
        });
        sentence("3", "if there are 10", "with 9 there is one more", () -> {
            FairyDust x = Fairies.many(4, 9);
            Check.due("addChild(3, 0)", x.addChild(3, 0), 9);
            Check.due("burstOf(9)", x.burstOf(9), 12);
            Check.due("wandOf(9)", x.wandOf(9), 3);
        });
        sentence("3", "Returns its number", "refused calls take none", () -> {
            FairyDust x = Fairies.many(1, 1);
            Check.outOfBounds(x, "addChild(1, 0)", () -> x.addChild(1, 0));
            Check.badArgument(x, "addChild(0, 30)", () -> x.addChild(0, 30));
            Check.due("addChild(0, 0)", x.addChild(0, 0), 1);
        });
    }

    private static void give() {
        sentence("4", "Returns the one before", "the one that it was added with", () -> {
            FairyDust x = Fairies.many(4, 0);
            x.addChild(3, 29);
            Check.due("give(0, 0)", x.give(0, 0), 3);
        });
        sentence("4", "Returns the one before", "the one that was given", () -> {
            FairyDust x = Fairies.many(4, 1);
            x.give(0, 2);
            Check.due("give(0, 1)", x.give(0, 1), 2);
        });
        sentence("4", "Returns the one before", "the same one", () -> {
            FairyDust x = Fairies.many(4, 1);
            Check.due("give(0, 0)", x.give(0, 0), 0);
            Check.due("wandOf(0)", x.wandOf(0), 0);
            Check.due("users(0)", x.users(0), 1);
        });
        sentence("4", "no such child or wand", "the last child and the last wand are such", () -> {
            FairyDust x = Fairies.many(4, 10);
            Check.due("give(9, 3)", x.give(9, 3), 0);
            Check.due("wandOf(9)", x.wandOf(9), 3);
            for (int child = 0; child < 9; child++) {
                Check.due("wandOf(" + child + ")", x.wandOf(child), 0);
            }
        });
        sentence("4", "the wand that it uses from now on", "a wish is of the new one", () -> {
            FairyDust x = Fairies.many(2, 1);
            x.give(0, 1);
            Check.due("wish(0, 10)", x.wish(0, 10), true);
            Check.due("dustIn(0)", x.dustIn(0), 10);
            Check.due("dustIn(1)", x.dustIn(1), 0);
        });
        sentence("4", "the wand that it uses from now on", "a full one behind an empty one", () -> {
            FairyDust x = Fairies.many(2, 1);
            x.wish(0, 10);
            Check.due("greatestWish(0)", x.greatestWish(0), 0);
            x.give(0, 1);
            Check.due("greatestWish(0) then", x.greatestWish(0), 10);
        });
    }

    private static void giveTakesNothing() {
        sentence("4", "Nothing is promised beyond", "burst, punishment and birthday stay", () -> {
            FairyDust x = Fairies.born(0, 5, 0);
            x.addWand(9, 0);
            x.wish(0, 10);
            Fairies.deny(x, 0, 3);
            x.give(0, 1);
            Check.due("burstOf(0)", x.burstOf(0), 2);
            Check.due("punishedFor(0)", x.punishedFor(0), 4);
            Check.due("nextPunishment(0)", x.nextPunishment(0), 8);
            Check.due("daysToBirthday(0)", x.daysToBirthday(0), 0);
        });
        sentence("4", "Nothing is promised beyond", "marks stay", () -> {
            FairyDust x = Fairies.many(2, 1);
            Fairies.deny(x, 0, 2);
            x.give(0, 1);
            Check.due("marksOf(0)", x.marksOf(0), 2);
        });
    }

    private static void setFall() {
        sentence("5", "falls is not 0 to 9", "0 are falls", () -> {
            FairyDust x = Fairies.left(0, 10, 9);
            Check.due("setFall(0, 0)", x.setFall(0, 0), 9);
            Check.due("pass(100)", x.pass(100), 0);
        });
        sentence("5", "falls is not 0 to 9", "9 are falls", () -> {
            FairyDust x = Fairies.left(0, 10, 0);
            Check.due("setFall(0, 9)", x.setFall(0, 9), 0);
            Check.due("pass(1)", x.pass(1), 9);
        });
        sentence("5", "Returns how many before", "those that were set", () -> {
            FairyDust x = Fairies.one(10, 1);
            x.setFall(0, 7);
            Check.due("setFall(0, 2)", x.setFall(0, 2), 7);
        });
        sentence("5", "Returns how many before", "just as many", () -> {
            FairyDust x = Fairies.one(10, 4);
            Check.due("setFall(0, 4)", x.setFall(0, 4), 4);
            Check.due("setFall(0, 4) again", x.setFall(0, 4), 4);
        });
        sentence("5", "Returns how many before", "for a full wand those that would fall", () -> {
            FairyDust x = Fairies.one(1, 9);
            x.pass(1);
            Check.due("setFall(0, 0)", x.setFall(0, 0), 9);
        });
        sentence("5", "if there is no such wand", "the last of 4 is one", () -> {
            FairyDust x = Fairies.many(4, 1);
            Check.due("setFall(3, 5)", x.setFall(3, 5), 0);
            Check.due("setFall(2, 5)", x.setFall(2, 5), 0);
        });
        sentence("5", "from now on", "the hours ahead of it stay as they were", () -> {
            FairyDust x = Fairies.left(0, 60, 2);
            x.pass(3);
            x.setFall(0, 5);
            Check.due("dustIn(0)", x.dustIn(0), 6);
            x.pass(2);
            Check.due("dustIn(0) 2 hours on", x.dustIn(0), 16);
        });
    }

    private static void wish() {
        sentence("6", "if size is not 1 to 20", "1 is a size", () ->
                Check.due("wish(0, 1)", Fairies.one(20, 0).wish(0, 1), true));
        sentence("6", "if size is not 1 to 20", "20 is a size", () ->
                Check.due("wish(0, 20)", Fairies.one(20, 0).wish(0, 20), true));
        sentence("6", "if there is no such child", "the last of 10 is one", () -> {
            FairyDust x = Fairies.many(1, 10);
            Check.due("wish(9, 11)", x.wish(9, 11), false);
            Check.due("marksOf(9)", x.marksOf(9), 1);
            Check.due("marksOf(8)", x.marksOf(8), 0);
        });
        sentence("6", "Returns whether it is granted", "the wand is empty", () ->
                Check.due("wish(0, 1)", Fairies.left(0, 20, 9).wish(0, 1), false));
        sentence("6", "Returns whether it is granted", "the last grain", () ->
                Check.due("wish(0, 1)", Fairies.left(1, 20, 9).wish(0, 1), true));
        sentence("6", "Returns whether it is granted", "the one that brings a punishment is not", () -> {
            FairyDust x = Fairies.one(10, 0);
            Fairies.deny(x, 0, 2);
            Check.due("wish(0, 11)", x.wish(0, 11), false);
            Check.due("punishedFor(0)", x.punishedFor(0), 4);
        });
        sentence("6", "A child makes a wish", "another one of the same wand finds what is left", () -> {
            FairyDust x = Fairies.many(1, 2);
            Check.due("wish(0, 7)", x.wish(0, 7), true);
            Check.due("wish(1, 4)", x.wish(1, 4), false);
            Check.due("wish(1, 3)", x.wish(1, 3), true);
        });
        sentence("6", "A child makes a wish", "another one's burst is not for it", () -> {
            FairyDust x = Fairies.one(5, 0);
            x.addChild(0, 0);
            Check.due("wish(0, 6)", x.wish(0, 6), false);
            Check.due("burstOf(1)", x.burstOf(1), 12);
        });
    }

    private static void wishCounts() {
        sentence("6", "A method that throws changes nothing", "a refused wish is not counted", () -> {
            FairyDust x = Fairies.one(5, 0);
            Check.badArgument(x, "wish(0, 0)", () -> x.wish(0, 0));
            Check.badArgument(x, "wish(0, 21)", () -> x.wish(0, 21));
            Check.outOfBounds(x, "wish(1, 1)", () -> x.wish(1, 1));
            Check.due("granted()", x.granted(), 0);
            Check.due("denied()", x.denied(), 0);
            Check.due("marksOf(0)", x.marksOf(0), 0);
        });
    }

    private static void forgive() {
        sentence("7", "Returns for how many hours it was punished", "not at all", () ->
                Check.due("forgive(0)", Fairies.one(10, 0).forgive(0), 0));
        sentence("7", "Returns for how many hours it was punished", "2 marks are none", () -> {
            FairyDust x = Fairies.one(10, 0);
            Fairies.deny(x, 0, 2);
            Check.due("forgive(0)", x.forgive(0), 0);
        });
        sentence("7", "Returns for how many hours it was punished", "48", () -> {
            FairyDust x = Fairies.one(10, 0);
            Fairies.deny(x, 0, 60);
            Check.due("forgive(0)", x.forgive(0), 48);
        });
        sentence("7", "Returns for how many hours it was punished", "1, in the last hour", () -> {
            FairyDust x = Fairies.one(10, 0);
            Fairies.deny(x, 0, 3);
            x.pass(3);
            Check.due("forgive(0)", x.forgive(0), 1);
        });
        sentence("7", "it is not punished", "it can wish at once", () -> {
            FairyDust x = Fairies.one(10, 0);
            Fairies.deny(x, 0, 3);
            x.forgive(0);
            Check.due("punishedFor(0)", x.punishedFor(0), 0);
            Check.due("wish(0, 10)", x.wish(0, 10), true);
        });
        sentence("7", "Returns for how many hours it was punished", "forgiven again", () -> {
            FairyDust x = Fairies.one(10, 0);
            Fairies.deny(x, 0, 3);
            x.forgive(0);
            Check.due("forgive(0) again", x.forgive(0), 0);
        });
        sentence("7", "and has no marks", "it had 2", () -> {
            FairyDust x = Fairies.one(10, 0);
            Fairies.deny(x, 0, 2);
            x.forgive(0);
            Check.due("marksOf(0)", x.marksOf(0), 0);
            Fairies.deny(x, 0, 2);
            Check.due("punishedFor(0) behind 2 more", x.punishedFor(0), 0);
        });
    }

    private static void forgiveKeeps() {
        sentence("7", "how long it is punished the next time stays", "4, with marks alone", () -> {
            FairyDust x = Fairies.one(10, 0);
            Fairies.deny(x, 0, 2);
            x.forgive(0);
            Check.due("nextPunishment(0)", x.nextPunishment(0), 4);
        });
        sentence("7", "how long it is punished the next time stays", "8, behind the first time", () -> {
            FairyDust x = Fairies.one(10, 0);
            Fairies.deny(x, 0, 3);
            x.forgive(0);
            Fairies.deny(x, 0, 3);
            Check.due("punishedFor(0)", x.punishedFor(0), 8);
        });
        sentence("7", "if there is no such child", "the last of 10 is one, and the only one forgiven", () -> {
            FairyDust x = Fairies.many(1, 10);
            Fairies.deny(x, 8, 3);
            Fairies.deny(x, 9, 4);
            Check.due("forgive(9)", x.forgive(9), 5);
            Check.due("punishedFor(9)", x.punishedFor(9), 0);
            Check.due("punishedFor(8)", x.punishedFor(8), 4);
        });
        sentence("7", "Nothing is promised beyond", "burst, dust and counts stay", () -> {
            FairyDust x = Fairies.born(0, 9, 0);
            x.addChild(0, 29);
            x.wish(1, 4);
            x.wish(0, 10);
            Fairies.deny(x, 0, 3);
            x.forgive(0);
            Check.due("burstOf(0)", x.burstOf(0), 2);
            Check.due("dustIn(0)", x.dustIn(0), 5);
            Check.due("granted()", x.granted(), 2);
            Check.due("denied()", x.denied(), 3);
        });
    }

    private static void pass() {
        sentence("8", "if hours is not 1 to 100", "1 is right", () -> {
            FairyDust x = Fairies.left(0, 60, 1);
            Check.due("pass(1)", x.pass(1), 1);
            Check.due("hour()", x.hour(), 1);
        });
        sentence("8", "if hours is not 1 to 100", "100 are right", () -> {
            FairyDust x = Fairies.left(0, 60, 1);
            Check.due("pass(100)", x.pass(100), 60);
            Check.due("hour()", x.hour(), 100);
        });
        sentence("8", "Returns how many grains fall in them", "without wands none", () ->
                Check.due("pass(100)", new FairyDust().pass(100), 0));
        sentence("8", "Returns how many grains fall in them", "into a full wand none", () ->
                Check.due("pass(100)", Fairies.one(60, 9).pass(100), 0));
        sentence("8", "Returns how many grains fall in them", "as far as there is room", () ->
                Check.due("pass(3)", Fairies.left(0, 20, 9).pass(3), 20));
        sentence("8", "Returns how many grains fall in them", "just full in the last hour", () ->
                Check.due("pass(2)", Fairies.left(0, 18, 9).pass(2), 18));
        sentence("8", "Returns how many grains fall in them", "an hour ahead of being full", () ->
                Check.due("pass(2)", Fairies.left(0, 19, 9).pass(2), 18));
        sentence("8", "Returns how many grains fall in them", "those of earlier calls are not counted", () -> {
            FairyDust x = Fairies.left(0, 60, 9);
            x.pass(2);
            Check.due("pass(3)", x.pass(3), 27);
        });
        sentence("8", "all wands together", "4 of them, one is full", () -> {
            FairyDust x = new FairyDust();
            for (int wand = 0; wand < 4; wand++) {
                x.addWand(20, wand + 1);
                x.addChild(wand, 29);
            }
            x.wish(0, 20);
            x.wish(1, 20);
            x.wish(3, 20);
            Check.due("pass(1)", x.pass(1), 1 + 2 + 4);
            Check.due("pass(5), the last one is full then", x.pass(5), 5 + 10 + 16);
        });
    }

    private static void passAcross() {
        sentence("8", "Lets hours go by", "several at once are as one by one", () -> {
            FairyDust x = Fairies.some();
            FairyDust y = Fairies.some();
            int fallen = 0;
            for (int i = 0; i < 45; i++) {
                fallen += y.pass(1);
            }
            Check.due("pass(45)", x.pass(45), fallen);
            Check.due("its picture", Fairies.picture(x), Fairies.picture(y));
        });
        sentence("8", "Lets hours go by", "a punishment ends in the midst of them", () -> {
            FairyDust x = Fairies.one(10, 0);
            Fairies.deny(x, 0, 3);
            x.pass(5);
            Check.due("punishedFor(0)", x.punishedFor(0), 0);
            Check.due("wish(0, 10)", x.wish(0, 10), true);
        });
        sentence("8", "Lets hours go by", "the last of them begins a birthday", () -> {
            FairyDust x = Fairies.born(4, 10, 0);
            x.pass(96);
            Check.due("burstOf(0)", x.burstOf(0), 12);
        });
    }
}
