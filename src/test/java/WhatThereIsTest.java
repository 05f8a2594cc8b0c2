/** A test for each boundary that the promises 9 to 23 name; what they refuse is in RefusedTest. */
public final class WhatThereIsTest {
    public static void main(String[] args) {
        sentences();
        Check.end("WhatThereIsTest");
    }

    static void sentences() {
        hour();
        day();
        wands();
        children();
        granted();
        denied();
        punished();
        dustIn();
        users();
        wandOf();
        burstOf();
        punishedFor();
        marksOf();
        nextPunishment();
        daysToBirthday();
    }

    private static void sentence(String promise, String words, String tells, Runnable test) {
        Check.sentence(promise, words, tells, test);
    }

    private static void hour() {
        sentence("9", "Returns the hour", "it does not begin anew with the day", () ->
                Check.due("hour()", Fairies.at(24).hour(), 24));
        sentence("9", "Returns the hour", "it does not begin anew behind 30 days", () ->
                Check.due("hour()", Fairies.at(721).hour(), 721));
        sentence("9", "Returns the hour", "a refused call lets none go by", () -> {
            FairyDust x = Fairies.at(7);
            Check.badArgument(x, "pass(0)", () -> x.pass(0));
            Check.badArgument(x, "pass(101)", () -> x.pass(101));
            Check.due("hour()", x.hour(), 7);
        });
        sentence("9", "Returns the hour", "wishes take no time", () -> {
            FairyDust x = Fairies.one(20, 0);
            x.wish(0, 20);
            x.wish(0, 20);
            Check.due("hour()", x.hour(), 0);
        });
    }

    private static void day() {
        sentence("10", "Returns the day", "the first one, to its last hour", () -> {
            Check.due("day() at 0", Fairies.at(0).day(), 0);
            Check.due("day() at 23", Fairies.at(23).day(), 0);
        });
        sentence("10", "Returns the day", "the second one, from its first hour", () ->
                Check.due("day() at 24", Fairies.at(24).day(), 1));
        sentence("10", "Returns the day", "it does not begin anew behind 30 days", () -> {
            Check.due("day() at 719", Fairies.at(719).day(), 29);
            Check.due("day() at 720", Fairies.at(720).day(), 30);
            Check.due("day() at 744", Fairies.at(744).day(), 31);
        });
    }

    private static void wands() {
        sentence("11", "Returns how many wands there are", "0", () ->
                Check.due("wands()", new FairyDust().wands(), 0));
        sentence("11", "Returns how many wands there are", "1 and 4", () -> {
            Check.due("wands()", Fairies.many(1, 0).wands(), 1);
            Check.due("wands()", Fairies.many(4, 0).wands(), 4);
        });
        sentence("11", "Returns how many wands there are", "children are not counted", () ->
                Check.due("wands()", Fairies.many(2, 10).wands(), 2));
    }

    private static void children() {
        sentence("12", "Returns how many children there are", "0, with wands", () ->
                Check.due("children()", Fairies.many(4, 0).children(), 0));
        sentence("12", "Returns how many children there are", "1 and 10", () -> {
            Check.due("children()", Fairies.many(1, 1).children(), 1);
            Check.due("children()", Fairies.many(1, 10).children(), 10);
        });
    }

    private static void granted() {
        sentence("13", "Returns how many wishes were granted", "none, of a new object", () ->
                Check.due("granted()", new FairyDust().granted(), 0));
        sentence("13", "Returns how many wishes were granted", "none, with one denied", () -> {
            FairyDust x = Fairies.one(5, 0);
            x.wish(0, 6);
            Check.due("granted()", x.granted(), 0);
        });
        sentence("13", "Returns how many wishes were granted", "wishes, not grains", () -> {
            FairyDust x = Fairies.one(20, 0);
            x.wish(0, 20);
            Check.due("granted()", x.granted(), 1);
        });
        sentence("13", "Returns how many wishes were granted", "those of the burst alone too", () -> {
            FairyDust x = Fairies.born(0, 5, 0);
            x.wish(0, 12);
            Check.due("granted()", x.granted(), 1);
        });
        sentence("13", "Returns how many wishes were granted", "of all children, also behind hours", () -> {
            FairyDust x = Fairies.many(2, 10);
            x.wish(0, 1);
            x.pass(100);
            x.wish(9, 1);
            x.wish(0, 1);
            Check.due("granted()", x.granted(), 3);
        });
    }

    private static void denied() {
        sentence("14", "Returns how many were not", "none, of a new object", () ->
                Check.due("denied()", new FairyDust().denied(), 0));
        sentence("14", "Returns how many were not", "none, with one granted", () -> {
            FairyDust x = Fairies.one(5, 0);
            x.wish(0, 5);
            Check.due("denied()", x.denied(), 0);
        });
        sentence("14", "Returns how many were not", "the third, which brings the punishment, too", () -> {
            FairyDust x = Fairies.one(5, 0);
            Fairies.deny(x, 0, 3);
            Check.due("denied()", x.denied(), 3);
        });
        sentence("14", "Returns how many were not", "those of a punished child too", () -> {
            FairyDust x = Fairies.one(5, 0);
            Fairies.deny(x, 0, 3);
            x.wish(0, 1);
            Check.due("denied()", x.denied(), 4);
        });
        sentence("14", "Returns how many were not", "those that make 48 hours no longer too", () -> {
            FairyDust x = Fairies.one(5, 0);
            Fairies.deny(x, 0, 70);
            Check.due("denied()", x.denied(), 70);
        });
        sentence("14", "Returns how many were not", "of all children, also behind forgiving", () -> {
            FairyDust x = Fairies.many(1, 10);
            Fairies.deny(x, 0, 2);
            Fairies.deny(x, 9, 1);
            x.forgive(0);
            Check.due("denied()", x.denied(), 3);
        });
    }

    private static void punished() {
        sentence("15", "Returns how many children are punished", "none, with 2 marks each", () -> {
            FairyDust x = Fairies.many(1, 10);
            for (int child = 0; child < 10; child++) {
                Fairies.deny(x, child, 2);
            }
            Check.due("punished()", x.punished(), 0);
        });
        sentence("15", "Returns how many children are punished", "all 10", () -> {
            FairyDust x = Fairies.many(1, 10);
            for (int child = 0; child < 10; child++) {
                Fairies.deny(x, child, 3);
            }
            Check.due("punished()", x.punished(), 10);
        });
        sentence("15", "Returns how many children are punished", "in the last hour still, then not", () -> {
            FairyDust x = Fairies.one(5, 0);
            Fairies.deny(x, 0, 3);
            x.pass(3);
            Check.due("punished() in the last hour", x.punished(), 1);
            x.pass(1);
            Check.due("punished() then", x.punished(), 0);
        });
        sentence("15", "Returns how many children are punished", "children, not hours or times", () -> {
            FairyDust x = Fairies.many(1, 2);
            Fairies.deny(x, 1, 20);
            Check.due("punished()", x.punished(), 1);
        });
        sentence("15", "Returns how many children are punished", "not those who are forgiven", () -> {
            FairyDust x = Fairies.many(1, 2);
            Fairies.deny(x, 0, 3);
            Fairies.deny(x, 1, 3);
            x.forgive(0);
            Check.due("punished()", x.punished(), 1);
        });
    }

    private static void dustIn() {
        sentence("16", "Returns how many grains are in it", "none", () ->
                Check.due("dustIn(0)", Fairies.left(0, 60, 0).dustIn(0), 0));
        sentence("16", "Returns how many grains are in it", "60", () ->
                Check.due("dustIn(0)", Fairies.one(60, 0).dustIn(0), 60));
        sentence("16", "Returns how many grains are in it", "bursts are not counted", () ->
                Check.due("dustIn(0)", Fairies.born(0, 5, 0).dustIn(0), 5));
        sentence("16", "if there is no such wand", "the last of 4 is one", () -> {
            FairyDust x = Fairies.many(3, 0);
            x.addWand(37, 0);
            Check.due("dustIn(3)", x.dustIn(3), 37);
        });
    }

    private static void users() {
        sentence("17", "Returns how many children use it", "none, without children", () ->
                Check.due("users(0)", Fairies.many(1, 0).users(0), 0));
        sentence("17", "Returns how many children use it", "none, all use another one", () ->
                Check.due("users(1)", Fairies.many(2, 10).users(1), 0));
        sentence("17", "Returns how many children use it", "all 10", () ->
                Check.due("users(0)", Fairies.many(1, 10).users(0), 10));
        sentence("17", "Returns how many children use it", "behind give one less here, one more there", () -> {
            FairyDust x = Fairies.many(4, 10);
            x.give(9, 3);
            Check.due("users(0)", x.users(0), 9);
            Check.due("users(3)", x.users(3), 1);
        });
        sentence("17", "Returns how many children use it", "behind give of the same one as many", () -> {
            FairyDust x = Fairies.many(1, 2);
            x.give(1, 0);
            Check.due("users(0)", x.users(0), 2);
        });
        sentence("17", "Returns how many children use it", "the punished ones too", () -> {
            FairyDust x = Fairies.many(1, 2);
            Fairies.deny(x, 0, 3);
            Check.due("users(0)", x.users(0), 2);
        });
    }

    private static void wandOf() {
        sentence("18", "Returns the wand that it uses", "the first and the last of 4", () -> {
            FairyDust x = Fairies.many(4, 0);
            x.addChild(0, 29);
            x.addChild(3, 29);
            Check.due("wandOf(0)", x.wandOf(0), 0);
            Check.due("wandOf(1)", x.wandOf(1), 3);
        });
        sentence("18", "Returns the wand that it uses", "behind give", () -> {
            FairyDust x = Fairies.many(4, 10);
            x.give(9, 2);
            Check.due("wandOf(9)", x.wandOf(9), 2);
            Check.due("wandOf(0)", x.wandOf(0), 0);
        });
        sentence("18", "Returns the wand that it uses", "behind a refused give", () -> {
            FairyDust x = Fairies.many(2, 1);
            x.give(0, 1);
            Check.outOfBounds(x, "give(0, 2)", () -> x.give(0, 2));
            Check.due("wandOf(0)", x.wandOf(0), 1);
        });
    }

    private static void burstOf() {
        sentence("19", "Returns the grains of its burst", "0 and 12", () -> {
            FairyDust x = Fairies.many(1, 1);
            x.addChild(0, 0);
            Check.due("burstOf(0)", x.burstOf(0), 0);
            Check.due("burstOf(1)", x.burstOf(1), 12);
        });
        sentence("19", "Returns the grains of its burst", "the last one", () -> {
            FairyDust x = Fairies.born(0, 5, 0);
            x.wish(0, 11);
            Check.due("burstOf(0)", x.burstOf(0), 1);
        });
        sentence("19", "Returns the grains of its burst", "of a punished child too", () -> {
            FairyDust x = Fairies.born(0, 5, 0);
            x.wish(0, 10);
            Fairies.deny(x, 0, 3);
            Check.due("burstOf(0)", x.burstOf(0), 2);
        });
        sentence("19", "if there is no such child", "the last of 10 is one", () -> {
            FairyDust x = Fairies.many(1, 9);
            x.addChild(0, 0);
            Check.due("burstOf(9)", x.burstOf(9), 12);
        });
    }

    private static void punishedFor() {
        sentence("20", "0 if it is not", "with 2 marks", () -> {
            FairyDust x = Fairies.one(5, 0);
            Fairies.deny(x, 0, 2);
            Check.due("punishedFor(0)", x.punishedFor(0), 0);
        });
        sentence("20", "0 if it is not", "long behind a punishment", () -> {
            FairyDust x = Fairies.one(5, 0);
            Fairies.deny(x, 0, 3);
            x.pass(100);
            Check.due("punishedFor(0)", x.punishedFor(0), 0);
        });
        sentence("20", "Returns for how many hours it is punished", "1, in the last hour", () -> {
            FairyDust x = Fairies.one(5, 0);
            Fairies.deny(x, 0, 3);
            x.pass(3);
            Check.due("punishedFor(0)", x.punishedFor(0), 1);
        });
        sentence("20", "Returns for how many hours it is punished", "48", () -> {
            FairyDust x = Fairies.one(5, 0);
            Fairies.deny(x, 0, 47);
            Check.due("punishedFor(0)", x.punishedFor(0), 48);
            x.pass(1);
            Check.due("punishedFor(0) an hour on", x.punishedFor(0), 47);
        });
        sentence("20", "if there is no such child", "the last of 10 is one", () -> {
            FairyDust x = Fairies.many(1, 10);
            Fairies.deny(x, 9, 3);
            Check.due("punishedFor(9)", x.punishedFor(9), 4);
        });
    }

    private static void marksOf() {
        sentence("21", "Returns how many marks it has", "2 are the most", () -> {
            FairyDust x = Fairies.one(5, 0);
            for (int marks = 0; marks < 3; marks++) {
                Check.due("marksOf(0)", x.marksOf(0), marks);
                Fairies.deny(x, 0, 1);
            }
            Check.due("marksOf(0) with the third", x.marksOf(0), 0);
        });
        sentence("21", "Returns how many marks it has", "none behind the punishment", () -> {
            FairyDust x = Fairies.one(5, 0);
            Fairies.deny(x, 0, 3);
            x.pass(4);
            Check.due("marksOf(0)", x.marksOf(0), 0);
        });
        sentence("21", "if there is no such child", "the last of 10 is one", () -> {
            FairyDust x = Fairies.many(1, 10);
            Fairies.deny(x, 9, 2);
            Check.due("marksOf(9)", x.marksOf(9), 2);
            Check.due("marksOf(8)", x.marksOf(8), 0);
        });
    }

    private static void nextPunishment() {
        sentence("22", "how many hours it would be punished the next time", "4 at first", () ->
                Check.due("nextPunishment(0)", Fairies.one(5, 0).nextPunishment(0), 4));
        sentence("22", "how many hours it would be punished the next time", "4 with 2 marks", () -> {
            FairyDust x = Fairies.one(5, 0);
            Fairies.deny(x, 0, 2);
            Check.due("nextPunishment(0)", x.nextPunishment(0), 4);
        });
        sentence("22", "how many hours it would be punished the next time", "8 while it is punished for 4", () -> {
            FairyDust x = Fairies.one(5, 0);
            Fairies.deny(x, 0, 3);
            Check.due("nextPunishment(0)", x.nextPunishment(0), 8);
        });
        sentence("22", "how many hours it would be punished the next time", "8, however long this one is made", () -> {
            FairyDust x = Fairies.one(5, 0);
            Fairies.deny(x, 0, 60);
            Check.due("nextPunishment(0)", x.nextPunishment(0), 8);
        });
        sentence("22", "how many hours it would be punished the next time", "16, then 32 at the most", () -> {
            Check.due("nextPunishment(0) behind 2 times", behindTimes(2), 16);
            Check.due("nextPunishment(0) behind 3 times", behindTimes(3), 32);
            Check.due("nextPunishment(0) behind 4 times", behindTimes(4), 32);
            Check.due("nextPunishment(0) behind 40 times", behindTimes(40), 32);
        });
        sentence("22", "if there is no such child", "the last of 10 is one", () -> {
            FairyDust x = Fairies.many(1, 10);
            Fairies.deny(x, 9, 3);
            Check.due("nextPunishment(9)", x.nextPunishment(9), 8);
            Check.due("nextPunishment(8)", x.nextPunishment(8), 4);
        });
    }

    private static int behindTimes(int times) {
        FairyDust x = Fairies.one(5, 0);
        for (int i = 0; i < times; i++) {
            Fairies.deny(x, 0, 3);
            x.forgive(0);
        }
        return x.nextPunishment(0);
    }

    private static void daysToBirthday() {
        inDays("0 if it is today", 0, 0, 0);
        inDays("0 if it is today", 0, 23, 0);
        inDays("0 if it is today", 0, 720, 0);
        inDays("0 if it is today", 29, 719, 0);
        inDays("at most 29", 0, 24, 29);
        inDays("at most 29", 29, 0, 29);
        inDays("at most 29", 29, 720, 29);
        inDays("at most 29", 5, 144, 29);
        inDays("in how many days its birthday is", 1, 0, 1);
        inDays("in how many days its birthday is", 1, 23, 1);
        inDays("in how many days its birthday is", 1, 24, 0);
        inDays("in how many days its birthday is", 0, 719, 1);
        inDays("in how many days its birthday is", 29, 695, 1);
        inDays("in how many days its birthday is", 10, 31 * 24, 9);
        inDays("in how many days its birthday is", 10, 71 * 24, 29);
        inDays("in how many days its birthday is", 10, 100 * 24, 0);
        sentence("23", "if there is no such child", "the last of 10 is one", () -> {
            FairyDust x = Fairies.many(1, 9);
            x.addChild(0, 7);
            Check.due("daysToBirthday(9)", x.daysToBirthday(9), 7);
        });
        sentence("23", "in how many days its birthday is", "a used burst changes nothing", () -> {
            FairyDust x = Fairies.born(0, 5, 0);
            x.wish(0, 12);
            Check.due("daysToBirthday(0)", x.daysToBirthday(0), 0);
        });
    }

    private static void inDays(String words, int birthday, int hour, int days) {
        sentence("23", words, "the birthday " + birthday + " at the hour " + hour, () -> {
            FairyDust x = Fairies.born(birthday, 1, 0);
            Fairies.passHours(x, hour);
            Check.due("daysToBirthday(0)", x.daysToBirthday(0), days);
        });
    }
}
