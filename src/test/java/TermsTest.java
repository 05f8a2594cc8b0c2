/** A test for each sentence of the document's "Terms" and each boundary that it names. */
public final class TermsTest {
    public static void main(String[] args) {
        sentences();
        Check.end("TermsTest");
    }

    static void sentences() {
        time();
        wands();
        falls();
        children();
        birthdays();
        newChildren();
        bursts();
        burstEnds();
        burstsAddedLate();
        sizes();
        together();
        burstFirst();
        punishedWishes();
        marks();
        punishments();
        hours();
        lastCall();
    }

    private static void sentence(String words, String tells, Runnable test) {
        Check.sentence("Terms", words, tells, test);
    }

    private static void time() {
        sentence("Time is told in hours, from 0", "none has gone by", () ->
                Check.due("hour()", new FairyDust().hour(), 0));
        sentence("A day has 24 hours", "the hour 23 is the last one of the day 0", () ->
                Check.due("day()", Fairies.at(23).day(), 0));
        sentence("A day has 24 hours", "the hour 24 is the first one of the day 1", () ->
                Check.due("day()", Fairies.at(24).day(), 1));
        sentence("/ is cut towards 0", "the hour 47 is still of the day 1", () ->
                Check.due("day()", Fairies.at(47).day(), 1));
        sentence("the day of an hour is the hour / 24", "the hour 48", () ->
                Check.due("day()", Fairies.at(48).day(), 2));
        sentence("the day of an hour is the hour / 24", "the day 30 is not the day 0", () ->
                Check.due("day()", Fairies.at(720).day(), 30));
    }

    private static void wands() {
        sentence("Wands. At most 4", "the fourth one is there", () -> {
            FairyDust x = Fairies.many(4, 0);
            Check.due("wands()", x.wands(), 4);
            Check.due("dustIn(3)", x.dustIn(3), 10);
        });
        sentence("Wands. At most 4", "there is no fifth one", () -> {
            FairyDust x = Fairies.many(4, 0);
            Check.badState(x, "addWand(10, 0)", () -> x.addWand(10, 0));
            Check.due("wands()", x.wands(), 4);
        });
        sentence("Wands, numbered from 0", "the first and the last", () -> {
            Check.due("the first addWand(10, 0)", new FairyDust().addWand(10, 0), 0);
            Check.due("the fourth addWand(10, 0)", Fairies.many(3, 0).addWand(10, 0), 3);
        });
        sentence("room for 1 to 60 grains of dust", "1", () -> {
            FairyDust x = Fairies.one(1, 9);
            x.pass(1);
            Check.due("wish(0, 1)", x.wish(0, 1), true);
            Check.due("wish(0, 1) again", x.wish(0, 1), false);
        });
        sentence("room for 1 to 60 grains of dust", "60", () -> {
            FairyDust x = Fairies.one(60, 9);
            x.pass(1);
            Fairies.take(x, 0, 60);
            Check.due("wish(0, 1) behind 60 grains", x.wish(0, 1), false);
        });
        sentence("as many as there is room for, at first", "1, 37 and 60", () -> {
            for (int room : new int[] {1, 37, 60}) {
                Check.due("dustIn(0) of " + room, Fairies.one(room, 0).dustIn(0), room);
            }
        });
        sentence("some of which are there", "none", () -> {
            FairyDust x = Fairies.left(0, 60, 0);
            Check.due("dustIn(0)", x.dustIn(0), 0);
            Check.due("wish(0, 1)", x.wish(0, 1), false);
            Check.due("dustIn(0) behind it", x.dustIn(0), 0);
        });
    }

    private static void falls() {
        sentence("so many grains fall into it in each hour, 0 to 9", "0", () -> {
            FairyDust x = Fairies.left(0, 10, 0);
            Check.due("pass(100)", x.pass(100), 0);
            Check.due("dustIn(0)", x.dustIn(0), 0);
        });
        sentence("so many grains fall into it in each hour, 0 to 9", "9", () -> {
            FairyDust x = Fairies.left(0, 60, 9);
            x.pass(1);
            Check.due("dustIn(0) behind 1 hour", x.dustIn(0), 9);
            x.pass(2);
            Check.due("dustIn(0) behind 3 hours", x.dustIn(0), 27);
        });
        sentence("as far as there is room", "9 fall into room for 1", () -> {
            FairyDust x = Fairies.left(9, 10, 9);
            Check.due("pass(1)", x.pass(1), 1);
            Check.due("dustIn(0)", x.dustIn(0), 10);
        });
        sentence("as far as there is room", "9 fall into room for 9", () -> {
            FairyDust x = Fairies.left(0, 9, 9);
            Check.due("pass(1)", x.pass(1), 9);
            Check.due("dustIn(0)", x.dustIn(0), 9);
        });
        sentence("as far as there is room", "9 fall into room for 10", () -> {
            FairyDust x = Fairies.left(0, 10, 9);
            Check.due("pass(1)", x.pass(1), 9);
            Check.due("dustIn(0)", x.dustIn(0), 9);
        });
        sentence("as far as there is room", "the wand is full", () -> {
            FairyDust x = Fairies.one(10, 9);
            Check.due("pass(1)", x.pass(1), 0);
            Check.due("dustIn(0)", x.dustIn(0), 10);
        });
    }

    private static void children() {
        sentence("Children. At most 10", "the tenth one is there", () -> {
            FairyDust x = Fairies.many(1, 10);
            Check.due("children()", x.children(), 10);
            Check.due("wish(9, 1)", x.wish(9, 1), true);
        });
        sentence("Children. At most 10", "there is no eleventh one", () -> {
            FairyDust x = Fairies.many(1, 10);
            Check.badState(x, "addChild(0, 0)", () -> x.addChild(0, 0));
            Check.due("children()", x.children(), 10);
        });
        sentence("Children, numbered likewise", "the first and the last", () -> {
            Check.due("the first addChild(0, 0)", Fairies.many(1, 0).addChild(0, 0), 0);
            Check.due("the tenth addChild(0, 0)", Fairies.many(1, 9).addChild(0, 0), 9);
        });
        sentence("each uses one of the wands", "the last of 4", () -> {
            FairyDust x = Fairies.many(4, 0);
            x.addChild(3, 29);
            x.wish(0, 4);
            Check.due("dustIn(3)", x.dustIn(3), 6);
            Check.due("dustIn(0)", x.dustIn(0), 10);
        });
    }

    private static void birthdays() {
        sentence("a birthday, which is a day of 0 to 29", "0", () ->
                Check.due("daysToBirthday(0)", Fairies.born(0, 1, 0).daysToBirthday(0), 0));
        sentence("a birthday, which is a day of 0 to 29", "29", () ->
                Check.due("daysToBirthday(0)", Fairies.born(29, 1, 0).daysToBirthday(0), 29));
        sentence("each 30 days anew", "the birthday 0 comes with the day 30", () -> {
            Check.due("burstOf(0) at 719", burst(0, 719), 0);
            Check.due("burstOf(0) at 720", burst(0, 720), 12);
        });
        sentence("each 30 days anew", "the birthday 0 comes with the day 60", () -> {
            Check.due("burstOf(0) at 1439", burst(0, 1439), 0);
            Check.due("burstOf(0) at 1440", burst(0, 1440), 12);
        });
        sentence("each 30 days anew", "the birthday 29 comes with the day 29", () -> {
            Check.due("burstOf(0) at 695", burst(29, 695), 0);
            Check.due("burstOf(0) at 696", burst(29, 696), 12);
        });
        sentence("each 30 days anew", "the birthday 29 comes with the day 59", () -> {
            Check.due("burstOf(0) at 1415", burst(29, 1415), 0);
            Check.due("burstOf(0) at 1416", burst(29, 1416), 12);
        });
        sentence("each 30 days anew", "not each 28, 29 or 31 days", () -> {
            for (int day : new int[] {28, 29, 31}) {
                Check.due("burstOf(0) on the day " + day, burst(0, day * 24), 0);
            }
        });
    }

    private static int burst(int birthday, int hour) {
        FairyDust x = Fairies.born(birthday, 1, 0);
        Fairies.passHours(x, hour);
        return x.burstOf(0);
    }

    private static void newChildren() {
        sentence("some grains of a burst (none, at first)", "born the day ahead and the day behind", () -> {
            Check.due("burstOf(0), born on the day 29", Fairies.born(29, 1, 0).burstOf(0), 0);
            Check.due("burstOf(0), born on the day 1", Fairies.born(1, 1, 0).burstOf(0), 0);
        });
        sentence("punished for some hours (0, at first: not)", "another one is punished", () -> {
            FairyDust x = beside();
            Check.due("punishedFor(1)", x.punishedFor(1), 0);
            Check.due("wish(1, 5)", x.wish(1, 5), true);
        });
        sentence("some marks (none, at first)", "another one has 2", () -> {
            FairyDust x = Fairies.one(5, 0);
            Fairies.deny(x, 0, 2);
            x.addChild(0, 29);
            Check.due("marksOf(1)", x.marksOf(1), 0);
        });
    }

    /** A punished child, and a new one that uses the same wand of 5 grains. */
    private static FairyDust beside() {
        FairyDust x = Fairies.one(5, 0);
        Fairies.deny(x, 0, 3);
        x.addChild(0, 29);
        return x;
    }

    private static void bursts() {
        sentence("On the first hour of a birthday, as it begins", "the hour ahead", () ->
                Check.due("burstOf(0) at 23", burst(1, 23), 0));
        sentence("On the first hour of a birthday, as it begins", "the first hour", () ->
                Check.due("burstOf(0) at 24", burst(1, 24), 12));
        sentence("On the first hour of a birthday, as it begins", "the next hour brings none", () -> {
            FairyDust x = Fairies.born(1, 1, 0);
            x.pass(24);
            x.wish(0, 12);
            x.pass(1);
            Check.due("burstOf(0) at 25", x.burstOf(0), 0);
            x.pass(22);
            Check.due("burstOf(0) at 47", x.burstOf(0), 0);
        });
        sentence("the burst is 12 grains, whatever was left", "used up the time ahead", () -> {
            FairyDust x = Fairies.born(0, 1, 0);
            x.wish(0, 12);
            Fairies.passDays(x, 30);
            Check.due("burstOf(0)", x.burstOf(0), 12);
        });
        sentence("the burst is 12 grains, whatever was left", "not used the time ahead", () ->
                Check.due("burstOf(0)", burst(0, 720), 12));
        sentence("the burst is 12 grains, whatever was left", "5 grains used the time ahead", () -> {
            FairyDust x = Fairies.born(0, 1, 0);
            x.wish(0, 5);
            Fairies.passDays(x, 30);
            Check.due("burstOf(0)", x.burstOf(0), 12);
        });
    }

    private static void burstEnds() {
        sentence("as the next day begins, it is 0", "the last hour of the birthday", () ->
                Check.due("burstOf(0) at 47", burst(1, 47), 12));
        sentence("as the next day begins, it is 0", "12 grains are left", () ->
                Check.due("burstOf(0) at 48", burst(1, 48), 0));
        sentence("as the next day begins, it is 0", "1 grain is left", () -> {
            FairyDust x = Fairies.born(0, 1, 0);
            x.wish(0, 11);
            x.pass(23);
            Check.due("burstOf(0) at 23", x.burstOf(0), 1);
            x.pass(1);
            Check.due("burstOf(0) at 24", x.burstOf(0), 0);
        });
        sentence("as the next day begins, it is 0", "none is left", () -> {
            FairyDust x = Fairies.born(0, 1, 0);
            x.wish(0, 12);
            x.pass(24);
            Check.due("burstOf(0) at 24", x.burstOf(0), 0);
        });
        sentence("as the next day begins, it is 0", "the birthday 29 ends with the day 30", () -> {
            Check.due("burstOf(0) at 719", burst(29, 719), 12);
            Check.due("burstOf(0) at 720", burst(29, 720), 0);
        });
        sentence("as the next day begins, it is 0", "hours that go by at once across the birthday", () -> {
            FairyDust x = Fairies.born(1, 1, 0);
            x.pass(100);
            Check.due("burstOf(0) at 100", x.burstOf(0), 0);
        });
    }

    private static void burstsAddedLate() {
        addedAt("At the hour 0 the day 0 has begun", 0, 0, 12);
        addedAt("added on its birthday has its burst", 0, 23, 12);
        addedAt("added on its birthday has its burst", 5, 119, 0);
        addedAt("added on its birthday has its burst", 5, 120, 12);
        addedAt("added on its birthday has its burst", 5, 143, 12);
        addedAt("added on its birthday has its burst", 5, 144, 0);
        addedAt("added on its birthday has its burst", 0, 720, 12);
        addedAt("added on its birthday has its burst", 29, 720, 0);
        addedAt("added on its birthday has its burst", 29, 1439, 12);
    }

    private static void addedAt(String words, int birthday, int hour, int grains) {
        sentence(words, "the birthday " + birthday + ", added at " + hour, () -> {
            FairyDust x = Fairies.many(1, 0);
            Fairies.passHours(x, hour);
            x.addChild(0, birthday);
            Check.due("burstOf(0)", x.burstOf(0), grains);
        });
    }

    private static void sizes() {
        sentence("A wish has a size, 1 to 20, and takes as many grains", "1", () -> {
            FairyDust x = Fairies.one(30, 0);
            Check.due("wish(0, 1)", x.wish(0, 1), true);
            Check.due("dustIn(0)", x.dustIn(0), 29);
        });
        sentence("A wish has a size, 1 to 20, and takes as many grains", "20", () -> {
            FairyDust x = Fairies.one(30, 0);
            Check.due("wish(0, 20)", x.wish(0, 20), true);
            Check.due("dustIn(0)", x.dustIn(0), 10);
        });
        sentence("the dust of its wand", "not that of another wand", () -> {
            FairyDust x = Fairies.many(2, 1);
            Check.due("wish(0, 11)", x.wish(0, 11), false);
            Check.due("wish(0, 10)", x.wish(0, 10), true);
            Check.due("dustIn(1)", x.dustIn(1), 10);
        });
    }

    private static void together() {
        granted("just as many grains of dust", 7, 0, 7, true);
        granted("a grain of dust too few", 6, 0, 7, false);
        granted("12 of the burst and 8 of dust", 8, 12, 20, true);
        granted("12 of the burst and 7 of dust", 7, 12, 20, false);
        granted("5 of the burst and 3 of dust", 3, 5, 8, true);
        granted("5 of the burst and 3 of dust, one too few", 3, 5, 9, false);
        granted("12 of the burst and no dust", 0, 12, 12, true);
        granted("12 of the burst and no dust, one too few", 0, 12, 13, false);
        granted("neither burst nor dust", 0, 0, 1, false);
        sentence("Otherwise it is not granted", "neither burst nor dust is taken", () -> {
            FairyDust x = burstAndDust(5, 3);
            x.wish(0, 9);
            Check.due("burstOf(0)", x.burstOf(0), 5);
            Check.due("dustIn(0)", x.dustIn(0), 3);
        });
    }

    private static void granted(String tells, int dust, int burst, int size, boolean isGranted) {
        sentence("its burst and the dust of its wand together are as many", tells, () ->
                Check.due("wish(0, " + size + ")", burstAndDust(burst, dust).wish(0, size), isGranted));
    }

    /** A child (0) with that burst, on its birthday, and another (1) who has taken dust. */
    private static FairyDust burstAndDust(int burst, int dust) {
        FairyDust x = Fairies.born(0, 20, 0);
        x.addChild(0, 29);
        Fairies.take(x, 0, 12 - burst);
        Fairies.take(x, 1, 20 - dust);
        return x;
    }

    private static void burstFirst() {
        taken("11 of 12", 11, 1, 20);
        taken("all 12", 12, 0, 20);
        taken("all 12 and one of the wand", 13, 0, 19);
        taken("all 12 and 8 of the wand", 20, 0, 12);
    }

    private static void taken(String tells, int size, int burst, int dust) {
        sentence("grains are taken from the burst first, the others from the wand", tells, () -> {
            FairyDust x = burstAndDust(12, 20);
            x.wish(0, size);
            Check.due("burstOf(0)", x.burstOf(0), burst);
            Check.due("dustIn(0)", x.dustIn(0), dust);
        });
    }

    /** A child (0) who is punished for 4 hours, and 19 grains of dust. */
    private static FairyDust punished() {
        FairyDust x = Fairies.one(19, 0);
        Fairies.deny(x, 0, 3);
        return x;
    }

    private static void punishedWishes() {
        sentence("granted to a child, if the child is not punished", "there is dust enough", () -> {
            FairyDust x = punished();
            Check.due("wish(0, 1)", x.wish(0, 1), false);
            Check.due("dustIn(0)", x.dustIn(0), 19);
        });
        sentence("granted to a child, if the child is not punished", "its burst is enough", () -> {
            FairyDust x = Fairies.born(1, 5, 0);
            x.pass(22);
            Fairies.deny(x, 0, 3);
            x.pass(2);
            Check.due("burstOf(0)", x.burstOf(0), 12);
            Check.due("wish(0, 1)", x.wish(0, 1), false);
            Check.due("burstOf(0) behind it", x.burstOf(0), 12);
        });
        sentence("each wish makes that 1 hour longer", "with dust enough, and without", () -> {
            FairyDust x = punished();
            x.wish(0, 1);
            Check.due("punishedFor(0)", x.punishedFor(0), 5);
            x.wish(0, 20);
            Check.due("punishedFor(0) again", x.punishedFor(0), 6);
        });
        sentence("each wish makes that 1 hour longer", "in the last hour of it", () -> {
            FairyDust x = punished();
            x.pass(3);
            x.wish(0, 1);
            Check.due("punishedFor(0)", x.punishedFor(0), 2);
        });
        sentence("each wish makes that 1 hour longer", "it gives no mark", () -> {
            FairyDust x = punished();
            x.wish(0, 20);
            Check.due("marksOf(0)", x.marksOf(0), 0);
        });
        longest("from 47 to 48", 44);
        longest("48 stays", 45);
        longest("48 stays, however many wishes", 60);
    }

    private static void longest(String tells, int wishes) {
        sentence("48 at the most", tells, () -> {
            FairyDust x = punished();
            Fairies.deny(x, 0, 43);
            Check.due("punishedFor(0) behind 43 wishes", x.punishedFor(0), 47);
            Fairies.deny(x, 0, wishes - 43);
            Check.due("punishedFor(0) behind " + wishes, x.punishedFor(0), 48);
        });
    }

    private static void marks() {
        sentence("If it is not, it has a mark more", "the first and the second", () -> {
            FairyDust x = Fairies.one(19, 0);
            Fairies.deny(x, 0, 1);
            Check.due("marksOf(0)", x.marksOf(0), 1);
            Fairies.deny(x, 0, 1);
            Check.due("marksOf(0) again", x.marksOf(0), 2);
        });
        sentence("with 3 marks it is punished", "with 2 it is not", () -> {
            FairyDust x = Fairies.one(19, 0);
            Fairies.deny(x, 0, 2);
            Check.due("punishedFor(0)", x.punishedFor(0), 0);
        });
        sentence("with 3 marks it is punished for 4 hours the first time", "with 3", () ->
                Check.due("punishedFor(0)", punished().punishedFor(0), 4));
        sentence("its marks are 0 then", "with 3", () ->
                Check.due("marksOf(0)", punished().marksOf(0), 0));
        sentence("A wish that is granted takes a mark away", "from 2 to 1", () ->
                Check.due("marksOf(0)", marksBehind(2, 1), 1));
        sentence("A wish that is granted takes a mark away", "from 1 to 0", () ->
                Check.due("marksOf(0)", marksBehind(1, 1), 0));
        sentence("takes a mark away, if there is one", "there is none", () ->
                Check.due("marksOf(0)", marksBehind(0, 1), 0));
        sentence("takes a mark away, if there is one", "there is none, and then one comes", () -> {
            FairyDust x = Fairies.one(19, 0);
            x.wish(0, 1);
            Fairies.deny(x, 0, 1);
            Check.due("marksOf(0)", x.marksOf(0), 1);
        });
        sentence("A wish that is granted takes a mark away", "one of the burst alone", () -> {
            FairyDust x = burstAndDust(5, 3);
            x.wish(0, 9);
            x.wish(0, 5);
            Check.due("marksOf(0)", x.marksOf(0), 0);
        });
        sentence("with 3 marks it is punished", "denied thrice, but granted in between", () -> {
            FairyDust x = Fairies.one(19, 0);
            Fairies.deny(x, 0, 2);
            x.wish(0, 1);
            Fairies.deny(x, 0, 1);
            Check.due("punishedFor(0) behind the third", x.punishedFor(0), 0);
            Fairies.deny(x, 0, 1);
            Check.due("punishedFor(0) behind the fourth", x.punishedFor(0), 4);
        });
    }

    private static int marksBehind(int denied, int granted) {
        FairyDust x = Fairies.one(19, 0);
        Fairies.deny(x, 0, denied);
        for (int i = 0; i < granted; i++) {
            x.wish(0, 1);
        }
        return x.marksOf(0);
    }

    private static void punishments() {
        punishedAgain("each time twice as many", 2, 8);
        punishedAgain("each time twice as many", 3, 16);
        punishedAgain("each time twice as many", 4, 32);
        punishedAgain("32 at the most", 5, 32);
        punishedAgain("32 at the most", 20, 32);
        sentence("twice as many as the time ahead of that", "that was made longer", () -> {
            FairyDust x = punished();
            Fairies.deny(x, 0, 10);
            x.pass(14);
            Fairies.deny(x, 0, 3);
            Check.due("punishedFor(0)", x.punishedFor(0), 8);
        });
        sentence("twice as many as the time ahead of that", "of the same child", () -> {
            FairyDust x = beside();
            Fairies.deny(x, 1, 3);
            Check.due("punishedFor(1)", x.punishedFor(1), 4);
        });
    }

    private static void punishedAgain(String words, int times, int hours) {
        sentence(words, "the time " + times, () -> {
            FairyDust x = Fairies.one(19, 0);
            for (int i = 1; i < times; i++) {
                Fairies.deny(x, 0, 3);
                x.pass(32);
            }
            Fairies.deny(x, 0, 3);
            Check.due("punishedFor(0)", x.punishedFor(0), hours);
        });
    }

    private static void hours() {
        sentence("Dust falls into each wand", "the first and the last of 4", () -> {
            FairyDust x = emptyFour();
            x.pass(1);
            for (int wand = 0; wand < 4; wand++) {
                Check.due("dustIn(" + wand + ")", x.dustIn(wand), wand + 1);
            }
        });
        sentence("Each punished child is so for an hour less", "from 4 to 3", () -> {
            FairyDust x = punished();
            x.pass(1);
            Check.due("punishedFor(0)", x.punishedFor(0), 3);
        });
        sentence("Each punished child is so for an hour less", "from 1 to 0", () -> {
            FairyDust x = punished();
            x.pass(3);
            Check.due("wish(0, 1) the hour ahead", punishedBehind(3).wish(0, 1), false);
            x.pass(1);
            Check.due("punishedFor(0)", x.punishedFor(0), 0);
            Check.due("wish(0, 1)", x.wish(0, 1), true);
        });
        sentence("Each punished child is so for an hour less", "who is not punished stays so", () -> {
            Check.due("punishedFor(0)", punishedBehind(5).punishedFor(0), 0);
            FairyDust x = Fairies.one(19, 0);
            x.pass(1);
            Check.due("punishedFor(0) of one who never was", x.punishedFor(0), 0);
        });
        sentence("Each punished child is so for an hour less", "the first and the last of 10", () -> {
            FairyDust x = Fairies.many(1, 10);
            Fairies.deny(x, 0, 3);
            Fairies.deny(x, 9, 4);
            x.pass(1);
            Check.due("punishedFor(0)", x.punishedFor(0), 3);
            Check.due("punishedFor(9)", x.punishedFor(9), 4);
        });
        sentence("An hour goes like this", "marks stay, and the next punishment", () -> {
            FairyDust x = punished();
            x.pass(4);
            Fairies.deny(x, 0, 2);
            x.pass(100);
            Check.due("marksOf(0)", x.marksOf(0), 2);
            Check.due("nextPunishment(0)", x.nextPunishment(0), 8);
        });
        sentence("The hour is 1 greater", "without wands and children too", () -> {
            FairyDust x = new FairyDust();
            x.pass(1);
            Check.due("hour()", x.hour(), 1);
        });
        sentence("if a day begins by that, bursts are as told", "those of the first and the last of 10", () -> {
            FairyDust x = Fairies.many(1, 0);
            for (int child = 0; child < 10; child++) {
                x.addChild(0, child % 9 == 0 ? 1 : 0);
            }
            x.pass(24);
            for (int child = 0; child < 10; child++) {
                Check.due("burstOf(" + child + ")", x.burstOf(child), child % 9 == 0 ? 12 : 0);
            }
        });
    }

    private static FairyDust punishedBehind(int hours) {
        FairyDust x = punished();
        x.pass(hours);
        return x;
    }

    /** Four empty wands, into which 1, 2, 3 and 4 grains fall. */
    private static FairyDust emptyFour() {
        FairyDust x = new FairyDust();
        for (int wand = 0; wand < 4; wand++) {
            x.addWand(20, wand + 1);
            x.addChild(wand, 29);
            x.wish(wand, 20);
        }
        return x;
    }

    private static void lastCall() {
        sentence("used for at most 512 calls", "the call 512 answers", () -> {
            FairyDust x = new FairyDust();
            for (int call = 1; call < 512; call++) {
                x.pass(100);
            }
            Check.due("hour()", x.hour(), 51100);
        });
        sentence("used for at most 512 calls", "the call 512 counts wishes", () -> {
            FairyDust x = Fairies.one(60, 9);
            for (int call = 3; call < 511; call += 2) {
                x.wish(0, 9);
                x.pass(1);
            }
            x.wish(0, 9);
            Check.due("granted()", x.granted(), 255);
        });
    }
}
