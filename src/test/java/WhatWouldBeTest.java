import java.math.BigInteger;
import java.util.function.Supplier;

/** A test for each boundary that the promises 24 to 31 name; what they refuse is in RefusedTest. */
public final class WhatWouldBeTest {
    public static void main(String[] args) {
        sentences();
        Check.end("WhatWouldBeTest");
    }

    static void sentences() {
        nothingIsChanged();
        greatestWish();
        greatestWishOfNone();
        hoursUntil();
        hoursUntilOfPunished();
        hoursUntilBirthday();
        grantedIn();
        grantedInMarks();
        grantedInBirthday();
        fallWanted();
        fallWantedOfNone();
        fallWantedBirthday();
        hoursUntilFull();
        bestChild();
        bestChildLeft();
        share();
        digest();
    }

    private static void sentence(String promise, String words, String tells, Runnable test) {
        Check.sentence(promise, words, tells, test);
    }

    private interface Question {
        void ask(FairyDust x);
    }

    private static void nothingIsChanged() {
        asked("24", x -> x.greatestWish(0));
        asked("25", x -> x.hoursUntil(0, 20));
        asked("26", x -> x.grantedIn(0, 3, 60));
        asked("27", x -> x.fallWanted(0, 3));
        asked("28", x -> x.hoursUntilFull(0));
        asked("29", x -> x.bestChild(3));
        asked("30", x -> x.share());
        asked("31", x -> x.digest());
    }

    private static void asked(String promise, Question question) {
        sentence(promise, "nothing is changed", "by the question", () -> {
            FairyDust x = Fairies.some();
            question.ask(x);
            question.ask(x);
            Check.due("its picture", Fairies.picture(x), Fairies.picture(Fairies.some()));
        });
    }

    /** A child (0) with a burst of 12 grains, who uses a wand with that dust. */
    private static FairyDust burst(int dust, int falls) {
        FairyDust x = Fairies.born(0, 60, falls);
        x.addChild(0, 29);
        Fairies.take(x, 1, 60 - dust);
        return x;
    }

    private static FairyDust punished(int room, int falls) {
        FairyDust x = Fairies.left(0, room, falls);
        Fairies.deny(x, 0, 3);
        return x;
    }

    /** One full wand, into which nothing falls, and one child with that birthday, at that hour. */
    private static FairyDust bornAt(int hour, int birthday, int room) {
        return Fairies.later(Fairies.born(birthday, room, 0), hour);
    }

    private static void greatestWish() {
        greatest("20 at the most", "60 grains", () -> Fairies.one(60, 0), 20);
        greatest("20 at the most", "21 grains", () -> Fairies.left(21, 60, 0), 20);
        greatest("20 at the most", "20 grains", () -> Fairies.left(20, 60, 0), 20);
        greatest("20 at the most", "19 grains", () -> Fairies.left(19, 60, 0), 19);
        greatest("20 at the most", "a burst of 12 and 9 grains", () -> burst(9, 0), 20);
        greatest("20 at the most", "a burst of 12 and 8 grains", () -> burst(8, 0), 20);
        greatest("20 at the most", "a burst of 12 and 7 grains", () -> burst(7, 0), 19);
        greatest("a wish that would be granted now", "1 grain", () -> Fairies.left(1, 60, 9), 1);
        greatest("a wish that would be granted now", "a burst of 12 alone", () -> burst(0, 9), 12);
        greatest("a wish that would be granted now", "the burst comes in an hour",
                () -> bornAt(23, 1, 5), 5);
        greatest("a wish that would be granted now", "the burst has come", () -> bornAt(24, 1, 5), 17);
        greatest("a wish that would be granted now", "the burst has ended", () -> bornAt(48, 1, 5), 5);
        sentence("24", "a wish that would be granted now", "it is, and a greater one is not", () -> {
            for (int child = 0; child < 10; child++) {
                int size = Fairies.full().greatestWish(child);
                Check.due("a wish of " + size, size == 0 || Fairies.full().wish(child, size), true);
                Check.due("a wish of " + (size + 1), size < 20 && Fairies.full().wish(child, size + 1), false);
            }
        });
    }

    private static void greatestWishOfNone() {
        greatest("0 if none would", "punished, with dust and a burst", () -> punishedAt(1), 0);
        greatest("0 if none would", "neither dust nor a burst", () -> Fairies.left(0, 60, 9), 0);
        greatest("0 if none would", "the last punished hour", () -> Fairies.later(punished(60, 9), 3), 0);
        greatest("0 if none would", "behind the punishment", () -> Fairies.later(punished(60, 2), 4), 8);
    }

    private static void greatest(String words, String tells, Supplier<FairyDust> made, int size) {
        sentence("24", words, tells, () -> Check.due("greatestWish(0)", made.get().greatestWish(0), size));
    }

    private static void hoursUntil() {
        until("0 if now", "just as many grains", () -> Fairies.left(7, 20, 1), 7, 0);
        until("0 if now", "1 grain", () -> Fairies.left(1, 20, 0), 1, 0);
        until("0 if now", "20 grains", () -> Fairies.one(20, 0), 20, 0);
        until("0 if now", "a burst of 12 and 8 grains", () -> burst(8, 0), 20, 0);
        until("in how many hours", "a grain too few", () -> Fairies.left(6, 20, 1), 7, 1);
        until("in how many hours", "9 fall, 1 is too few", () -> Fairies.left(6, 20, 9), 7, 1);
        until("in how many hours", "9 fall, 9 are too few", () -> Fairies.left(0, 20, 9), 9, 1);
        until("in how many hours", "9 fall, 10 are too few", () -> Fairies.left(0, 20, 9), 10, 2);
        until("in how many hours", "1 falls, 20 are too few", () -> Fairies.left(0, 20, 1), 20, 20);
        until("in how many hours", "the wand is full then", () -> Fairies.left(0, 10, 9), 10, 2);
        until("-1 if not by then", "a grain more than there is room", () -> Fairies.left(0, 10, 9), 11, -1);
        until("-1 if not by then", "nothing falls", () -> Fairies.left(6, 20, 0), 7, -1);
        sentence("25", "if nothing else is done", "waiting gives no marks", () -> {
            FairyDust x = Fairies.left(0, 20, 1);
            Fairies.deny(x, 0, 2);
            Check.due("hoursUntil(0, 20)", x.hoursUntil(0, 20), 20);
        });
        sentence("25", "0 if now", "2 marks are no punishment", () -> {
            FairyDust x = Fairies.one(10, 0);
            Fairies.deny(x, 0, 2);
            Check.due("hoursUntil(0, 10)", x.hoursUntil(0, 10), 0);
        });
        sentence("25", "in how many hours", "so it comes", () -> {
            FairyDust x = Fairies.left(0, 20, 3);
            Check.due("hoursUntil(0, 19)", x.hoursUntil(0, 19), 7);
            Check.due("greatestWish(0) the hour ahead", Fairies.later(x, 6).greatestWish(0), 18);
            Check.due("greatestWish(0) then", Fairies.later(x, 1).greatestWish(0), 20);
        });
        sentence("25", "if there is no such child", "the last of 10 is one, with a wand of its own", () -> {
            FairyDust x = Fairies.many(1, 9);
            x.addWand(30, 2);
            x.addChild(1, 29);
            Fairies.take(x, 9, 30);
            Check.due("hoursUntil(9, 20)", x.hoursUntil(9, 20), 10);
            Check.due("hoursUntil(8, 20)", x.hoursUntil(8, 20), -1);
        });
    }

    private static void until(String words, String tells, Supplier<FairyDust> made, int size, int hours) {
        sentence("25", words, tells, () ->
                Check.due("hoursUntil(0, " + size + ")", made.get().hoursUntil(0, size), hours));
    }

    private static void hoursUntilOfPunished() {
        until("in how many hours", "punished for 4, the dust comes ahead", () -> punished(60, 9), 20, 4);
        until("in how many hours", "punished for 4, the dust comes then", () -> punished(60, 5), 20, 4);
        until("in how many hours", "punished for 4, the dust comes behind", () -> punished(60, 4), 20, 5);
        until("in how many hours", "punished, the last hour", () -> Fairies.later(punished(60, 9), 3), 1, 1);
        until("-1 if not by then", "punished, and nothing falls", () -> punished(60, 0), 1, -1);
        sentence("25", "in how many hours", "punished for 48", () -> {
            FairyDust x = Fairies.one(10, 0);
            Fairies.deny(x, 0, 60);
            Check.due("hoursUntil(0, 10)", x.hoursUntil(0, 10), 48);
        });
        until("in how many hours", "punished until the burst's last hour", () -> punishedAt(19), 8, 4);
        until("-1 if not by then", "punished until the burst ends", () -> punishedAt(20), 8, -1);
    }

    /** A child with 5 grains and 3 of the burst of the day 0, punished for 4 hours from that hour on. */
    private static FairyDust punishedAt(int hour) {
        FairyDust x = Fairies.born(0, 5, 0);
        Fairies.take(x, 0, 9);
        x.pass(hour);
        Fairies.deny(x, 0, 3);
        return x;
    }

    private static void hoursUntilBirthday() {
        until("at most 100", "the birthday comes in 99 hours", () -> bornAt(21, 5, 5), 17, 99);
        until("at most 100", "the birthday comes in 100 hours", () -> bornAt(20, 5, 5), 17, 100);
        until("-1 if not by then", "the birthday comes in 101 hours", () -> bornAt(19, 5, 5), 17, -1);
        until("-1 if not by then", "a birthday is not enough", () -> bornAt(20, 5, 5), 18, -1);
        until("in how many hours", "the day 30 is the birthday 0", () -> bornAt(700, 0, 5), 17, 20);
        until("in how many hours", "the day 31 is the birthday 1", () -> bornAt(700, 1, 5), 17, 44);
        until("in how many hours", "a burst of 12, and 1 falls", () -> burst(0, 1), 15, 3);
        until("in how many hours", "a burst of 12 that ends ahead", () -> lateBurst(22), 15, 15);
        until("in how many hours", "a burst of 12 that does in its last hour", () -> lateBurst(20), 15, 3);
    }

    /** A child on its birthday at that hour, with an empty wand into which 1 grain falls. */
    private static FairyDust lateBurst(int hour) {
        FairyDust x = Fairies.born(0, 20, 1);
        x.addChild(0, 29);
        x.pass(hour);
        Fairies.take(x, 1, 20);
        return x;
    }

    private static void grantedIn() {
        grantedIn("hours is not 1 to 60", "1: just one now", () -> Fairies.left(5, 20, 5), 5, 1, 1);
        grantedIn("hours is not 1 to 60", "1: just one now, denied", () -> Fairies.left(4, 20, 5), 5, 1, 0);
        grantedIn("one behind each hour but the last one", "2: it comes behind 1 hour",
                () -> Fairies.left(0, 20, 5), 5, 2, 1);
        grantedIn("one behind each hour but the last one", "2: it comes behind 2 hours",
                () -> Fairies.left(0, 20, 4), 5, 2, 0);
        grantedIn("one behind each hour but the last one", "3: it comes behind 2 hours",
                () -> Fairies.left(0, 20, 4), 5, 3, 1);
        grantedIn("hours is not 1 to 60", "60 wishes of 60 grains", () -> Fairies.one(60, 0), 1, 60, 60);
        grantedIn("hours is not 1 to 60", "60 wishes of 59 grains", () -> Fairies.left(59, 60, 0), 1, 60, 59);
        grantedIn("hours is not 1 to 60", "59 wishes of 60 grains", () -> Fairies.one(60, 0), 1, 59, 59);
        grantedIn("size is not 1 to 20", "20: 60 grains are 3 wishes", () -> Fairies.one(60, 0), 20, 60, 3);
        grantedIn("how many wishes would be granted", "none, beyond the room", () -> Fairies.one(10, 9), 11, 60, 0);
        grantedIn("how many wishes would be granted", "all, as many fall as are taken",
                () -> Fairies.one(9, 9), 9, 60, 60);
        sentence("26", "how many wishes would be granted", "with the falls that were set", () -> {
            FairyDust x = Fairies.one(9, 9);
            x.setFall(0, 0);
            Check.due("grantedIn(0, 9, 60)", x.grantedIn(0, 9, 60), 1);
        });
        sentence("26", "and nothing else is done", "others of the same wand do not wish", () ->
                Check.due("grantedIn(9, 1, 20)", Fairies.many(1, 10).grantedIn(9, 1, 20), 10));
        sentence("26", "nothing is changed", "asked again it is the same", () -> {
            FairyDust x = Fairies.left(0, 20, 4);
            Check.due("grantedIn(0, 5, 60)", x.grantedIn(0, 5, 60), x.grantedIn(0, 5, 60));
            Check.due("granted() and denied()", x.granted() + x.denied(), 1);
        });
    }

    private static void grantedIn(String words, String tells, Supplier<FairyDust> made, int size, int hours,
            int due) {
        sentence("26", words, tells, () ->
                Check.due("grantedIn(0, " + size + ", " + hours + ")",
                        made.get().grantedIn(0, size, hours), due));
    }

    private static void grantedInMarks() {
        String words = "how many wishes would be granted";
        // Each second wish is granted and takes the mark of the denied one away.
        grantedIn(words, "2 marks, then one is granted", () -> Fairies.left(0, 3, 1), 2, 3, 1);
        grantedIn(words, "each second one, 6 in all", () -> Fairies.left(0, 3, 1), 2, 6, 2);
        grantedIn(words, "each second one, 7 in all", () -> Fairies.left(0, 3, 1), 2, 7, 3);
        grantedIn(words, "3 marks, and each wish makes the punishment longer", () -> Fairies.left(0, 3, 1), 3, 60, 0);
        grantedIn(words, "punished, with dust enough", () -> punished(60, 9), 1, 60, 0);
        grantedIn(words, "punished, the last hour", () -> Fairies.later(punished(60, 9), 3), 1, 60, 0);
        grantedIn(words, "behind the punishment", () -> Fairies.later(punished(60, 9), 4), 1, 60, 60);
        sentence("26", words, "2 marks are there, and the first is denied", () -> {
            FairyDust x = Fairies.left(4, 5, 5);
            Check.due("grantedIn(0, 5, 2) without marks", x.grantedIn(0, 5, 2), 1);
            Fairies.deny(x, 0, 2);
            Check.due("grantedIn(0, 5, 2) with 2 marks", x.grantedIn(0, 5, 2), 0);
            Check.due("grantedIn(0, 5, 60) with 2 marks", x.grantedIn(0, 5, 60), 0);
        });
        sentence("26", words, "punished for 48", () -> {
            FairyDust x = Fairies.one(10, 0);
            Fairies.deny(x, 0, 60);
            Check.due("grantedIn(0, 1, 60)", x.grantedIn(0, 1, 60), 0);
        });
    }

    private static void grantedInBirthday() {
        String words = "one behind each hour but the last one";
        // Denied at the hours 22 and 23; from 24 on there are 12 grains, 3 times 4.
        grantedIn(words, "the birthday has not begun", () -> bornAt(22, 1, 1), 4, 2, 0);
        grantedIn(words, "the birthday begins with the last wish", () -> bornAt(22, 1, 1), 4, 3, 1);
        grantedIn(words, "the birthday's burst is used up", () -> bornAt(22, 1, 1), 4, 60, 3);
        grantedIn(words, "punished as the birthday begins", () -> bornAt(21, 1, 1), 4, 60, 0);
        // 1 grain of the burst at 22 and at 23, then 1 of the wand.
        grantedIn(words, "the burst ends", () -> bornAt(22, 0, 1), 1, 60, 3);
        grantedIn(words, "the burst's last hour", () -> bornAt(23, 0, 1), 12, 2, 1);
        grantedIn(words, "the birthday 0 begins with the day 30", () -> bornAt(719, 0, 1), 12, 2, 1);
    }

    private static void fallWanted() {
        wanted("the least number of grains, 0 to 20", "0", () -> Fairies.one(24, 9), 1, 0);
        wanted("all of 24 such wishes", "a grain too few for 24", () -> Fairies.one(23, 0), 1, 1);
        wanted("the least number of grains, 0 to 20", "9", () -> Fairies.one(9, 0), 9, 9);
        wanted("the least number of grains, 0 to 20", "10, more than can be set", () -> Fairies.one(10, 0), 10, 10);
        wanted("the least number of grains, 0 to 20", "19", () -> Fairies.one(60, 0), 20, 19);
        wanted("the least number of grains, 0 to 20", "20", () -> Fairies.one(20, 0), 20, 20);
        // 72 grains are taken: 49 and 23 times 1 do, 48 and 23 times 1 do not.
        wanted("one behind each hour but the last one", "just enough behind 23 hours", () -> Fairies.one(49, 0), 3, 1);
        wanted("one behind each hour but the last one", "a grain too few behind 23 hours",
                () -> Fairies.one(48, 0), 3, 2);
        sentence("27", "from now on", "what falls now does not count", () -> {
            Check.due("fallWanted(0, 1) with 0", Fairies.left(5, 60, 0).fallWanted(0, 1), 1);
            Check.due("fallWanted(0, 1) with 9", Fairies.left(5, 60, 9).fallWanted(0, 1), 1);
        });
        sentence("27", "nothing is changed", "as much falls as before", () -> {
            FairyDust x = Fairies.left(5, 60, 3);
            x.fallWanted(0, 20);
            x.fallWanted(0, 1);
            Check.due("pass(1)", x.pass(1), 3);
            Check.due("setFall(0, 0)", x.setFall(0, 0), 3);
        });
        sentence("27", "into its wand", "the last of 10 has one of its own", () -> {
            FairyDust x = Fairies.many(1, 9);
            x.addWand(24, 0);
            x.addChild(1, 29);
            Check.due("fallWanted(9, 1)", x.fallWanted(9, 1), 0);
            Check.due("fallWanted(8, 1)", x.fallWanted(8, 1), 1);
        });
        sentence("27", "all of 24 such wishes would be granted", "2 marks do not matter", () -> {
            FairyDust x = Fairies.one(10, 0);
            Fairies.deny(x, 0, 2);
            Check.due("fallWanted(0, 10)", x.fallWanted(0, 10), 10);
        });
    }

    private static void wanted(String words, String tells, Supplier<FairyDust> made, int size, int falls) {
        sentence("27", words, tells, () ->
                Check.due("fallWanted(0, " + size + ")", made.get().fallWanted(0, size), falls));
    }

    private static void fallWantedOfNone() {
        wanted("-1 if 20 do not do", "the wish of now is denied", () -> Fairies.left(19, 60, 9), 20, -1);
        wanted("-1 if 20 do not do", "the wand is empty now", () -> Fairies.left(0, 60, 9), 1, -1);
        wanted("-1 if 20 do not do", "a grain more than there is room", () -> Fairies.one(10, 9), 11, -1);
        wanted("-1 if 20 do not do", "punished, with dust enough", () -> Fairies.later(punished(60, 9), 3), 1, -1);
        wanted("-1 if 20 do not do", "a burst for the wish of now alone", () -> Fairies.born(0, 8, 0), 20, -1);
    }

    private static void fallWantedBirthday() {
        // 4 wishes are of the burst, and what falls in them finds no room; 20 are of the dust.
        wanted("would have to fall into its wand", "as far as there is room", () -> Fairies.born(0, 40, 0), 3, 2);
        wanted("all of 24 such wishes", "12 of the burst, 12 of dust", () -> Fairies.born(0, 12, 0), 1, 0);
        wanted("all of 24 such wishes", "12 of the burst, 11 of dust", () -> Fairies.born(0, 11, 0), 1, 1);
        wanted("all of 24 such wishes", "the birthday comes behind 12", () -> bornAt(12, 1, 12), 1, 0);
        wanted("all of 24 such wishes", "the birthday comes behind 12, of 11",
                () -> bornAt(12, 1, 11), 1, 1);
        wanted("all of 24 such wishes", "the burst ends behind 1", () -> bornAt(23, 0, 23), 1, 0);
        wanted("all of 24 such wishes", "the burst ends behind 1, of 22",
                () -> bornAt(23, 0, 22), 1, 1);
    }

    private static void hoursUntilFull() {
        full("0 if it is now", "nothing falls", () -> Fairies.one(60, 0), 0);
        full("0 if it is now", "9 fall", () -> Fairies.one(1, 9), 0);
        full("in how many hours it is full", "1 grain, 1 falls", () -> Fairies.left(9, 10, 1), 1);
        full("in how many hours it is full", "1 grain, 9 fall", () -> Fairies.left(9, 10, 9), 1);
        full("in how many hours it is full", "18 grains, 9 fall", () -> Fairies.left(0, 18, 9), 2);
        full("in how many hours it is full", "19 grains, 9 fall", () -> Fairies.left(0, 19, 9), 3);
        full("in how many hours it is full", "60 grains, 9 fall", () -> Fairies.left(0, 60, 9), 7);
        full("at most 100", "60 grains, 1 falls", () -> Fairies.left(0, 60, 1), 60);
        full("-1 if not by then", "1 grain, nothing falls", () -> Fairies.left(9, 10, 0), -1);
        full("-1 if not by then", "60 grains, nothing falls", () -> Fairies.left(0, 60, 0), -1);
        sentence("28", "in how many hours it is full", "so it comes", () -> {
            FairyDust x = Fairies.later(Fairies.left(0, 60, 7), 8);
            Check.due("hoursUntilFull(0) the hour ahead", x.hoursUntilFull(0), 1);
            Check.due("hoursUntilFull(0) then", Fairies.later(x, 1).hoursUntilFull(0), 0);
        });
        sentence("28", "if there is no such wand", "the last of 4 is one", () -> {
            FairyDust x = Fairies.many(3, 0);
            x.addWand(20, 5);
            x.addChild(3, 29);
            x.wish(0, 20);
            Check.due("hoursUntilFull(3)", x.hoursUntilFull(3), 4);
            Check.due("hoursUntilFull(2)", x.hoursUntilFull(2), 0);
        });
    }

    private static void full(String words, String tells, Supplier<FairyDust> made, int hours) {
        sentence("28", words, tells, () -> Check.due("hoursUntilFull(0)", made.get().hoursUntilFull(0), hours));
    }

    private static void bestChild() {
        best("-1 if to none", "without wands", () -> new FairyDust(), 1, -1);
        best("-1 if to none", "without children", () -> Fairies.many(4, 0), 1, -1);
        best("-1 if to none", "a grain too few", () -> Fairies.many(1, 10), 11, -1);
        best("-1 if to none", "the only one is punished", () -> Fairies.later(punished(60, 9), 3), 1, -1);
        best("of several the smallest number", "10 of one wand", () -> Fairies.many(1, 10), 5, 0);
        best("granted now with the most dust left", "none is left", () -> Fairies.many(1, 10), 10, 0);
        best("granted now with the most dust left", "20 of 20", () -> Fairies.one(20, 0), 20, 0);
        sentence("29", "granted now with the most dust left", "the last of 10", () -> {
            FairyDust x = Fairies.many(2, 10);
            x.wish(0, 1);
            x.give(9, 1);
            Check.due("bestChild(5)", x.bestChild(5), 9);
            Check.due("bestChild(10), to this one alone", x.bestChild(10), 9);
        });
        sentence("29", "of several the smallest number", "of two wands with as much dust", () -> {
            FairyDust x = Fairies.many(2, 3);
            x.give(0, 1);
            x.give(2, 1);
            Check.due("bestChild(5)", x.bestChild(5), 0);
        });
        sentence("29", "of several the smallest number", "the smallest one is punished", () -> {
            FairyDust x = Fairies.many(1, 3);
            Fairies.deny(x, 0, 3);
            Check.due("bestChild(5)", x.bestChild(5), 1);
        });
        sentence("29", "to which such a wish would be granted now", "not one whose dust comes in an hour", () -> {
            FairyDust x = Fairies.left(9, 60, 9);
            x.addWand(12, 0);
            x.addChild(1, 29);
            Check.due("bestChild(10)", x.bestChild(10), 1);
            Check.due("bestChild(9)", x.bestChild(9), 1);
        });
    }

    private static void best(String words, String tells, Supplier<FairyDust> made, int size, int child) {
        sentence("29", words, tells, () -> Check.due("bestChild(" + size + ")", made.get().bestChild(size), child));
    }

    /** A child (0) who uses a wand of 12 grains, and one (1) with a burst of 12 and a wand of 10. */
    private static FairyDust twelveAndTen() {
        FairyDust x = new FairyDust();
        x.addWand(12, 0);
        x.addWand(10, 0);
        x.addChild(0, 29);
        x.addChild(1, 0);
        return x;
    }

    private static void bestChildLeft() {
        best("the most dust left in its wand", "11 of 12 to 10 of 10", () -> twelveAndTen(), 1, 0);
        best("of several the smallest number", "10 of 12 to 10 of 10", () -> twelveAndTen(), 2, 0);
        best("the most dust left in its wand", "9 of 12 to 10 of 10", () -> twelveAndTen(), 3, 1);
        best("the most dust left in its wand", "0 of 12 to 10 of 10", () -> twelveAndTen(), 12, 1);
        best("the most dust left in its wand", "to the second alone", () -> twelveAndTen(), 13, 1);
        sentence("29", "the most dust left in its wand", "the grains left of a burst are none", () -> {
            FairyDust x = Fairies.one(10, 0);
            x.addWand(9, 0);
            x.addChild(1, 0);
            Check.due("bestChild(1), 9 of 10 to 9 of 9", x.bestChild(1), 0);
        });
        sentence("29", "the most dust left in its wand", "one with a burst, of the same wand", () -> {
            FairyDust x = Fairies.one(10, 0);
            x.addChild(0, 0);
            Check.due("bestChild(1)", x.bestChild(1), 1);
        });
        sentence("29", "granted now with the most dust left", "an empty wand, of the burst alone", () -> {
            FairyDust x = burst(0, 0);
            Check.due("bestChild(12)", x.bestChild(12), 0);
            Check.due("bestChild(13)", x.bestChild(13), -1);
        });
        sentence("29", "to which such a wish would be granted now", "the one with the most dust is punished", () -> {
            FairyDust x = twelveAndTen();
            Fairies.deny(x, 0, 3);
            Check.due("bestChild(1)", x.bestChild(1), 1);
        });
    }

    private static void share() {
        shared("0 without any", "no wishes", 0, 0, 0.0);
        shared("wishes that were granted, divided by all", "none granted", 0, 1, 0.0);
        shared("wishes that were granted, divided by all", "all granted", 1, 0, 1.0);
        shared("wishes that were granted, divided by all", "half of them", 1, 1, 0.5);
        shared("wishes that were granted, divided by all", "a third, not cut", 1, 2, 1.0 / 3.0);
        shared("wishes that were granted, divided by all", "two thirds, not cut", 2, 1, 2.0 / 3.0);
        shared("wishes that were granted, divided by all", "those of the punished are of all", 1, 9, 0.1);
        sentence("30", "0 without any", "refused wishes are none", () -> {
            FairyDust x = Fairies.one(10, 0);
            Check.badArgument(x, "wish(0, 21)", () -> x.wish(0, 21));
            Check.outOfBounds(x, "wish(1, 1)", () -> x.wish(1, 1));
            Check.due("share()", x.share(), 0.0);
        });
    }

    private static void shared(String words, String tells, int granted, int denied, double due) {
        sentence("30", words, tells, () -> {
            FairyDust x = Fairies.one(10, 0);
            for (int i = 0; i < granted; i++) {
                x.wish(0, 1);
            }
            Fairies.deny(x, 0, denied);
            Check.due("share()", x.share(), due);
        });
    }

    private static void digest() {
        sentence("31", "A number d starts with 2267", "of a new object", () -> {
            // 2267, then seven times 0, then -1: nothing wraps around yet.
            long d = 2267L * 31 * 31 * 31 * 31 * 31 * 31 * 31 * 31 - 1;
            Check.due("digest()", new FairyDust().digest(), d);
        });
        digested("bestChild(5) is -1", () -> Fairies.many(1, 0));
        digested("hoursUntilFull(), hoursUntil() and fallWanted() are -1", () -> Fairies.left(2, 60, 0));
        digested("4 wands without children", () -> Fairies.many(4, 0));
        digested("children of several wands, marks, bursts, punished ones", Fairies::some);
        digested("4 wands and 10 children", Fairies::full);
        digested("50 grains, 12 wishes of 4", () -> Fairies.one(50, 0));
        digested("9 grains, 1 falls", () -> Fairies.left(9, 60, 1));
        digested("5 grains", () -> Fairies.left(5, 60, 0));
        digested("4 grains", () -> Fairies.left(4, 60, 0));
        digested("the day 31", () -> Fairies.later(Fairies.born(1, 20, 2), 750));
        sentence("31", "wraps around as a 64-bit integer", "nothing but that", () -> {
            FairyDust x = Fairies.full();
            BigInteger whole = whole(x);
            Check.holds("the whole number is longer", whole.bitLength() > 64);
            Check.due("digest()", x.digest(), whole.longValue());
        });
    }

    private static void digested(String tells, Supplier<FairyDust> made) {
        sentence("31", "d becomes d * 31 + x for each of the numbers", tells, () -> {
            FairyDust x = made.get();
            Check.due("digest()", x.digest(), whole(x).longValue());
        });
    }

    /** The checksum as it would be if nothing wrapped around. */
    private static BigInteger whole(FairyDust x) {
        BigInteger d = with(BigInteger.valueOf(2267), x.hour(), x.day(), x.wands(), x.children(),
                x.granted(), x.denied(), x.punished(), x.bestChild(5));
        for (int wand = 0; wand < x.wands(); wand++) {
            d = with(d, x.dustIn(wand), x.users(wand), x.hoursUntilFull(wand));
        }
        for (int child = 0; child < x.children(); child++) {
            d = with(d, x.wandOf(child), x.burstOf(child), x.punishedFor(child), x.marksOf(child),
                    x.nextPunishment(child), x.daysToBirthday(child), x.greatestWish(child));
            d = with(d, x.hoursUntil(child, 10), x.grantedIn(child, 4, 12), x.fallWanted(child, 3));
        }
        return d;
    }

    private static BigInteger with(BigInteger start, int... numbers) {
        BigInteger d = start;
        for (int x : numbers) {
            d = d.multiply(BigInteger.valueOf(31)).add(BigInteger.valueOf(x));
        }
        return d;
    }
}
