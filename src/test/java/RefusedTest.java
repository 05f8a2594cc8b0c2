import java.util.function.Supplier;

/**
 * A test for each argument beyond an edge that the document names, of each call: it throws what
 * is named there (the one named first, if several are), and changes nothing.
 */
public final class RefusedTest {
    private static final String BOUNDS = "IndexOutOfBoundsException";
    private static final String ARGUMENT = "IllegalArgumentException";
    private static final String STATE = "IllegalStateException";
    private static final int[] NO_SIZES = {0, 21, -1, Fairies.LOW, Fairies.HIGH};

    private interface Use {
        Object of(FairyDust x);
    }

    private interface UseWith {
        Object of(FairyDust x, int number);
    }

    public static void main(String[] args) {
        sentences();
        Check.end("RefusedTest");
    }

    static void sentences() {
        noSuchWand();
        noSuchChild();
        noSuchArgument();
        noSuchSize();
        noMore();
        several();
        severalOfFull();
    }

    private static void refused(String promise, String exception, String tells, Supplier<FairyDust> made, Use use) {
        Check.sentence(promise, "Throws " + exception + ", changes nothing", tells, () -> {
            FairyDust x = made.get();
            Check.due("the call", Check.outcome(() -> use.of(x)), "throws." + exception);
            Check.due("its picture", Fairies.picture(x), Fairies.picture(made.get()));
        });
    }

    /** The numbers just beyond the edges and the farthest ones, of no, of some and of all wands. */
    private static void noWand(String promise, String call, UseWith use) {
        refused(promise, BOUNDS, call + " of the wand 0 of none", FairyDust::new, x -> use.of(x, 0));
        for (int wand : new int[] {-1, 2, Fairies.LOW, Fairies.HIGH}) {
            refused(promise, BOUNDS, call + " of the wand " + wand + " of 2", Fairies::some, x -> use.of(x, wand));
        }
        refused(promise, BOUNDS, call + " of the wand -1 of 4", Fairies::full, x -> use.of(x, -1));
        refused(promise, BOUNDS, call + " of the wand 4 of 4", Fairies::full, x -> use.of(x, 4));
    }

    private static void noChild(String promise, String call, UseWith use) {
        refused(promise, BOUNDS, call + " of the child 0 of none", FairyDust::new, x -> use.of(x, 0));
        refused(promise, BOUNDS, call + " of the child 0 of none, with wands",
                () -> Fairies.many(4, 0), x -> use.of(x, 0));
        for (int child : new int[] {-1, 4, Fairies.LOW, Fairies.HIGH}) {
            refused(promise, BOUNDS, call + " of the child " + child + " of 4", Fairies::some, x -> use.of(x, child));
        }
        refused(promise, BOUNDS, call + " of the child -1 of 10", Fairies::full, x -> use.of(x, -1));
        refused(promise, BOUNDS, call + " of the child 10 of 10", Fairies::full, x -> use.of(x, 10));
    }

    private static void noSuchWand() {
        noWand("3", "addChild", (x, wand) -> x.addChild(wand, 0));
        noWand("4", "give", (x, wand) -> x.give(0, wand));
        noWand("5", "setFall", (x, wand) -> x.setFall(wand, 5));
        noWand("16", "dustIn", (x, wand) -> x.dustIn(wand));
        noWand("17", "users", (x, wand) -> x.users(wand));
        noWand("28", "hoursUntilFull", (x, wand) -> x.hoursUntilFull(wand));
    }

    private static void noSuchChild() {
        noChild("4", "give", (x, child) -> x.give(child, 0));
        noChild("6", "wish", (x, child) -> x.wish(child, 1));
        noChild("7", "forgive", (x, child) -> x.forgive(child));
        noChild("18", "wandOf", (x, child) -> x.wandOf(child));
        noChild("19", "burstOf", (x, child) -> x.burstOf(child));
        noChild("20", "punishedFor", (x, child) -> x.punishedFor(child));
        noChild("21", "marksOf", (x, child) -> x.marksOf(child));
        noChild("22", "nextPunishment", (x, child) -> x.nextPunishment(child));
        noChild("23", "daysToBirthday", (x, child) -> x.daysToBirthday(child));
        noChild("24", "greatestWish", (x, child) -> x.greatestWish(child));
        noChild("25", "hoursUntil", (x, child) -> x.hoursUntil(child, 1));
        noChild("26", "grantedIn", (x, child) -> x.grantedIn(child, 1, 1));
        noChild("27", "fallWanted", (x, child) -> x.fallWanted(child, 1));
    }

    private static void noSuchArgument() {
        noArgument("2", "addWand with the room", new int[] {0, 61, -1, Fairies.LOW, Fairies.HIGH},
                (x, room) -> x.addWand(room, 0));
        noArgument("2", "addWand with the falls", new int[] {-1, 10, Fairies.LOW, Fairies.HIGH},
                (x, falls) -> x.addWand(1, falls));
        noArgument("3", "addChild with the birthday", new int[] {-1, 30, Fairies.LOW, Fairies.HIGH},
                (x, birthday) -> x.addChild(0, birthday));
        noArgument("5", "setFall with the falls", new int[] {-1, 10, Fairies.LOW, Fairies.HIGH},
                (x, falls) -> x.setFall(0, falls));
        noArgument("8", "pass with the hours", new int[] {0, 101, -1, Fairies.LOW, Fairies.HIGH},
                (x, hours) -> x.pass(hours));
        noArgument("26", "grantedIn with the hours", new int[] {0, 61, -1, Fairies.LOW, Fairies.HIGH},
                (x, hours) -> x.grantedIn(0, 1, hours));
    }

    private static void noArgument(String promise, String call, int[] numbers, UseWith use) {
        for (int number : numbers) {
            refused(promise, ARGUMENT, call + " " + number, Fairies::some, x -> use.of(x, number));
        }
    }

    private static void noSuchSize() {
        noArgument("6", "wish of the size", NO_SIZES, (x, size) -> x.wish(0, size));
        noArgument("6", "wish of a punished child, of the size", NO_SIZES, (x, size) -> x.wish(1, size));
        noArgument("25", "hoursUntil of the size", NO_SIZES, (x, size) -> x.hoursUntil(0, size));
        noArgument("26", "grantedIn of the size", NO_SIZES, (x, size) -> x.grantedIn(0, size, 1));
        noArgument("27", "fallWanted of the size", NO_SIZES, (x, size) -> x.fallWanted(0, size));
        noArgument("29", "bestChild of the size", NO_SIZES, (x, size) -> x.bestChild(size));
        refused("8", ARGUMENT, "pass(0) of a new object", FairyDust::new, x -> x.pass(0));
        refused("8", ARGUMENT, "pass(101) of a new object", FairyDust::new, x -> x.pass(101));
        refused("29", ARGUMENT, "bestChild(0) without children", FairyDust::new, x -> x.bestChild(0));
        refused("29", ARGUMENT, "bestChild(21) without children", FairyDust::new, x -> x.bestChild(21));
    }

    private static void noMore() {
        refused("2", STATE, "addWand(1, 0), with 4", Fairies::full, x -> x.addWand(1, 0));
        refused("2", STATE, "addWand(60, 9), with 4", Fairies::full, x -> x.addWand(60, 9));
        refused("2", STATE, "addWand(1, 0), with 4 that nobody uses", () -> Fairies.many(4, 0), x -> x.addWand(1, 0));
        refused("3", STATE, "addChild(0, 0), with 10", Fairies::full, x -> x.addChild(0, 0));
        refused("3", STATE, "addChild(3, 29), with 10", Fairies::full, x -> x.addChild(3, 29));
        refused("3", STATE, "addChild(0, 1), with 10, on its birthday", Fairies::full, x -> x.addChild(0, 1));
        refused("3", STATE, "addChild(0, 0), with 10 of one wand", () -> Fairies.many(1, 10), x -> x.addChild(0, 0));
    }

    private static void first(String promise, String exception, String tells, Supplier<FairyDust> made, Use use) {
        refused(promise, exception, "the first of several, " + tells, made, use);
    }

    private static void several() {
        first("2", ARGUMENT, "neither room nor falls", Fairies::some, x -> x.addWand(0, 10));
        first("3", BOUNDS, "neither wand nor birthday", Fairies::some, x -> x.addChild(2, 30));
        first("3", BOUNDS, "neither wand nor birthday, of none", FairyDust::new, x -> x.addChild(0, -1));
        first("4", BOUNDS, "neither child nor wand", Fairies::some, x -> x.give(4, 2));
        first("5", BOUNDS, "neither wand nor falls", Fairies::some, x -> x.setFall(2, 10));
        first("5", BOUNDS, "neither wand nor falls, of none", FairyDust::new, x -> x.setFall(0, -1));
        first("6", BOUNDS, "neither child nor size", Fairies::some, x -> x.wish(4, 0));
        first("6", BOUNDS, "neither child nor size, of none", FairyDust::new, x -> x.wish(-1, 21));
        first("25", BOUNDS, "neither child nor size", Fairies::some, x -> x.hoursUntil(4, 0));
        first("25", BOUNDS, "neither child nor size, of none", FairyDust::new, x -> x.hoursUntil(-1, 21));
        first("26", BOUNDS, "neither child nor size", Fairies::some, x -> x.grantedIn(4, 0, 1));
        first("26", BOUNDS, "neither child nor hours", Fairies::some, x -> x.grantedIn(-1, 1, 61));
        first("26", BOUNDS, "neither child nor size nor hours", Fairies::some, x -> x.grantedIn(4, 21, 0));
        first("26", ARGUMENT, "neither size nor hours", Fairies::some, x -> x.grantedIn(0, 21, 61));
        first("27", BOUNDS, "neither child nor size", Fairies::some, x -> x.fallWanted(4, 0));
        first("27", BOUNDS, "neither child nor size, of none", FairyDust::new, x -> x.fallWanted(-1, 21));
    }

    private static void severalOfFull() {
        first("2", ARGUMENT, "no room, with 4", Fairies::full, x -> x.addWand(0, 0));
        first("2", ARGUMENT, "too much room, with 4", Fairies::full, x -> x.addWand(61, 0));
        first("2", ARGUMENT, "too few falls, with 4", Fairies::full, x -> x.addWand(1, -1));
        first("2", ARGUMENT, "too many falls, with 4", Fairies::full, x -> x.addWand(1, 10));
        first("3", BOUNDS, "no wand, with 10", Fairies::full, x -> x.addChild(4, 0));
        first("3", BOUNDS, "neither wand nor birthday, with 10", Fairies::full, x -> x.addChild(-1, 30));
        first("3", ARGUMENT, "the birthday -1, with 10", Fairies::full, x -> x.addChild(0, -1));
        first("3", ARGUMENT, "the birthday 30, with 10", Fairies::full, x -> x.addChild(0, 30));
    }
}
