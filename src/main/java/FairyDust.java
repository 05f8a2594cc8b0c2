import java.util.ArrayList;

/** A fairy who grants wishes as long as there is dust. */
public final class FairyDust {
    private static final int MOST_WANDS = 4;
    private static final int MOST_CHILDREN = 10;
    private static final int MOST_ROOM = 60;
    private static final int MOST_FALLS = 9;
    private static final int MOST_SIZE = 20;
    private static final int MOST_HOURS = 100;
    private static final int MOST_TRIAL_HOURS = 60;
    private static final int MOST_FALL_WANTED = 20;
    private static final int FALL_WISHES = 24;

    private static final int DAY_HOURS = 24;
    private static final int BIRTHDAY_DAYS = 30;
    private static final int BURST = 12;

    private static final int MARKS_TO_PUNISH = 3;
    private static final int FIRST_PUNISHMENT = 4;
    private static final int MOST_NEXT_PUNISHMENT = 32;
    private static final int MOST_PUNISHED = 48;

    private final ArrayList<Wand> wands;
    private final ArrayList<Child> children;
    // Copies in which the questions of "what would be" are played through: made once,
    // so that such a question makes no objects.
    private final Wand trialWand;
    private final Child trialChild;
    private int hour;
    private int granted;
    private int denied;

    private static final class Wand {
        private int number;
        private int room;
        private int falls;
        private int dust;

        private Wand(int number, int room, int falls) {
            this.number = number;
            this.room = room;
            this.falls = falls;
            this.dust = room;
        }

        private void copyFrom(Wand other) {
            number = other.number;
            room = other.room;
            falls = other.falls;
            dust = other.dust;
        }

        private int letFall() {
            int fallen = Math.min(falls, room - dust);
            dust += fallen;
            return fallen;
        }

        private boolean isFullAfter(int hours) {
            return dust + falls * hours >= room;
        }
    }

    private static final class Child {
        private Wand wand;
        private int birthday;
        private int burst;
        private int punishedHours;
        private int marks;
        private int punishment;

        private Child(Wand wand, int birthday) {
            this.wand = wand;
            this.birthday = birthday;
            this.punishment = FIRST_PUNISHMENT;
        }

        /** Takes over all but the wand: a copy has a wand of its own. */
        private void copyFrom(Child other) {
            birthday = other.birthday;
            burst = other.burst;
            punishedHours = other.punishedHours;
            marks = other.marks;
            punishment = other.punishment;
        }

        private boolean isPunished() {
            return punishedHours > 0;
        }

        private int grainsAtHand() {
            return isPunished() ? 0 : burst + wand.dust;
        }

        private boolean canHave(int size) {
            return grainsAtHand() >= size;
        }

        private int dustLeftAfter(int size) {
            return wand.dust - Math.max(0, size - burst);
        }

        private boolean makeWish(int size) {
            if (canHave(size)) {
                takeGrains(size);
                marks = Math.max(0, marks - 1);
                return true;
            }
            if (isPunished()) {
                punishedHours = Math.min(MOST_PUNISHED, punishedHours + 1);
            } else {
                takeMark();
            }
            return false;
        }

        private void takeGrains(int size) {
            int dustLeft = dustLeftAfter(size);
            burst = Math.max(0, burst - size);
            wand.dust = dustLeft;
        }

        private void takeMark() {
            marks++;
            if (marks >= MARKS_TO_PUNISH) {
                punishedHours = punishment;
                punishment = Math.min(MOST_NEXT_PUNISHMENT, punishment * 2);
                marks = 0;
            }
        }

        private int letOff() {
            int was = punishedHours;
            punishedHours = 0;
            marks = 0;
            return was;
        }

        private void liveTo(int newHour) {
            punishedHours = Math.max(0, punishedHours - 1);
            if (newHour % DAY_HOURS == 0) {
                beginDay(newHour / DAY_HOURS);
            }
        }

        private void beginDay(int day) {
            burst = day % BIRTHDAY_DAYS == birthday ? BURST : 0;
        }
    }

    public FairyDust() {
        wands = new ArrayList<>();
        children = new ArrayList<>();
        trialWand = new Wand(0, 0, 0);
        trialChild = new Child(trialWand, 0);
    }

    // ---- wands and children

    public int addWand(int room, int falls) throws IllegalArgumentException, IllegalStateException {
        needWithin(room, 1, MOST_ROOM);
        needWithin(falls, 0, MOST_FALLS);
        int number = wands.size();
        if (number >= MOST_WANDS) {
            throw new IllegalStateException("no more wands");
        }
        wands.add(new Wand(number, room, falls));
        return number;
    }

    public int addChild(int wand, int birthday)
            throws IndexOutOfBoundsException, IllegalArgumentException, IllegalStateException {
        Wand used = wandAt(wand);
        needWithin(birthday, 0, BIRTHDAY_DAYS - 1);
        int number = children.size();
        if (number >= MOST_CHILDREN) {
            throw new IllegalStateException("no more children");
        }
        Child child = new Child(used, birthday);
        // A child that comes in the midst of its birthday has its burst as well.
        child.beginDay(day());
        children.add(child);
        return number;
    }

    public int give(int child, int wand) throws IndexOutOfBoundsException {
        Child user = childAt(child);
        Wand used = wandAt(wand);
        int before = user.wand.number;
        user.wand = used;
        return before;
    }

    public int setFall(int wand, int falls) throws IndexOutOfBoundsException, IllegalArgumentException {
        Wand changed = wandAt(wand);
        needWithin(falls, 0, MOST_FALLS);
        int before = changed.falls;
        changed.falls = falls;
        return before;
    }

    public boolean wish(int child, int size) throws IndexOutOfBoundsException, IllegalArgumentException {
        Child wisher = childAt(child);
        needSize(size);
        boolean isGranted = wisher.makeWish(size);
        if (isGranted) {
            granted++;
        } else {
            denied++;
        }
        return isGranted;
    }

    public int forgive(int child) throws IndexOutOfBoundsException {
        return childAt(child).letOff();
    }

    public int pass(int hours) throws IllegalArgumentException {
        needWithin(hours, 1, MOST_HOURS);
        int fallen = 0;
        for (int i = 0; i < hours; i++) {
            fallen += passOneHour();
        }
        return fallen;
    }

    // ---- what there is

    public int hour() {
        return hour;
    }

    public int day() {
        return hour / DAY_HOURS;
    }

    public int wands() {
        return wands.size();
    }

    public int children() {
        return children.size();
    }

    public int granted() {
        return granted;
    }

    public int denied() {
        return denied;
    }

    public int punished() {
        int count = 0;
        for (int i = 0; i < children.size(); i++) {
            if (children.get(i).isPunished()) {
                count++;
            }
        }
        return count;
    }

    public int dustIn(int wand) throws IndexOutOfBoundsException {
        return wandAt(wand).dust;
    }

    public int users(int wand) throws IndexOutOfBoundsException {
        int number = wandAt(wand).number;
        int count = 0;
        for (int i = 0; i < children.size(); i++) {
            if (children.get(i).wand.number == number) {
                count++;
            }
        }
        return count;
    }

    // ---- children

    public int wandOf(int child) throws IndexOutOfBoundsException {
        return childAt(child).wand.number;
    }

    public int burstOf(int child) throws IndexOutOfBoundsException {
        return childAt(child).burst;
    }

    public int punishedFor(int child) throws IndexOutOfBoundsException {
        return childAt(child).punishedHours;
    }

    public int marksOf(int child) throws IndexOutOfBoundsException {
        return childAt(child).marks;
    }

    public int nextPunishment(int child) throws IndexOutOfBoundsException {
        return childAt(child).punishment;
    }

    public int daysToBirthday(int child) throws IndexOutOfBoundsException {
        return Math.floorMod(childAt(child).birthday - day(), BIRTHDAY_DAYS);
    }

    public int greatestWish(int child) throws IndexOutOfBoundsException {
        return Math.min(MOST_SIZE, childAt(child).grainsAtHand());
    }

    // ---- what would be

    public int hoursUntil(int child, int size) throws IndexOutOfBoundsException, IllegalArgumentException {
        Child wisher = childAt(child);
        needSize(size);
        beginTrial(wisher);
        for (int after = 0; after <= MOST_HOURS; after++) {
            if (trialChild.canHave(size)) {
                return after;
            }
            passTrialHour(after);
        }
        return -1;
    }

    public int grantedIn(int child, int size, int hours)
            throws IndexOutOfBoundsException, IllegalArgumentException {
        Child wisher = childAt(child);
        needSize(size);
        needWithin(hours, 1, MOST_TRIAL_HOURS);
        beginTrial(wisher);
        return tryWishes(size, hours);
    }

    public int fallWanted(int child, int size) throws IndexOutOfBoundsException, IllegalArgumentException {
        Child wisher = childAt(child);
        needSize(size);
        for (int falls = 0; falls <= MOST_FALL_WANTED; falls++) {
            beginTrial(wisher);
            trialWand.falls = falls;
            if (tryWishes(size, FALL_WISHES) == FALL_WISHES) {
                return falls;
            }
        }
        return -1;
    }

    public int hoursUntilFull(int wand) throws IndexOutOfBoundsException {
        Wand filled = wandAt(wand);
        for (int after = 0; after <= MOST_HOURS; after++) {
            if (filled.isFullAfter(after)) {
                return after;
            }
        }
        return -1;
    }

    public int bestChild(int size) throws IllegalArgumentException {
        needSize(size);
        int best = -1;
        int mostLeft = -1;
        for (int i = 0; i < children.size(); i++) {
            Child child = children.get(i);
            if (child.canHave(size) && child.dustLeftAfter(size) > mostLeft) {
                best = i;
                mostLeft = child.dustLeftAfter(size);
            }
        }
        return best;
    }

    public double share() {
        int wishes = granted + denied;
        if (wishes == 0) {
            return 0;
        }
        return (double) granted / wishes;
    }

    public long digest() {
        long d = 2267;
        d = mixed(d, hour());
        d = mixed(d, day());
        d = mixed(d, wands());
        d = mixed(d, children());
        d = mixed(d, granted());
        d = mixed(d, denied());
        d = mixed(d, punished());
        d = mixed(d, bestChild(5));
        for (int wand = 0; wand < wands.size(); wand++) {
            d = withWand(d, wand);
        }
        for (int child = 0; child < children.size(); child++) {
            d = withChild(d, child);
        }
        return d;
    }

    private long withWand(long start, int wand) {
        long d = start;
        d = mixed(d, dustIn(wand));
        d = mixed(d, users(wand));
        d = mixed(d, hoursUntilFull(wand));
        return d;
    }

    private long withChild(long start, int child) {
        long d = start;
        d = mixed(d, wandOf(child));
        d = mixed(d, burstOf(child));
        d = mixed(d, punishedFor(child));
        d = mixed(d, marksOf(child));
        d = mixed(d, nextPunishment(child));
        d = mixed(d, daysToBirthday(child));
        d = mixed(d, greatestWish(child));
        d = mixed(d, hoursUntil(child, 10));
        d = mixed(d, grantedIn(child, 4, 12));
        d = mixed(d, fallWanted(child, 3));
        return d;
    }

    private static long mixed(long d, int x) {
        return d * 31 + x;
    }

    private int passOneHour() {
        int fallen = 0;
        for (int i = 0; i < wands.size(); i++) {
            fallen += wands.get(i).letFall();
        }
        hour++;
        for (int i = 0; i < children.size(); i++) {
            children.get(i).liveTo(hour);
        }
        return fallen;
    }

    private void beginTrial(Child wisher) {
        trialWand.copyFrom(wisher.wand);
        trialChild.copyFrom(wisher);
    }

    private void passTrialHour(int hoursBefore) {
        trialWand.letFall();
        trialChild.liveTo(hour + hoursBefore + 1);
    }

    private int tryWishes(int size, int hours) {
        int count = 0;
        for (int before = 0; before < hours; before++) {
            if (trialChild.makeWish(size)) {
                count++;
            }
            passTrialHour(before);
        }
        return count;
    }

    private Wand wandAt(int wand) {
        if (wand < 0 || wand >= wands.size()) {
            throw new IndexOutOfBoundsException("no such wand");
        }
        return wands.get(wand);
    }

    private Child childAt(int child) {
        if (child < 0 || child >= children.size()) {
            throw new IndexOutOfBoundsException("no such child");
        }
        return children.get(child);
    }

    private static void needSize(int size) {
        needWithin(size, 1, MOST_SIZE);
    }

    private static void needWithin(int number, int least, int most) {
        if (number < least || number > most) {
            throw new IllegalArgumentException("out of its range");
        }
    }
}
