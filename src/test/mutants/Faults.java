import java.util.ArrayList;
import java.util.List;
import java.util.regex.Matcher;
import java.util.regex.Pattern;

/** The faults: each is one change of the class's text that breaks a sentence of the document. */
final class Faults {
    private static final String TERMS = "Terms";

    private final List<Fault> faults = new ArrayList<>();

    /** In the method of that name the text "from" becomes "to" where it stands first. */
    record Fault(String promise, String method, String from, String to) {
        String putInto(String source) {
            Matcher head = Pattern.compile("\n( +)(?:public|private) [^\n(]*\\b" + method + "\\(").matcher(source);
            if (!head.find()) {
                return null;
            }
            int end = source.indexOf("\n" + head.group(1) + "}\n", head.end());
            int at = source.indexOf(from, head.end());
            boolean isThere = at >= 0 && at < end;
            return isThere ? source.substring(0, at) + to + source.substring(at + from.length()) : null;
        }
    }

    List<Fault> all() {
        time();
        wandsOfTerms();
        childrenOfTerms();
        burstsOfTerms();
        wishesOfTerms();
        punishmentOfTerms();
        hoursOfTerms();
        newObject();
        addWand();
        addChild();
        give();
        setFall();
        wish();
        forgive();
        pass();
        counts();
        ofWands();
        ofChildren();
        greatestWish();
        hoursUntil();
        grantedIn();
        fallWanted();
        hoursUntilFull();
        bestChild();
        share();
        digest();
        return faults;
    }

    private void swap(String promise, String method, String from, String to) {
        faults.add(new Fault(promise, method, from, to));
    }

    /** The method begins with this. */
    private void start(String promise, String method, String statement) {
        swap(promise, method, "{\n", "{\n" + statement + "\n");
    }

    /** What is right is refused. */
    private void refuse(String promise, String method, String condition) {
        start(promise, method, "if (" + condition + ") { throw new IllegalArgumentException(); }");
    }

    /** What is wrong is answered; and, a second fault, it is refused, but changes something. */
    private void answer(String promise, String method, String... conditions) {
        for (String condition : conditions) {
            start(promise, method, "if (" + condition + ") { return " + zeroOf(method) + "; }");
            start(promise, method, "if (" + condition + ") { hour++; }");
        }
    }

    private static String zeroOf(String method) {
        return method.equals("wish") ? "false" : "0";
    }

    /** Numbers of wands or children that are none, to each side of those that are. */
    private void noNumber(String promise, String method, String name, String list) {
        answer(promise, method, name + " == -1", name + " < -1", name + " == " + list + ".size()",
                name + " > " + list + ".size()", name + " >= 0 && " + list + ".size() == 0");
        refuse(promise, method, name + " == " + list + ".size() - 1 && " + name + " > 0");
        refuse(promise, method, name + " == 0");
    }

    private void noWand(String promise, String method) {
        noNumber(promise, method, "wand", "wands");
    }

    private void noChild(String promise, String method) {
        noNumber(promise, method, "child", "children");
    }

    /** Arguments outside these bounds are wrong, and those just inside are right. */
    private void bounds(String promise, String method, String name, int least, int most) {
        answer(promise, method, name + " == " + (least - 1), name + " < " + (least - 1),
                name + " == " + (most + 1), name + " > " + (most + 1));
        refuse(promise, method, name + " == " + least);
        refuse(promise, method, name + " == " + most);
    }

    private void time() {
        for (String day : new String[] {"hour / 23", "hour / 25", "(hour + 1) / 24", "(hour + 23) / 24",
            "(hour + 12) / 24", "hour / 24 % 30", "hour / 24 + 1", "hour / 48", "hour == 0 ? 0 : (hour - 1) / 24"}) {
            swap(TERMS, "day", "hour / DAY_HOURS", day);
            swap("10", "day", "hour / DAY_HOURS", day);
        }
        for (String now : new String[] {"hour + 1", "hour % 24", "hour % 720", "hour + granted", "hour + denied"}) {
            swap("9", "hour", "return hour", "return " + now);
        }
        swap(TERMS, "hour", "return hour", "return hour + 1");
        swap(TERMS, "hour", "return hour", "return hour < 51100 ? hour : 0");
        swap(TERMS, "granted", "return granted", "return granted < 255 ? granted : 254");
        start("9", "pass", "if (hours == 0) { hour++; }");
        start("9", "pass", "if (hours == 101) { hour++; }");
    }

    private void wandsOfTerms() {
        start(TERMS, "addWand", "if (wands.size() == 3) { throw new IllegalStateException(); }");
        swap(TERMS, "addWand", "MOST_WANDS", "5");
        swap(TERMS, "addWand", "return number", "return number + 1");
        swap(TERMS, "addWand", "return number", "return 0");
        swap(TERMS, "Wand", "this.room = room", "this.room = room == 1 ? 2 : room");
        swap(TERMS, "Wand", "this.room = room", "this.room = room == 60 ? 59 : room");
        swap(TERMS, "Wand", "this.room = room", "this.room = room == 60 ? 80 : room");
        swap(TERMS, "Wand", "this.dust = room", "this.dust = 0");
        swap(TERMS, "Wand", "this.dust = room", "this.dust = Math.min(room, 36)");
        swap(TERMS, "letFall", "fallen = ", "fallen = falls == 0 ? Math.min(1, room - dust) : ");
        swap(TERMS, "letFall", "fallen = ", "fallen = falls == 9 ? Math.min(8, room - dust) : ");
        swap(TERMS, "letFall", "Math.min(falls, room - dust)", "falls");
        swap(TERMS, "letFall", "Math.min(falls, room - dust)", "falls > room - dust ? 0 : falls");
        swap(TERMS, "letFall", "Math.min(falls, room - dust)", "falls >= room - dust ? 0 : falls");
        swap(TERMS, "letFall", "Math.min(falls, room - dust)", "falls < room - dust ? room - dust : Math.min(falls, room - dust)");
        swap(TERMS, "wish", "boolean isGranted = ",
                "wisher.wand.dust = Math.max(1, wisher.wand.dust); boolean isGranted = ");
    }

    private void childrenOfTerms() {
        start(TERMS, "addChild", "if (children.size() == 9) { throw new IllegalStateException(); }");
        swap(TERMS, "addChild", "MOST_CHILDREN", "11");
        swap(TERMS, "addChild", "return number", "return number + 1");
        swap(TERMS, "addChild", "return number", "return 0");
        swap(TERMS, "addChild", "new Child(used", "new Child(wands.get(0)");
        refuse(TERMS, "addChild", "birthday == 0");
        refuse(TERMS, "addChild", "birthday == 29");
        for (String day : new String[] {"day", "day % 28", "day % 29", "day % 31", "(day < 60 ? day % 30 : day)"}) {
            swap(TERMS, "beginDay", "day % BIRTHDAY_DAYS", day);
        }
        swap(TERMS, "addChild", "child.beginDay(day());", "child.burst = BURST;");
        swap(TERMS, "addChild", "children.add(child)",
                "if (number > 0) { child.punishedHours = children.get(0).punishedHours; } children.add(child)");
        swap(TERMS, "addChild", "children.add(child)",
                "if (number > 0) { child.marks = children.get(0).marks; } children.add(child)");
    }

    private void burstsOfTerms() {
        swap(TERMS, "liveTo", "newHour % DAY_HOURS == 0", "newHour % DAY_HOURS == 1");
        swap(TERMS, "liveTo", "newHour % DAY_HOURS == 0", "newHour % DAY_HOURS == 23");
        swap(TERMS, "liveTo", "if (newHour % DAY_HOURS == 0) {", "{");
        swap(TERMS, "liveTo", "beginDay(newHour / DAY_HOURS)", "beginDay(newHour / DAY_HOURS + 1)");
        swap(TERMS, "beginDay", "BURST", "11");
        swap(TERMS, "beginDay", "BURST : 0", "BURST : burst");
        swap(TERMS, "beginDay", "BURST : 0", "BURST : Math.max(0, burst - 6)");
        swap(TERMS, "beginDay", "BURST : 0", "BURST : burst == 12 ? 12 : 0");
        swap(TERMS, "beginDay", "BURST : 0", "BURST : burst == 0 ? 1 : 0");
        swap(TERMS, "beginDay", "BURST : 0", "BURST : burst > 0 && burst < 3 ? 1 : 0");
        swap(TERMS, "beginDay", "burst = day % BIRTHDAY_DAYS == birthday ? BURST : 0",
                "burst = day % BIRTHDAY_DAYS == birthday ? BURST : birthday == 29 && day % 30 == 0 ? burst : 0");
        swap(TERMS, "beginDay", "burst = day % BIRTHDAY_DAYS == birthday ? BURST : 0",
                "burst = day % BIRTHDAY_DAYS == birthday ? (day < 30 ? BURST : 0) : 0");
        swap(TERMS, "addChild", "child.beginDay(day());", "");
        swap(TERMS, "addChild", "child.beginDay(day());", "if (hour == 0) { child.beginDay(0); }");
        swap(TERMS, "addChild", "child.beginDay(day());", "if (hour % 24 == 0) { child.beginDay(day()); }");
        swap(TERMS, "addChild", "child.beginDay(day());", "if (hour > 0) { child.beginDay(day()); }");
        swap(TERMS, "addChild", "child.beginDay(day());", "child.beginDay((hour + 1) / 24);");
        swap(TERMS, "addChild", "child.beginDay(day());", "child.beginDay((hour + 23) / 24);");
        swap(TERMS, "addChild", "child.beginDay(day());", "child.burst = day() == birthday ? 12 : 0;");
        swap(TERMS, "addChild", "child.beginDay(day());", "child.burst = day() % 30 >= birthday ? 12 : 0;");
        swap(TERMS, "addChild", "child.beginDay(day());", "child.burst = day() % 30 <= birthday ? 12 : 0;");
        swap(TERMS, "passOneHour", "children.get(i).liveTo(hour)",
                "int b = children.get(i).burst; children.get(i).liveTo(hour); if (hour == 100 && b == 0) { children.get(i).burst = 12; }");
        swap(TERMS, "liveTo", "punishedHours = Math",
                "if (burst == 0 && newHour % 24 > 0 && newHour / 24 % 30 == birthday) { burst = 12; } punishedHours = Math");
    }

    private void wishesOfTerms() {
        refuse(TERMS, "wish", "size == 1");
        refuse(TERMS, "wish", "size == 20");
        swap(TERMS, "dustLeftAfter", "wand.dust - ", "wand.dust - 1 + ");
        swap(TERMS, "makeWish", "takeGrains(size)", "takeGrains(Math.min(size, 19))");
        swap(TERMS, "makeWish", "takeGrains(size)", "takeGrains(Math.max(size, 2))");
        swap(TERMS, "wish", "boolean isGranted = ", "wisher.wand = wands.get(wands.size() - 1); boolean isGranted = ");
        swap(TERMS, "canHave", "grainsAtHand() >= size", "grainsAtHand() > size");
        swap(TERMS, "canHave", "grainsAtHand() >= size", "grainsAtHand() >= size - 1");
        swap(TERMS, "canHave", "grainsAtHand() >= size", "!isPunished() && (burst >= size || wand.dust >= size)");
        swap(TERMS, "canHave", "grainsAtHand() >= size", "!isPunished() && wand.dust >= size");
        swap(TERMS, "canHave", "grainsAtHand() >= size", "!isPunished() && wand.dust > 0 && grainsAtHand() >= size");
        swap(TERMS, "canHave", "grainsAtHand() >= size", "!isPunished() && (burst == 12 || wand.dust >= size)");
        swap(TERMS, "canHave", "grainsAtHand() >= size", "!isPunished() && (burst > 0 || wand.dust >= size)");
        swap(TERMS, "canHave", "grainsAtHand() >= size", "!isPunished() && (size == 1 || grainsAtHand() >= size)");
        swap(TERMS, "makeWish", "if (isPunished()) {", "if (!isPunished()) { burst = 0; } if (isPunished()) {");
        swap(TERMS, "makeWish", "if (isPunished()) {", "if (!isPunished()) { wand.dust = 0; } if (isPunished()) {");
        swap(TERMS, "dustLeftAfter", "Math.max(0, size - burst)", "Math.min(wand.dust, size)");
        swap(TERMS, "dustLeftAfter", "Math.max(0, size - burst)", "Math.max(0, size - burst - 1)");
        swap(TERMS, "dustLeftAfter", "Math.max(0, size - burst)", "(size < burst ? 0 : size == burst ? 1 : size - burst)");
        swap(TERMS, "takeGrains", "burst = Math.max(0, burst - size)", "burst = size > burst ? burst : burst - size");
        swap(TERMS, "takeGrains", "burst = Math.max(0, burst - size)", "burst = size >= burst ? 0 : burst");
        swap(TERMS, "takeGrains", "burst = Math.max(0, burst - size)", "burst = size >= burst ? 0 : 0");
    }

    private void punishmentOfTerms() {
        swap(TERMS, "grainsAtHand", "isPunished() ? 0 : ", "");
        swap(TERMS, "grainsAtHand", "isPunished() ? 0 : ", "isPunished() ? burst : ");
        swap(TERMS, "makeWish", "punishedHours + 1", "punishedHours + (wand.dust >= size ? 0 : 1)");
        swap(TERMS, "makeWish", "punishedHours + 1", "punishedHours + 2");
        swap(TERMS, "makeWish", "punishedHours + 1", "punishedHours + (punishedHours == 1 ? 0 : 1)");
        swap(TERMS, "makeWish", "MOST_PUNISHED", "47");
        swap(TERMS, "makeWish", "MOST_PUNISHED", "49");
        swap(TERMS, "makeWish", "MOST_PUNISHED", "64");
        swap(TERMS, "makeWish", "Math.min(MOST_PUNISHED, punishedHours + 1);",
                "Math.min(MOST_PUNISHED, punishedHours + 1); marks++;");
        swap(TERMS, "takeMark", "marks++", "marks += 2");
        swap(TERMS, "takeMark", "MARKS_TO_PUNISH", "2");
        swap(TERMS, "takeMark", "MARKS_TO_PUNISH", "4");
        swap(TERMS, "takeMark", "punishedHours = punishment", "punishedHours = punishment + 1");
        swap(TERMS, "takeMark", "marks = 0", "marks = 1");
        swap(TERMS, "takeMark", "punishment * 2", "punishment + 4");
        swap(TERMS, "takeMark", "punishment * 2", "punishment");
        swap(TERMS, "takeMark", "punishment * 2", "punishment * 3");
        swap(TERMS, "takeMark", "MOST_NEXT_PUNISHMENT", "16");
        swap(TERMS, "takeMark", "MOST_NEXT_PUNISHMENT", "64");
        swap(TERMS, "makeWish", "Math.min(MOST_PUNISHED, punishedHours + 1);",
                "Math.min(MOST_PUNISHED, punishedHours + 1); punishment = Math.min(32, punishedHours * 2);");
        swap(TERMS, "wish", "boolean isGranted = ",
                "wisher.punishment = Math.max(wisher.punishment, children.get(0).punishment); boolean isGranted = ");
        swap(TERMS, "makeWish", "Math.max(0, marks - 1)", "marks");
        swap(TERMS, "makeWish", "Math.max(0, marks - 1)", "0");
        swap(TERMS, "makeWish", "Math.max(0, marks - 1)", "marks - 1");
        swap(TERMS, "makeWish", "Math.max(0, marks - 1)", "marks == 1 ? 1 : Math.max(0, marks - 1)");
        swap(TERMS, "makeWish", "takeGrains(size);", "if (burst >= size) { takeGrains(size); return true; } takeGrains(size);");
        swap(TERMS, "makeWish", "Math.max(0, marks - 1)", "marks == 0 ? 1 : marks - 1");
    }

    private void hoursOfTerms() {
        swap(TERMS, "passOneHour", "int i = 0", "int i = 1");
        swap(TERMS, "passOneHour", "i < wands.size()", "i < Math.min(3, wands.size())");
        swap(TERMS, "passOneHour", "i < children.size()", "i < Math.min(9, children.size())");
        swap(TERMS, "passOneHour", "for (int i = 0; i < children.size()", "for (int i = 1; i < children.size()");
        swap(TERMS, "liveTo", "Math.max(0, punishedHours - 1)", "punishedHours - 1");
        swap(TERMS, "liveTo", "Math.max(0, punishedHours - 1)", "punishedHours");
        swap(TERMS, "liveTo", "Math.max(0, punishedHours - 1)", "Math.max(0, punishedHours - 2)");
        swap(TERMS, "liveTo", "Math.max(0, punishedHours - 1)", "punishedHours == 1 ? 1 : Math.max(0, punishedHours - 1)");
        swap(TERMS, "liveTo", "punishedHours = Math", "marks = Math.max(0, marks - 1); punishedHours = Math");
        swap(TERMS, "liveTo", "punishedHours = Math", "if (punishedHours == 0) { punishment = 4; } punishedHours = Math");
        swap(TERMS, "passOneHour", "hour++", "hour += children.size() == 0 ? 0 : 1");
        swap(TERMS, "passOneHour", "hour++", "hour += 2");
    }

    private void newObject() {
        swap("1", "FairyDust", "new Child(trialWand, 0);", "new Child(trialWand, 0); hour = 1;");
        swap("1", "FairyDust", "new Child(trialWand, 0);", "new Child(trialWand, 0); hour = 24;");
        swap("1", "FairyDust", "new Child(trialWand, 0);", "new Child(trialWand, 0); wands.add(trialWand);");
        swap("1", "FairyDust", "new Child(trialWand, 0);", "new Child(trialWand, 0); children.add(trialChild);");
        swap("13", "FairyDust", "new Child(trialWand, 0);", "new Child(trialWand, 0); granted = 1;");
        swap("14", "FairyDust", "new Child(trialWand, 0);", "new Child(trialWand, 0); denied = 1;");
    }

    private void addWand() {
        bounds("2", "addWand", "room", 1, 60);
        bounds("2", "addWand", "falls", 0, 9);
        refuse("2", "addWand", "falls > room");
        refuse("2", "addWand", "wands.size() == 3");
        answer("2", "addWand", "wands.size() == 4");
        swap("2", "addWand", "MOST_WANDS", "5");
        swap("2", "addWand", "return number", "return number - 1");
        swap("2", "addWand", "return number", "return Math.min(number, 2)");
        swap("2", "addWand", "throw new IllegalStateException", "throw new IllegalArgumentException");
        start("2", "addWand", "if (wands.size() == 4) { throw new IllegalStateException(); }");
        start("2", "addWand", "if (room < 1 || room > 60) { throw new IllegalStateException(); }");
        start("2", "addWand", "if (falls < 0 || falls > 9) { throw new IndexOutOfBoundsException(); }");
        start("2", "addWand", "if ((room < 1 || falls > 9) && wands.size() < 4) { wands.add(new Wand(wands.size(), 1, 0)); }");
        start("2", "addWand", "if (room < 1 && falls > 9) { return 0; }");
    }

    private void addChild() {
        noWand("3", "addChild");
        bounds("3", "addChild", "birthday", 0, 29);
        refuse("3", "addChild", "children.size() == 9");
        answer("3", "addChild", "children.size() == 10");
        swap("3", "addChild", "return number", "return number + 1");
        swap("3", "addChild", "return number", "return Math.min(number, 8)");
        swap("3", "addChild", "new Child(used", "new Child(wands.get(0)");
        swap("3", "addChild", "throw new IllegalStateException", "throw new IllegalArgumentException");
        start("3", "addChild", "if (children.size() == 10) { throw new IllegalStateException(); }");
        start("3", "addChild", "if (birthday < 0 || birthday > 29) { throw new IllegalArgumentException(); }");
        start("3", "addChild", "if (birthday > 29 && children.size() < 10) { children.add(new Child(wands.get(0), 0)); }");
        swap("3", "addChild", "if (number >= MOST_CHILDREN) {",
                "if (number >= MOST_CHILDREN) { children.get(0).wand = used; children.get(0).burst = 11;");
    }

    private void give() {
        noChild("4", "give");
        noWand("4", "give");
        answer("4", "give", "child >= children.size() && wand >= wands.size()");
        swap("4", "give", "return before", "return wand");
        swap("4", "give", "return before", "return 0");
        swap("4", "give", "return before", "return before == wand ? -1 : before");
        swap("4", "give", "user.wand = used", "user.wand = user.wand");
        swap("4", "give", "user.wand = used", "user.wand = before == wand ? wands.get(wands.size() - 1) : used");
        swap("4", "give", "user.wand = used;", "user.wand = used; user.burst = 0;");
        swap("4", "give", "user.wand = used;", "user.wand = used; user.marks = 0;");
        swap("4", "give", "user.wand = used;", "user.wand = used; user.punishedHours = 0;");
        swap("4", "give", "user.wand = used;", "used.dust = user.wand.dust; user.wand = used;");
        swap("4", "give", "user.wand = used;", "children.get(0).wand = used; user.wand = used;");
        swap("4", "give", "user.wand = used;", "user.wand = used; if (child == 9) { children.get(8).wand = used; }");
    }

    private void setFall() {
        noWand("5", "setFall");
        bounds("5", "setFall", "falls", 0, 9);
        answer("5", "setFall", "wand >= wands.size() && falls > 9", "wand >= wands.size() && falls < 0");
        start("5", "setFall", "if (falls < 0 || falls > 9) { throw new IllegalArgumentException(); }");
        swap("5", "setFall", "return before", "return falls");
        swap("5", "setFall", "return before", "return before == falls ? 0 : before");
        swap("5", "setFall", "return before", "return Math.min(before, changed.room - changed.dust)");
        swap("5", "setFall", "changed.falls = falls", "changed.falls = Math.max(falls, 1)");
        swap("5", "setFall", "changed.falls = falls", "changed.falls = Math.min(falls, 8)");
        swap("5", "setFall", "changed.falls = falls;",
                "changed.falls = falls; changed.dust = Math.min(changed.room, changed.dust + 1);");
        swap("5", "setFall", "changed.falls = falls;",
                "changed.falls = falls; if (wand == 3) { wands.get(2).falls = falls; }");
    }

    private void wish() {
        noChild("6", "wish");
        bounds("6", "wish", "size", 1, 20);
        answer("6", "wish", "child >= children.size() && size < 1", "child < 0 && size > 20");
        start("6", "wish", "if (size < 1 || size > 20) { throw new IllegalArgumentException(); }");
        start("6", "wish", "if (size < 1 || size > 20) { denied++; }");
        start("6", "wish", "if (child == 1 && child < children.size() && (size < 1 || size > 20)) { children.get(1).makeWish(1); }");
        swap("6", "wish", "return isGranted", "return true");
        swap("6", "wish", "return isGranted", "return isGranted && wisher.wand.dust > 0");
        swap("6", "wish", "return isGranted", "return isGranted || wisher.punishedHours == 4");
        swap("6", "wish", "boolean isGranted = ", "wisher.wand.letFall(); boolean isGranted = ");
        swap("6", "wish", "boolean isGranted = ", "for (int i = 0; i < children.size(); i++) { wisher.burst += i == child ? 0"
                + " : children.get(i).burst; } boolean isGranted = ");
        swap("6", "takeGrains", "wand.dust = dustLeft", "wand.dust = dustLeft + 1");
        swap("6", "wish", "boolean isGranted = ", "if (child == 9) { children.get(8).marks = 1; } boolean isGranted = ");
        swap("6", "takeMark", "punishedHours = punishment;", "punishedHours = 0;");
    }

    private void forgive() {
        noChild("7", "forgive");
        swap("7", "letOff", "return was", "return 0");
        swap("7", "letOff", "return was", "return Math.min(was, 47)");
        swap("7", "letOff", "return was", "return was == 1 ? 0 : was");
        swap("7", "letOff", "int was = punishedHours;", "int was = punishedHours + marks;");
        swap("7", "letOff", "int was = punishedHours;", "int was = Math.max(1, punishedHours);");
        swap("7", "letOff", "punishedHours = 0", "punishedHours = Math.max(0, punishedHours - 3)");
        swap("7", "letOff", "marks = 0;", "");
        swap("7", "letOff", "marks = 0;", "marks = 0; punishment = 4;");
        swap("7", "letOff", "marks = 0;", "marks = 0; punishment = Math.min(32, punishment * 2);");
        swap("7", "letOff", "marks = 0;", "marks = 0; burst = 0;");
        swap("7", "letOff", "marks = 0;", "marks = 0; wand.dust = wand.room;");
        start("7", "forgive", "if (child == 9 && children.size() == 10) { children.get(8).letOff(); }");
        start("7", "forgive", "denied = 0;");
    }

    private void pass() {
        bounds("8", "pass", "hours", 1, 100);
        swap("8", "pass", "i < hours", "i <= hours");
        swap("8", "pass", "i < hours", "i < hours - 1");
        swap("8", "pass", "fallen += passOneHour()", "fallen = passOneHour()");
        swap("8", "pass", "int fallen = 0", "int fallen = hour");
        swap("8", "pass", "return fallen", "return fallen + (wands.size() == 0 ? 1 : 0)");
        swap("8", "passOneHour", "fallen += wands.get(i).letFall()", "wands.get(i).letFall(); fallen += wands.get(i).falls");
        swap("8", "passOneHour", "fallen += wands", "fallen = wands");
        swap("8", "letFall", "return fallen", "return fallen == room - dust ? falls : fallen");
        swap("8", "letFall", "return fallen", "return dust == room ? 0 : fallen");
        swap("8", "letFall", "return fallen", "return dust == room - 1 ? fallen + 1 : fallen");
        swap("8", "pass", "return fallen", "return hour == 1 ? 60 : fallen");
        swap("8", "pass", "i < hours", "i < hours && i < 24");
        swap("8", "passOneHour", "children.get(i).liveTo(hour)", "if (hour % 24 == 0) { children.get(i).liveTo(hour); }");
        swap("8", "passOneHour", "children.get(i).liveTo(hour)", "children.get(i).liveTo(hour - 1)");
    }

    private void counts() {
        swap("11", "wands", "wands.size()", "wands.size() + 1");
        swap("11", "wands", "wands.size()", "Math.max(1, wands.size())");
        swap("11", "wands", "wands.size()", "Math.min(3, wands.size())");
        swap("11", "wands", "wands.size()", "children.size()");
        swap("11", "wands", "wands.size()", "wands.size() + children.size()");
        swap("12", "children", "children.size()", "wands.size()");
        swap("12", "children", "children.size()", "Math.min(9, children.size())");
        swap("12", "children", "children.size()", "Math.max(1, children.size())");
        swap("13", "wish", "granted++", "granted += size");
        swap("13", "wish", "granted++", "granted += wisher.wand.dust == wisher.wand.room ? 0 : 1");
        swap("13", "wish", "granted++", "granted += child == 9 ? 0 : 1");
        swap("13", "wish", "denied++", "granted++");
        start("13", "pass", "granted = 0;");
        swap("14", "wish", "granted++", "denied++");
        swap("14", "wish", "denied++", "denied += wisher.isPunished() ? 0 : 1");
        swap("14", "wish", "denied++", "denied += wisher.punishedHours == 4 ? 0 : 1");
        swap("14", "wish", "denied++", "denied += wisher.punishedHours > 4 ? 0 : 1");
        swap("14", "wish", "denied++", "denied += wisher.punishedHours == 48 ? 0 : 1");
        swap("14", "wish", "denied++", "denied += child == 9 ? 0 : 1");
        start("14", "forgive", "denied = 0;");
        swap("15", "punished", "isPunished()", "marks > 0");
        swap("15", "punished", "isPunished()", "punishedHours > 1");
        swap("15", "punished", "isPunished()", "punishment > 4");
        swap("15", "punished", "count++", "count += children.get(i).punishedHours");
        swap("15", "punished", "int i = 0", "int i = 1");
        swap("15", "punished", "i < children.size()", "i < Math.min(9, children.size())");
        swap("15", "punished", "count++", "count = 1");
    }

    private void ofWands() {
        noWand("16", "dustIn");
        swap("16", "dustIn", "wandAt(wand).dust", "Math.max(1, wandAt(wand).dust)");
        swap("16", "dustIn", "wandAt(wand).dust", "Math.min(59, wandAt(wand).dust)");
        swap("16", "dustIn", "wandAt(wand).dust",
                "wandAt(wand).dust + (children.size() > 0 ? children.get(0).burst : 0)");
        noWand("17", "users");
        swap("17", "users", "int i = 0", "int i = 1");
        swap("17", "users", "i < children.size()", "i < Math.min(9, children.size())");
        swap("17", "users", "int count = 0", "int count = children.size() == 0 ? 1 : 0");
        swap("17", "users", "== number", "!= number");
        swap("17", "users", "count++", "count += children.get(i).isPunished() ? 0 : 1");
        start("17", "give", "if (child == 1 && wand == 0 && children.size() == 2) {"
                + " children.get(0).wand = new Wand(9, 1, 0); }");
    }

    private void ofChildren() {
        noChild("18", "wandOf");
        start("18", "give", "if (child == 0 && children.size() == 1) { children.get(0).wand = wands.get(0); }");
        swap("18", "give", "user.wand = used", "user.wand = user.wand");
        noChild("19", "burstOf");
        swap("19", "burstOf", "childAt(child).burst", "childAt(child).burst / 12 * 12");
        swap("19", "burstOf", "childAt(child).burst", "(childAt(child).isPunished() ? 0 : childAt(child).burst)");
        swap("19", "burstOf", "childAt(child).burst", "childAt(child).burst + childAt(child).wand.dust");
        noChild("20", "punishedFor");
        swap("20", "punishedFor", "childAt(child).punishedHours", "childAt(child).marks + childAt(child).punishedHours");
        swap("20", "punishedFor", "childAt(child).punishedHours", "childAt(child).punishedHours / 2");
        swap("20", "liveTo", "Math.max(0, punishedHours - 1)", "punishedHours - 1");
        swap("20", "liveTo", "Math.max(0, punishedHours - 1)", "Math.max(0, punishedHours - 2)");
        noChild("21", "marksOf");
        swap("21", "marksOf", "childAt(child).marks", "Math.min(1, childAt(child).marks)");
        swap("21", "takeMark", "marks = 0;", "");
        swap("21", "marksOf", "childAt(child).marks", "childAt(child).punishment / 8 + childAt(child).marks");
        start("21", "wish", "if (child == 9) { children.get(8).marks = 1; }");
        noChild("22", "nextPunishment");
        swap("22", "Child", "this.punishment = FIRST_PUNISHMENT", "this.punishment = 8");
        swap("22", "nextPunishment", "childAt(child).punishment", "childAt(child).punishment << childAt(child).marks");
        swap("22", "nextPunishment", "childAt(child).punishment",
                "Math.max(childAt(child).punishedHours, childAt(child).punishment)");
        swap("22", "takeMark", "MOST_NEXT_PUNISHMENT", "64");
        swap("22", "takeMark", "punishment * 2", "punishment");
        noChild("23", "daysToBirthday");
        for (String days : new String[] {"Math.max(0, childAt(child).birthday - day())",
            "(childAt(child).birthday - day()) % 30", "Math.floorMod(childAt(child).birthday - day(), 31)",
            "Math.floorMod(childAt(child).birthday - day() - 1, 30) + 1", "childAt(child).birthday",
            "Math.floorMod(childAt(child).birthday - (hour + 1) / 24, 30)",
            "Math.floorMod(childAt(child).birthday - (hour + 23) / 24, 30)",
            "Math.floorMod(day() - childAt(child).birthday, 30)", "Math.abs(childAt(child).birthday - day() % 30)",
            "Math.min(28, Math.floorMod(childAt(child).birthday - day(), 30))"}) {
            swap("23", "daysToBirthday", "Math.floorMod(childAt(child).birthday - day(), BIRTHDAY_DAYS)", days);
        }
        swap("23", "takeGrains", "wand.dust = dustLeft;", "wand.dust = dustLeft; birthday = burst == 0 ? 29 : birthday;");
    }

    private void changes(String promise, String method, String name) {
        start(promise, method, "if (" + name + " >= 0 && children.size() == 4) { children.get(3).marks = 1; }");
    }

    private void greatestWish() {
        noChild("24", "greatestWish");
        changes("24", "greatestWish", "child");
        for (String most : new String[] {"19", "21", "60"}) {
            swap("24", "greatestWish", "MOST_SIZE", most);
        }
        for (String grains : new String[] {"childAt(child).wand.dust", "childAt(child).burst",
            "Math.max(1, childAt(child).grainsAtHand())", "(childAt(child).burst + childAt(child).wand.dust)",
            "Math.max(childAt(child).burst, childAt(child).grainsAtHand())",
            "(childAt(child).punishedHours > 1 ? 0 : childAt(child).burst + childAt(child).wand.dust)",
            "(childAt(child).punishment > 4 ? 0 : childAt(child).grainsAtHand())",
            "(childAt(child).grainsAtHand() - 1)", "(childAt(child).grainsAtHand() + childAt(child).wand.falls)"}) {
            swap("24", "greatestWish", "childAt(child).grainsAtHand()", grains);
        }
        swap("24", "beginDay", "BURST : 0", "BURST : burst");
        swap("24", "liveTo", "newHour % DAY_HOURS == 0", "newHour % DAY_HOURS == 23");
        swap("24", "liveTo", "newHour % DAY_HOURS == 0", "newHour % DAY_HOURS == 1");
    }

    private void hoursUntil() {
        noChild("25", "hoursUntil");
        bounds("25", "hoursUntil", "size", 1, 20);
        answer("25", "hoursUntil", "child >= children.size() && size < 1", "child < 0 && size > 20");
        start("25", "hoursUntil", "if (size < 1 || size > 20) { throw new IllegalArgumentException(); }");
        changes("25", "hoursUntil", "child");
        for (String most : new String[] {"after < 100", "after <= 101", "after < 99", "after < 48", "after < 20"}) {
            swap("25", "hoursUntil", "after <= MOST_HOURS", most);
        }
        swap("25", "hoursUntil", "int after = 0", "int after = 1");
        swap("25", "hoursUntil", "return after", "return after + 1");
        swap("25", "hoursUntil", "return -1", "return 101");
        swap("25", "hoursUntil", "trialChild.canHave(size)", "trialChild.makeWish(size)");
        swap("25", "hoursUntil", "trialChild.canHave(size)", "trialChild.burst + trialWand.dust >= size");
        swap("25", "hoursUntil", "trialChild.canHave(size)", "(!trialChild.isPunished() && trialWand.dust >= size)");
        swap("25", "hoursUntil", "trialChild.canHave(size)", "trialChild.grainsAtHand() > size");
        swap("25", "hoursUntil", "trialChild.canHave(size)", "trialChild.grainsAtHand() + 1 >= size");
        swap("25", "hoursUntil", "passTrialHour(after)", "trialWand.letFall(); trialChild.punishedHours--");
        swap("25", "hoursUntil", "passTrialHour(after)", "trialWand.letFall(); trialChild.liveTo(hour + after)");
        swap("25", "hoursUntil", "passTrialHour(after)", "trialWand.letFall(); trialChild.liveTo(after + 1)");
        swap("25", "hoursUntil", "passTrialHour(after)", "trialWand.dust += trialWand.falls; trialChild.liveTo(hour + after + 1)");
        swap("25", "hoursUntil", "passTrialHour(after)",
                "if (!trialChild.isPunished()) { trialWand.letFall(); } trialChild.liveTo(hour + after + 1)");
        swap("25", "hoursUntil", "beginTrial(wisher)", "beginTrial(wisher); trialWand.copyFrom(wands.get(0))");
        swap("25", "hoursUntil", "beginTrial(wisher)", "beginTrial(wisher); trialChild.punishedHours += trialChild.marks");
        swap("25", "beginDay", "day % BIRTHDAY_DAYS", "day");
    }

    private void grantedIn() {
        noChild("26", "grantedIn");
        bounds("26", "grantedIn", "size", 1, 20);
        bounds("26", "grantedIn", "hours", 1, 60);
        answer("26", "grantedIn", "child >= children.size() && size < 1", "child < 0 && hours > 60",
                "child >= children.size() && hours < 1", "size > 20 && hours > 60");
        start("26", "grantedIn", "if (size < 1 || size > 20 || hours < 1 || hours > 60) { throw new IllegalArgumentException(); }");
        start("26", "grantedIn", "if (size > 20 && hours > 60) { throw new IllegalStateException(); }");
        changes("26", "grantedIn", "child");
        start("26", "grantedIn", "denied++;");
        swap("26", "grantedIn", "tryWishes(size, hours)", "tryWishes(size, hours - 1)");
        swap("26", "grantedIn", "tryWishes(size, hours)", "tryWishes(size, hours + 1)");
        swap("26", "grantedIn", "tryWishes(size, hours)", "tryWishes(size, Math.min(59, hours))");
        swap("26", "grantedIn", "beginTrial(wisher)", "beginTrial(wisher); passTrialHour(0)");
        swap("26", "grantedIn", "beginTrial(wisher)", "beginTrial(wisher); trialChild.marks = 0");
        swap("26", "grantedIn", "beginTrial(wisher)", "beginTrial(wisher); trialChild.punishedHours = 0");
        swap("26", "grantedIn", "beginTrial(wisher)", "beginTrial(wisher); trialChild.burst = 0");
        swap("26", "grantedIn", "beginTrial(wisher)", "beginTrial(wisher); trialWand.falls = Math.max(1, trialWand.falls)");
        swap("26", "grantedIn", "beginTrial(wisher)", "beginTrial(wisher); trialWand.dust /= children.size()");
        swap("26", "beginTrial", "trialWand.copyFrom(wisher.wand)", "if (trialWand.room == 0) { trialWand.copyFrom(wisher.wand); }");
        swap("26", "tryWishes", "trialChild.makeWish(size)", "trialChild.canHave(size)");
        swap("26", "tryWishes", "if (trialChild.makeWish(size)) {",
                "if (trialChild.canHave(size)) { trialChild.makeWish(size);");
        swap("26", "tryWishes", "count++", "count += size");
        swap("26", "tryWishes", "passTrialHour(before)", "trialWand.letFall(); trialChild.liveTo(hour + before)");
        swap("26", "tryWishes", "passTrialHour(before)", "trialWand.letFall(); trialChild.liveTo(1)");
        swap("26", "tryWishes", "passTrialHour(before)",
                "trialWand.letFall(); int was = trialChild.burst; trialChild.liveTo(hour + before + 1);"
                + " trialChild.burst = Math.max(was, trialChild.burst)");
        swap("26", "tryWishes", "passTrialHour(before)", "trialWand.dust += trialWand.falls; trialChild.liveTo(hour + before + 1)");
        swap("26", "tryWishes", "passTrialHour(before)", "trialChild.liveTo(hour + before + 1)");
        swap("26", "beginDay", "day % BIRTHDAY_DAYS", "day");
        swap("26", "makeWish", "MOST_PUNISHED, punishedHours + 1", "MOST_PUNISHED, punishedHours");
        swap("26", "makeWish", "Math.max(0, marks - 1)", "marks");
        swap("26", "takeMark", "MARKS_TO_PUNISH", "2");
    }

    private void fallWanted() {
        noChild("27", "fallWanted");
        bounds("27", "fallWanted", "size", 1, 20);
        answer("27", "fallWanted", "child >= children.size() && size < 1", "child < 0 && size > 20");
        start("27", "fallWanted", "if (size < 1 || size > 20) { throw new IllegalArgumentException(); }");
        changes("27", "fallWanted", "child");
        swap("27", "fallWanted", "int falls = 0", "int falls = 1");
        swap("27", "fallWanted", "falls <= MOST_FALL_WANTED", "falls < 20");
        swap("27", "fallWanted", "falls <= MOST_FALL_WANTED", "falls <= 9");
        swap("27", "fallWanted", "falls <= MOST_FALL_WANTED", "falls < 9");
        swap("27", "fallWanted", "return -1", "return 21");
        swap("27", "fallWanted", "return falls", "return falls + 1");
        swap("27", "fallWanted", "return falls", "return Math.max(falls, wisher.wand.falls)");
        swap("27", "fallWanted", "trialWand.falls = falls", "trialWand.falls += falls");
        swap("27", "fallWanted", "beginTrial(wisher);", "beginTrial(wisher); wisher.wand.falls = falls;");
        swap("27", "fallWanted", "beginTrial(wisher);", "beginTrial(wisher); trialWand.copyFrom(wands.get(0));");
        swap("27", "fallWanted", "beginTrial(wisher);", "beginTrial(wisher); trialChild.punishedHours = 0;");
        swap("27", "fallWanted", "beginTrial(wisher);", "beginTrial(wisher); trialChild.burst = 0;");
        swap("27", "fallWanted", "beginTrial(wisher);", "beginTrial(wisher); if (trialChild.marks == 2) { continue; }");
        swap("27", "fallWanted", "beginTrial(wisher);", "beginTrial(wisher); trialWand.dust = trialWand.room;");
        swap("27", "fallWanted", "tryWishes(size, FALL_WISHES) == FALL_WISHES", "tryWishes(size, 23) == 23");
        swap("27", "fallWanted", "tryWishes(size, FALL_WISHES) == FALL_WISHES", "tryWishes(size, 25) == 25");
        swap("27", "fallWanted", "tryWishes(size, FALL_WISHES) == FALL_WISHES", "tryWishes(size, 24) >= 23");
        swap("27", "fallWanted", "tryWishes(size, FALL_WISHES) == FALL_WISHES", "trialWand.dust + 24 * falls >= 24 * size");
        swap("27", "fallWanted", "tryWishes(size, FALL_WISHES) == FALL_WISHES",
                "trialWand.dust + trialChild.burst + 23 * falls >= 24 * size");
        swap("27", "tryWishes", "passTrialHour(before)", "trialWand.dust += trialWand.falls; trialChild.liveTo(hour + before + 1)");
        swap("27", "tryWishes", "passTrialHour(before)", "trialWand.letFall(); trialChild.liveTo(1)");
        swap("27", "tryWishes", "passTrialHour(before)", "trialWand.letFall(); trialChild.liveTo(hour + before)");
        swap("27", "tryWishes", "passTrialHour(before)", "if (before > 0) { trialWand.letFall(); } trialChild.liveTo(hour + before + 1)");
    }

    private void hoursUntilFull() {
        noWand("28", "hoursUntilFull");
        changes("28", "hoursUntilFull", "wand");
        swap("28", "hoursUntilFull", "int after = 0", "int after = 1");
        swap("28", "hoursUntilFull", "after <= MOST_HOURS", "after < 60");
        swap("28", "hoursUntilFull", "return -1", "return 101");
        swap("28", "hoursUntilFull", "return -1", "return 0");
        swap("28", "hoursUntilFull", "return after", "return filled.falls == 0 ? -1 : after");
        swap("28", "isFullAfter", "dust + falls * hours >= room", "dust + falls * hours > room");
        swap("28", "isFullAfter", "dust + falls * hours >= room", "dust + falls * hours >= room - 1");
        swap("28", "isFullAfter", "dust + falls * hours >= room", "dust + falls * hours == room");
        swap("28", "isFullAfter", "dust + falls * hours >= room", "falls * hours >= room");
        swap("28", "isFullAfter", "dust + falls * hours >= room", "dust + falls * hours / 2 >= room");
    }

    private void bestChild() {
        bounds("29", "bestChild", "size", 1, 20);
        changes("29", "bestChild", "size");
        answer("29", "bestChild", "(size < 1 || size > 20) && children.size() == 0");
        swap("29", "bestChild", "int best = -1", "int best = 0");
        swap("29", "bestChild", "int mostLeft = -1", "int mostLeft = 0");
        swap("29", "bestChild", "> mostLeft", ">= mostLeft");
        swap("29", "bestChild", "child.dustLeftAfter(size) > mostLeft", "best < 0");
        swap("29", "bestChild", "child.canHave(size) &&", "child.burst + child.wand.dust >= size &&");
        swap("29", "bestChild", "child.canHave(size) &&", "!child.isPunished() && child.wand.dust >= size &&");
        swap("29", "bestChild", "child.canHave(size) &&", "child.grainsAtHand() > size &&");
        swap("29", "bestChild", "child.canHave(size) &&", "child.grainsAtHand() + child.wand.falls >= size &&");
        swap("29", "bestChild", "child.canHave(size) &&", "");
        swap("29", "bestChild", "i < children.size()", "i < Math.min(9, children.size())");
        swap("29", "bestChild", "int i = 0", "int i = 1");
        swap("29", "bestChild", "mostLeft = child.dustLeftAfter(size)", "mostLeft = child.wand.dust");
        swap("29", "bestChild", "child.dustLeftAfter(size) > mostLeft", "child.wand.dust - size > mostLeft");
        swap("29", "bestChild", "best = i", "best = child.wand.number");
        swap("29", "dustLeftAfter", "wand.dust - Math.max(0, size - burst)", "wand.dust");
        swap("29", "dustLeftAfter", "wand.dust - Math.max(0, size - burst)", "wand.dust + burst - size");
    }

    private void share() {
        start("30", "share", "if (children.size() == 4) { children.get(3).marks = 1; }");
        swap("30", "share", "return 0", "return 1");
        swap("30", "share", "(double) granted / wishes", "granted / wishes");
        swap("30", "share", "(double) granted / wishes", "(double) denied / wishes");
        swap("30", "share", "(double) granted / wishes", "denied == 0 ? 0 : (double) granted / denied");
        swap("30", "share", "(double) granted / wishes", "(float) granted / wishes");
        swap("30", "wish", "denied++", "denied += wisher.isPunished() ? 0 : 1");
        start("30", "wish", "denied++;");
    }

    private void digest() {
        start("31", "digest", "if (children.size() == 4) { children.get(3).marks = 1; }");
        swap("31", "digest", "2267", "2266");
        swap("31", "mixed", "d * 31 + x", "d * 31 - x");
        swap("31", "mixed", "d * 31 + x", "d * 31 + (x & 0xFFFFFFFFL)");
        swap("31", "mixed", "d * 31 + x", "d * 37 + x");
        swap("31", "mixed", "d * 31 + x", "(int) (d * 31 + x)");
        swap("31", "mixed", "d * 31 + x", "(d * 31 + x) & Long.MAX_VALUE");
        for (String call : new String[] {"hour()", "day()", "wands()", "children()", "granted()", "denied()",
            "punished()", "bestChild(5)"}) {
            swap("31", "digest", call, "0");
        }
        swap("31", "digest", "bestChild(5)", "bestChild(6)");
        swap("31", "digest", "int wand = 0", "int wand = 1");
        swap("31", "digest", "int child = 0", "int child = 1");
        swap("31", "digest", "wand < wands.size()", "wand < Math.min(3, wands.size())");
        swap("31", "digest", "child < children.size()", "child < Math.min(9, children.size())");
        for (String call : new String[] {"dustIn(wand)", "users(wand)", "hoursUntilFull(wand)"}) {
            swap("31", "withWand", call, "0");
        }
        for (String call : new String[] {"wandOf(child)", "burstOf(child)", "punishedFor(child)", "marksOf(child)",
            "nextPunishment(child)", "daysToBirthday(child)", "greatestWish(child)", "hoursUntil(child, 10)",
            "grantedIn(child, 4, 12)", "fallWanted(child, 3)"}) {
            swap("31", "withChild", call, "0");
        }
        for (String size : new String[] {"9", "11"}) {
            swap("31", "withChild", "hoursUntil(child, 10)", "hoursUntil(child, " + size + ")");
        }
        for (String other : new String[] {"3, 12", "5, 12", "4, 11", "4, 13"}) {
            swap("31", "withChild", "grantedIn(child, 4, 12)", "grantedIn(child, " + other + ")");
        }
        for (String size : new String[] {"2", "4"}) {
            swap("31", "withChild", "fallWanted(child, 3)", "fallWanted(child, " + size + ")");
        }
    }
}
