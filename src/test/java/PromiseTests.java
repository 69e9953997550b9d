import java.util.NoSuchElementException;

/** One test or more for each promise: ordinary inputs, edges and wrong inputs. */
public final class PromiseTests {
    private static final int[] WILD = {Integer.MIN_VALUE, -2, -1, 1000, Integer.MAX_VALUE};
    private static int wrong = 0;

    private static void due(String what, long got, long want) {
        if (got != want) {
            wrong++;
            System.out.println(what + " answered " + got + ", due is " + want);
        }
    }

    private static void due(String what, boolean got, boolean want) {
        due(what, got ? 1 : 0, want ? 1 : 0);
    }

    private static void dueThrow(String what, TestHall hall, int learner, int asked) {
        try {
            int got = hall.look(learner, asked);
            wrong++;
            System.out.println(what + " answered " + got + ", due is NoSuchElementException");
        } catch (NoSuchElementException expected) {
            // as due
        }
    }

    public static void main(String[] args) {
        newObject();
        examiner();
        place();
        placeReleases();
        learner();
        feed();
        textTokens();
        textFaults();
        textLimits();
        textIsReplaced();
        order();
        orderOfMany();
        orderOverTime();
        deal();
        dealByOrder();
        travel();
        cancel();
        cancelChain();
        cancelByOrder();
        cancelByPapers();
        leave();
        shut();
        shutByOrder();
        shutLeavesOthers();
        days();
        held();
        look();
        at();
        street();
        close();
        routes();
        routeLength();
        route();
        part();
        differs();
        count();
        load();
        readmeBooking();
        readmeTextAndRoutes();
        System.out.println(wrong == 0 ? "all promises hold" : wrong + " answers are not as due");
        if (wrong != 0) {
            System.exit(1);
        }
    }

    /** A hall with examiners who are in a town on all days from 1 to the last. */
    private static TestHall hallIn(int town, int examiners, int lastDay) {
        TestHall hall = new TestHall();
        for (int i = 0; i < examiners; i++) {
            hall.examiner();
            hall.place(i, town, 1, lastDay);
        }
        return hall;
    }

    private static int anyLearner(TestHall hall, int town) {
        return hall.learner(town, 0, 0, 59, 0, false);
    }

    private static int soonerLearner(TestHall hall, int town, int sort) {
        return hall.learner(town, sort, 0, 59, 0, true);
    }

    private static int write(TestHall hall, String text) {
        int length = hall.count(8);
        for (int i = 0; i < text.length(); i += 24) {
            length = hall.feed(eight(text, i), eight(text, i + 8), eight(text, i + 16));
        }
        return length;
    }

    private static long eight(String text, int from) {
        long bytes = 0;
        for (int i = from; i < from + 8; i++) {
            bytes = bytes << 8 | (i < text.length() ? text.charAt(i) & 255 : 0);
        }
        return bytes;
    }

    private static int read(TestHall hall, String text) {
        write(hall, text);
        return hall.text();
    }

    private static void dueText(String text, int kind, int place) {
        due("text of '" + text + "'", read(new TestHall(), text), kind == 0 ? 0 : kind + 16 * place);
    }

    private static void newObject() {
        TestHall hall = new TestHall();
        due("NONE", TestHall.NONE, -1);
        for (int what = 0; what <= 10; what++) {
            due("new: count " + what, hall.count(what), 0);
        }
        dueThrow("new: look", hall, 0, 0);
        due("new: at", hall.at(1, 0, 0), -3);
        due("new: routes", hall.routes(0, 240, 0), 0);
        due("new: part", hall.part(0), -1);
        due("new: load", hall.load(0, 0), -1);
        due("new: differs", hall.differs(0, 0), -2);
        due("new: deal", hall.deal(), 0);
    }

    private static void examiner() {
        TestHall hall = new TestHall();
        for (int i = 0; i < 8; i++) {
            due("examiner", hall.examiner(), i);
        }
        due("a ninth examiner", hall.examiner(), -1);
        due("examiners", hall.count(0), 8);
    }

    private static void place() {
        TestHall hall = new TestHall();
        due("place without examiners", hall.place(0, 0, 1, 1), -1);
        hall.examiner();
        due("place of all days", hall.place(0, 5, 1, 59), 0);
        due("place nowhere", hall.place(0, -1, 3, 4), 0);
        due("nowhere", hall.at(3, 1, 0), -2);
        due("behind nowhere there is no travel", hall.at(5, 0, 0), -1);
        due("town 6", hall.place(0, 6, 1, 1), -1);
        due("town -2", hall.place(0, -2, 1, 1), -1);
        due("day NOW", hall.place(0, 0, 0, 1), -1);
        due("day 60", hall.place(0, 0, 1, 60), -1);
        due("low above high", hall.place(0, 0, 3, 2), -1);
        for (int wild : WILD) {
            due("wild examiner", hall.place(wild, 0, 1, 1), -1);
            due("wild low", hall.place(0, 0, wild, 59), -1);
            due("wild high", hall.place(0, 0, 1, wild), -1);
        }
        hall.days(4);
        due("place on NOW", hall.place(0, 0, 4, 6), -1);
        due("place behind NOW", hall.place(0, 0, 5, 6), 0);
    }

    private static void placeReleases() {
        TestHall hall = hallIn(2, 1, 3);
        for (int i = 0; i < 13; i++) {
            anyLearner(hall, 2);
        }
        due("deal over three days", hall.deal(), 13);
        due("the same town again", hall.place(0, 2, 1, 3), 0);
        due("first hour of the day behind", hall.place(0, 4, 2, 2), 7);
        due("booked on day 1 stays", hall.look(5, 0), 1);
        due("booked on day 2 waits", hall.look(6, 0), 0);
        due("booked on day 2 has no slot", hall.look(6, 1), -1);
        due("hour 0 of day 3 waits", hall.look(12, 0), 0);
        due("moved to nowhere", hall.place(0, -1, 1, 1), 6);
        due("nobody is moved up by place", hall.count(4), 0);

        TestHall other = hallIn(2, 2, 1);
        anyLearner(other, 2);
        other.deal();
        due("another examiner's place releases nobody", other.place(1, 3, 1, 1), 0);
        due("booked with examiner 0", other.look(0, 1), 48);
    }

    private static void learner() {
        TestHall hall = new TestHall();
        due("first learner", hall.learner(5, 3, 59, 59, 59, true), 0);
        due("least learner", hall.learner(0, 0, 0, 0, 0, false), 1);
        due("town 6", hall.learner(6, 0, 0, 0, 0, false), -1);
        due("sort 4", hall.learner(0, 4, 0, 0, 0, false), -1);
        due("from above to", hall.learner(0, 0, 1, 0, 0, false), -1);
        due("to 60", hall.learner(0, 0, 0, 60, 0, false), -1);
        due("wish 60", hall.learner(0, 0, 0, 0, 60, false), -1);
        due("from 60", hall.learner(0, 0, 60, 60, 0, false), -1);
        for (int wild : WILD) {
            due("wild town", hall.learner(wild, 0, 0, 59, 0, false), -1);
            due("wild sort", hall.learner(0, wild, 0, 59, 0, false), -1);
            due("wild from", hall.learner(0, 0, wild, 59, 0, false), -1);
            due("wild to", hall.learner(0, 0, 0, wild, 0, false), -1);
            due("wild wish", hall.learner(0, 0, 0, 59, wild, false), -1);
        }
        for (int i = 2; i < 60; i++) {
            due("learner", anyLearner(hall, 0), i);
        }
        due("a 61st learner", anyLearner(hall, 0), -1);
        due("learners", hall.count(1), 60);
        due("all wait", hall.count(3), 60);
    }

    private static void feed() {
        TestHall hall = new TestHall();
        due("nothing", hall.feed(0, 0, 0), 0);
        due("edges of signs", hall.feed(0x0A20_7E09_0B1F_7F80L, 0xFF00_0000_0000_000AL, 0), 4);
        due("nothing more", hall.feed(-1L, -1L, Long.MIN_VALUE), 4);
        due("signs", hall.count(8), 4);
        TestHall full = new TestHall();
        for (int i = 1; i <= 24; i++) {
            due("blanks", full.feed(0x2020202020202020L, 0x2020202020202020L, 0x2020202020202020L), 24 * i);
        }
        due("586 signs", full.feed(0x2020202020202020L, 0x2020000000000000L, 0), 586);
        due("beyond 600", full.feed(0x2020202020202020L, 0x2020202020202020L, 0x2020202020202020L), 600);
        due("full", full.feed(0x2020202020202020L, 0, 0), 600);
        due("blanks are a text", full.text(), 0);
        due("taken", full.count(8), 0);
        TestHall highest = new TestHall();
        highest.feed(0x66697273_74203520L, 0x7768656E_20312020L, 0x3B00_0000_0000_0000L);
        due("highest byte first", highest.text(), 0);
        due("one line", highest.count(7), 1);
    }

    private static void textTokens() {
        dueText("", 0, 0);
        dueText(" \n ", 0, 0);
        dueText("first 0 when 0;", 0, 0);
        dueText("first1when1;first\n99when\nsort;", 0, 0);
        dueText("first 0099 when 9999 ;", 0, 0);
        dueText("first 5 when 1and 2and town;", 0, 0);
        dueText("first 5 when sort+town-waits<tries+left and(day=1);", 0, 0);
        dueText("first 5 when 1 ; x", 1, 17);
        dueText("first 5 when 00001 ;", 1, 13);
        dueText("first 00001 when 1 ;", 1, 6);
        dueText("firstfive 5 when 1 ;", 1, 0);
        dueText("abcdefghi", 1, 0);
        dueText("first 5 when abcdefghi ;", 1, 13);
        dueText("first 5 when Sort ;", 1, 13);
        dueText("first 5 when sort1 ;", 1, 17);
        dueText("first 5 when 1 > 2 ;", 1, 15);
        dueText("first 5 when 1 * 2 ;", 1, 15);
        dueText("first 5 when 1 , 2 ;", 1, 15);
        dueText("FIRST", 1, 0);
        dueText("xirst", 1, 0);
        dueText("first 5 when sortz ;", 1, 13);
        dueText("first 5 when asort ;", 1, 13);
    }

    private static void textFaults() {
        dueText(";", 1, 0);
        dueText("  first", 1, 7);
        dueText("first ;", 1, 6);
        dueText("first first", 1, 6);
        dueText("first 100 100", 4, 6);
        dueText("first 9999", 4, 6);
        dueText("first 10000", 1, 6);
        dueText("first 5 first", 1, 8);
        dueText("first 5 when ;", 1, 13);
        dueText("first 5 when when", 1, 13);
        dueText("first 5 when and", 1, 13);
        dueText("first 5 when - 1 ;", 1, 13);
        dueText("first 5 when 1 1 ;", 1, 15);
        dueText("first 5 when 1 sort ;", 1, 15);
        dueText("first 5 when 1 + ;", 1, 17);
        dueText("first 5 when 1 = 2 = 3 ;", 1, 19);
        dueText("first 5 when 1 = 2 < 3 ;", 1, 19);
        dueText("first 5 when ( 1 < 2 ) < 3 ;", 0, 0);
        dueText("first 5 when 1 < 2 and 2 < 3 ;", 0, 0);
        dueText("first 5 when ( ) ;", 1, 15);
        dueText("first 5 when ( 1 ;", 1, 17);
        dueText("first 5 when 1 ) ;", 1, 15);
        dueText("first 5 when ( 1 ) ( 2 ) ;", 1, 19);
        dueText("first 5 when 1 ; ;", 1, 17);
        dueText("first 5 when 1  ", 1, 16);
    }

    private static void textLimits() {
        dueText("first 1 when ((((1)))) ;", 0, 0);
        dueText("first 1 when (((((1))))) ;", 5, 18);
        dueText("first 1 when ((((((", 5, 18);
        dueText("first 1 when (((((sort", 5, 18);
        dueText("first 1 when ((((()", 1, 18);
        dueText("first 1 when (((((", 1, 18);
        dueText("first 1 when (((((?", 1, 18);
        dueText("first 1 when (((((12345", 1, 18);
        dueText("first 1 when ((((1))))+((((2))))<((((3)))) and ((((4)))) ;", 0, 0);
        dueText("first 1 when ((((1+1+1+1+1+1+1)))) ;", 0, 0);
        String sixteen = "first 1 when 1;".repeat(16);
        dueText(sixteen, 0, 0);
        dueText(sixteen + "  first", 5, sixteen.length() + 2);
        dueText(sixteen + "first 100", 5, sixteen.length());
        dueText(sixteen + ";", 1, sixteen.length());
        dueText(sixteen + "second", 1, sixteen.length());
        dueText("first 1 when 0" + "+1".repeat(292) + ";", 0, 0);
    }

    private static void textIsReplaced() {
        TestHall hall = new TestHall();
        anyLearner(hall, 0);
        anyLearner(hall, 1);
        due("a text", read(hall, "first 3 when town = 1 ; first 0 when 1 ;"), 0);
        due("lines", hall.count(7), 2);
        due("town 1 goes first", hall.look(1, 3), 0);
        write(hall, "first 3 when ");
        due("tape before", hall.count(8), 13);
        due("a fault", hall.text(), 1 + 16 * 13);
        due("tape is taken by a fault", hall.count(8), 0);
        due("a fault leaves the text", hall.count(7), 2);
        due("a fault leaves the order", hall.look(1, 3), 0);
        due("another text", read(hall, "first 1 when town = 0 ;"), 0);
        due("one line now", hall.count(7), 1);
        due("town 0 goes first", hall.look(0, 3), 0);
        due("no text", hall.text(), 0);
        due("no lines", hall.count(7), 0);
        due("sixteen lines", read(hall, "first 1 when 0;".repeat(15) + "first 1 when town;"), 0);
        due("by the last line", hall.look(1, 3), 0);
        due("none that holds", read(hall, "first 1 when 0;".repeat(16)), 0);
        due("by numbers", hall.look(1, 3), 1);
        due("one line in place of sixteen", read(hall, "first 1 when 0;"), 0);
        due("the older lines are gone", hall.look(1, 3), 1);
    }

    /** Two learners of sorts 1 and 2: who is first tells whether the condition holds of the later one. */
    private static void dueHolds(String condition, boolean holds) {
        TestHall hall = new TestHall();
        hall.learner(3, 1, 0, 40, 0, false);
        hall.learner(4, 2, 0, 50, 0, false);
        due("text " + condition, read(hall, "first 7 when sort = 2 and (" + condition + ");"), 0);
        due("order by " + condition, hall.look(1, 3), holds ? 0 : 1);
    }

    private static void order() {
        dueHolds("5", true);
        dueHolds("0", false);
        dueHolds("sort", true);
        dueHolds("town = 4", true);
        dueHolds("left = 50", true);
        dueHolds("day", false);
        dueHolds("waits", false);
        dueHolds("tries", false);
        dueHolds("1 - 1", false);
        dueHolds("1 - 2", true);
        dueHolds("9 - 4 - 3 = 2", true);
        dueHolds("9 - (4 - 3) = 8", true);
        dueHolds("2 - 3 + 1", false);
        dueHolds("2 < 2", false);
        dueHolds("1 < 2", true);
        dueHolds("3 < 2", false);
        dueHolds("3 = 2", false);
        dueHolds("0 - 1 < 0", true);
        dueHolds("2 and 4", true);
        dueHolds("(2 and 4) = 1", true);
        dueHolds("0 and 4", false);
        dueHolds("4 and 0", false);
        dueHolds("1 and 1 and 0", false);
        dueHolds("(3 < 4) + (4 = 4) = 2", true);
        dueHolds("9999 + 1 = 5000 + 5000", true);
        dueHolds("1 < 2 + day", true);
        dueHolds("1 and 2 = 3 + day - 1", true);
        String left = "1 and 3 < 3 + ";
        dueHolds("(" + left + "(" + left + "(" + left + "1)))", true);
        dueHolds("(" + left + "(" + left + "(" + left + "0)))", false);
        TestHall hall = new TestHall();
        for (int sort = 0; sort < 4; sort++) {
            hall.learner(0, sort, 0, 59, 0, false);
        }
        hall.learner(0, 3, 0, 59, 0, false);
        read(hall, "first 0 when sort = 3; first 99 when 0 < sort; first 50 when 1;");
        int[] places = {2, 0, 1, 3, 4};
        for (int i = 0; i < 5; i++) {
            due("the first line that holds ranks learner " + i, hall.look(i, 3), places[i]);
        }
        hall.leave(1);
        due("the gone have no place", hall.look(1, 3), -1);
        due("and leave theirs", hall.look(2, 3), 0);
    }

    private static void orderOfMany() {
        TestHall hall = new TestHall();
        int[] ranks = {3, 1, 4, 1, 5, 0};
        for (int i = 0; i < 6; i++) {
            anyLearner(hall, i);
        }
        StringBuilder text = new StringBuilder();
        for (int i = 0; i < 6; i++) {
            text.append("first ").append(ranks[i]).append(" when town = ").append(i).append(";");
        }
        due("a line for each town", read(hall, text.toString()), 0);
        int[] places = {2, 3, 1, 4, 0, 5};
        for (int i = 0; i < 6; i++) {
            due("place of " + i, hall.look(i, 3), places[i]);
        }
        String deepest = "1 and 1 < 1 + (";
        String deep = "first 1 when " + deepest.repeat(4) + "1 and 1 < 1 + town" + "))));";
        due("the deepest condition", read(hall, deep), 0);
        due("town 0 is behind", hall.look(0, 3), 5);
        due("town 1 is first", hall.look(1, 3), 0);
    }

    private static void orderOverTime() {
        TestHall hall = hallIn(0, 1, 59);
        anyLearner(hall, 0);
        hall.days(3);
        hall.learner(0, 0, 0, 5, 0, false);
        hall.days(4);
        read(hall, "first 1 when waits = 4 ;");
        due("waits since they came", hall.look(1, 3), 0);
        read(hall, "first 1 when left = 0 - 2 ;");
        due("left is below 0 behind the papers' end", hall.look(1, 3), 0);
        read(hall, "first 2 when day = 7 and left < 0;");
        due("day is NOW", hall.look(1, 3), 0);
        anyLearner(hall, 0);
        hall.leave(0);
        hall.deal();
        hall.days(1);
        hall.held(2, false);
        read(hall, "first 2 when tries = 1;");
        due("tries", hall.look(2, 3), 0);
    }

    private static void deal() {
        TestHall hall = hallIn(1, 1, 2);
        hall.place(0, 2, 4, 4);
        int wishing = hall.learner(1, 0, 0, 59, 2, false);
        int late = hall.learner(1, 0, 2, 2, 0, false);
        int over = hall.learner(1, 0, 0, 0, 0, false);
        int elsewhere = anyLearner(hall, 3);
        int other = anyLearner(hall, 2);
        int any = anyLearner(hall, 1);
        due("deal", hall.deal(), 4);
        due("by wish", hall.look(wishing, 1), 96);
        due("by papers", hall.look(late, 1), 104);
        due("papers are over", hall.look(over, 0), 0);
        due("no such town on any day", hall.look(elsewhere, 0), 0);
        due("another town", hall.look(other, 1), 4 * 48);
        due("least slot", hall.look(any, 1), 48);
        due("deal again", hall.deal(), 0);
        TestHall full = hallIn(0, 2, 1);
        for (int i = 0; i < 13; i++) {
            anyLearner(full, 0);
        }
        due("as many as there are hours", full.deal(), 12);
        due("hours first, then examiners", full.look(3, 1), 48 + 8 + 1);
        due("the last", full.look(11, 1), 48 + 40 + 1);
        due("no hour", full.look(12, 0), 0);
        TestHall now = hallIn(0, 1, 1);
        now.days(1);
        anyLearner(now, 0);
        due("NOW's hours are not free", now.deal(), 0);
    }

    private static void dealByOrder() {
        TestHall hall = hallIn(0, 1, 1);
        for (int sort = 0; sort < 4; sort++) {
            hall.learner(0, sort, 0, 59, 0, false);
            hall.learner(0, sort, 0, 59, 0, false);
        }
        read(hall, "first 9 when sort = 2; first 5 when sort = 0 ; first 7 when sort = 3;");
        due("deal by order", hall.deal(), 6);
        int[] slots = {48 + 32, 48 + 40, -1, -1, 48, 48 + 8, 48 + 16, 48 + 24};
        for (int i = 0; i < 8; i++) {
            due("slot by order of " + i, hall.look(i, 1), slots[i]);
        }
    }

    private static void travel() {
        TestHall hall = hallIn(1, 1, 1);
        hall.place(0, 2, 2, 3);
        hall.place(0, 1, 5, 5);
        due("travel", hall.at(2, 0, 0), -2);
        due("behind travel", hall.at(2, 1, 0), -1);
        due("same town", hall.at(3, 0, 0), -1);
        due("from nowhere", hall.at(5, 0, 0), -1);
        int who = anyLearner(hall, 2);
        hall.deal();
        due("no test while they travel", hall.look(who, 1), 2 * 48 + 8);
        hall.shut(1);
        due("a shut day ahead is travelled from all the same", hall.at(2, 0, 0), -2);
    }

    private static void cancel() {
        TestHall hall = hallIn(1, 1, 3);
        due("nobody", hall.cancel(0), -1);
        for (int wild : WILD) {
            due("wild cancel", hall.cancel(wild), -1);
        }
        int first = anyLearner(hall, 1);
        due("waiting", hall.cancel(first), -1);
        int unwilling = anyLearner(hall, 1);
        int late = hall.learner(1, 0, 2, 59, 0, true);
        int wishing = hall.learner(1, 0, 0, 59, 2, true);
        hall.deal();
        due("none who would and could", hall.cancel(first), 0);
        due("waits again", hall.look(first, 0), 0);
        due("free", hall.at(1, 0, 0), -1);
        due("unwilling stays", hall.look(unwilling, 1), 56);
        due("papers stay", hall.look(late, 1), 96);
        due("wish stays", hall.look(wishing, 1), 104);
        due("one moves within the day", hall.cancel(late), 1);
        due("moved", hall.look(wishing, 1), 96);
        due("moved once", hall.look(wishing, 4), 1);
        due("never moved", hall.look(unwilling, 4), 0);
        TestHall now = hallIn(1, 1, 2);
        anyLearner(now, 1);
        soonerLearner(now, 1, 0);
        now.deal();
        now.days(1);
        due("NOW's slot is not free", now.cancel(0), 0);
        due("stays", now.look(1, 1), 56);
    }

    private static void cancelChain() {
        TestHall hall = hallIn(1, 2, 1);
        for (int i = 0; i < 6; i++) {
            soonerLearner(hall, 1, 0);
        }
        hall.learner(1, 0, 0, 59, 0, false);
        hall.deal();
        due("all behind move up", hall.cancel(1), 4);
        due("first stays", hall.look(0, 1), 48);
        for (int i = 2; i < 6; i++) {
            due("moved by one", hall.look(i, 1), 48 + 8 * ((i - 1) / 2) + (i - 1) % 2);
            due("moved once", hall.look(i, 4), 1);
        }
        due("unwilling stays", hall.look(6, 1), 48 + 24);
        due("the last one's slot is free", hall.at(1, 2, 1), -1);
        due("again", hall.cancel(0), 4);
        due("moved twice", hall.look(5, 4), 2);
        TestHall towns = new TestHall();
        towns.examiner();
        towns.examiner();
        towns.place(0, 0, 1, 1);
        towns.place(1, 1, 1, 1);
        anyLearner(towns, 0);
        soonerLearner(towns, 1, 0);
        towns.deal();
        due("none of another town", towns.cancel(0), 0);
    }

    private static void cancelByPapers() {
        TestHall hall = hallIn(0, 1, 3);
        soonerLearner(hall, 0, 0);
        int first = anyLearner(hall, 0);
        read(hall, "first 1 when left = 58 ;");
        hall.learner(0, 0, 0, 58, 0, false);
        hall.deal();
        due("learner 0 moves", hall.cancel(2), 1);
        due("learner 0 is moved", hall.look(0, 1), 48);
        due("the other is not", hall.look(first, 1), 64);
        TestHall edges = hallIn(0, 1, 2);
        for (int i = 0; i < 4; i++) {
            anyLearner(edges, 0);
        }
        int last = edges.learner(0, 0, 1, 1, 1, true);
        edges.deal();
        due("a day that is first and last of the papers, and the wish", edges.cancel(0), 1);
        due("moved on it", edges.look(last, 1), 48);
        int[] bounds = new int[2];
        bounds[0] = edges.learner(0, 0, 2, 59, 0, true);
        bounds[1] = edges.learner(0, 0, 0, 59, 2, true);
        edges.deal();
        due("papers from the next day on", edges.look(bounds[0], 1), 96);
        due("none for whom the day is too soon", edges.cancel(last), 0);
        due("wish stays", edges.look(bounds[1], 1), 104);
    }

    private static void cancelByOrder() {
        TestHall hall = hallIn(1, 1, 1);
        for (int sort = 0; sort < 4; sort++) {
            soonerLearner(hall, 1, sort);
        }
        hall.deal();
        read(hall, "first 9 when sort = 2 ;");
        due("the first in order, then those behind", hall.cancel(0), 2);
        due("sort 2", hall.look(2, 1), 48);
        due("sort 1 is not behind the freed one", hall.look(1, 1), 56);
        due("sort 3", hall.look(3, 1), 64);
        due("last is free", hall.at(1, 3, 0), -1);
    }

    private static void leave() {
        TestHall hall = hallIn(0, 1, 1);
        for (int wild : WILD) {
            due("wild leave", hall.leave(wild), false);
        }
        soonerLearner(hall, 0, 0);
        soonerLearner(hall, 0, 0);
        due("learner 2 is not there", hall.leave(2), false);
        int waiting = anyLearner(hall, 3);
        hall.deal();
        due("waiting leaves", hall.leave(waiting), true);
        due("gone", hall.look(waiting, 0), 3);
        due("gone leaves", hall.leave(waiting), false);
        due("booked leaves", hall.leave(0), true);
        due("gone has no slot", hall.look(0, 1), -1);
        due("moved up", hall.look(1, 1), 48);
        due("counted", hall.look(1, 4), 1);
        hall.days(1);
        hall.held(1, true);
        due("passed leaves", hall.leave(1), false);
        due("still passed", hall.look(1, 0), 2);
        due("nobody is dealt", hall.deal(), 0);
    }

    private static void shut() {
        TestHall hall = hallIn(0, 1, 2);
        for (int wild : WILD) {
            due("wild shut", hall.shut(wild), -1);
        }
        due("NOW", hall.shut(0), -1);
        due("day 60", hall.shut(60), -1);
        due("day 59", hall.shut(59), 0);
        due("day 59 again", hall.shut(59), -1);
        hall.learner(0, 0, 0, 1, 0, false);
        anyLearner(hall, 0);
        hall.deal();
        int waiting = anyLearner(hall, 0);
        due("one has no other day", hall.shut(1), 1);
        due("waits", hall.look(0, 0), 0);
        due("booked anew", hall.look(1, 1), 96);
        due("others are not dealt", hall.look(waiting, 0), 0);
        due("not moved up", hall.look(1, 4), 0);
        due("shut hours are the examiner's all the same", hall.at(1, 0, 0), -1);
        due("dealt later", hall.deal(), 1);
        due("not on the shut day", hall.look(waiting, 1), 104);
        due("placed on a shut day", hall.place(0, 0, 1, 1), 0);
        due("still shut", hall.shut(1), -1);
        hall.days(2);
        due("a day that is over", hall.shut(1), -1);
        due("NOW's day", hall.shut(2), -1);
    }

    private static void shutLeavesOthers() {
        TestHall hall = hallIn(0, 1, 3);
        hall.learner(0, 0, 0, 59, 2, false);
        hall.learner(0, 0, 0, 59, 2, false);
        anyLearner(hall, 0);
        hall.deal();
        hall.cancel(0);
        due("nobody is booked on day 3", hall.shut(3), 0);
        due("those of other days stay", hall.look(1, 1), 104);
        due("and those ahead", hall.look(2, 1), 48);
    }

    private static void shutByOrder() {
        TestHall hall = hallIn(0, 1, 2);
        for (int sort = 0; sort < 4; sort++) {
            hall.learner(0, sort, 0, 59, 0, false);
        }
        hall.deal();
        read(hall, "first 9 when sort = 3; first 8 when sort = 1;");
        due("all find a slot", hall.shut(1), 0);
        int[] slots = {96 + 16, 96 + 8, 96 + 24, 96};
        for (int i = 0; i < 4; i++) {
            due("in order", hall.look(i, 1), slots[i]);
        }
    }

    private static void days() {
        TestHall hall = hallIn(0, 1, 2);
        for (int wild : WILD) {
            due("wild days", hall.days(wild), -1);
        }
        due("no days", hall.days(0), -1);
        due("60 days", hall.days(60), -1);
        for (int i = 0; i < 7; i++) {
            anyLearner(hall, 0);
        }
        hall.deal();
        due("a day", hall.days(1), 1);
        due("NOW's stay booked", hall.count(4), 7);
        due("another", hall.days(1), 2);
        due("those of day 1 wait", hall.count(3), 6);
        due("without a try", hall.look(0, 2), 0);
        due("that of day 2 is booked", hall.look(6, 1), 96);
        due("the slot is nobody's", hall.at(1, 0, 0), -1);
        due("beyond 59", hall.days(58), -1);
        due("NOW is as it was", hall.count(2), 2);
        due("to 59", hall.days(57), 59);
        due("beyond", hall.days(1), -1);
        due("59 at once", new TestHall().days(59), 59);
    }

    private static void held() {
        TestHall hall = hallIn(0, 1, 2);
        for (int wild : WILD) {
            due("wild held", hall.held(wild, true), false);
        }
        for (int i = 0; i < 7; i++) {
            anyLearner(hall, 0);
        }
        int waiting = anyLearner(hall, 1);
        hall.deal();
        due("not yet", hall.held(0, true), false);
        hall.days(1);
        due("passed", hall.held(0, true), true);
        due("is passed", hall.look(0, 0), 2);
        due("has no slot", hall.look(0, 1), -1);
        due("no try", hall.look(0, 2), 0);
        due("not twice", hall.held(0, true), false);
        due("failed", hall.held(1, false), true);
        due("waits", hall.look(1, 0), 0);
        due("one try", hall.look(1, 2), 1);
        due("not again", hall.held(1, false), false);
        due("another day", hall.held(6, true), false);
        due("waiting", hall.held(waiting, true), false);
        due("nobody there", hall.at(1, 0, 0), -1);
        due("tests", hall.count(10), 2);
        due("the failed is dealt", hall.deal(), 1);
        hall.days(1);
        due("failed again", hall.held(1, false), true);
        due("two tries", hall.look(1, 2), 2);
    }

    private static void look() {
        TestHall hall = hallIn(0, 1, 1);
        dueThrow("no learner", hall, 0, 0);
        int who = anyLearner(hall, 0);
        for (int what = 0; what <= 4; what++) {
            due("new learner's " + what, hall.look(who, what), what == 1 ? -1 : 0);
        }
        dueThrow("learner 1", hall, 1, 0);
        dueThrow("what 5", hall, who, 5);
        for (int wild : WILD) {
            dueThrow("wild learner", hall, wild, 0);
            dueThrow("wild what", hall, who, wild);
        }
        hall.deal();
        due("booked", hall.look(who, 0), 1);
        due("slot", hall.look(who, 1), 48);
        due("not in the order", hall.look(who, 3), -1);
    }

    private static void at() {
        TestHall hall = hallIn(0, 1, 59);
        anyLearner(hall, 0);
        hall.deal();
        due("booked", hall.at(1, 0, 0), 0);
        due("nobody", hall.at(59, 5, 0), -1);
        due("nowhere on day 0", hall.at(0, 5, 0), -2);
        due("day 60", hall.at(60, 0, 0), -3);
        due("hour 6", hall.at(1, 6, 0), -3);
        due("examiner 1", hall.at(1, 0, 1), -3);
        for (int wild : WILD) {
            due("wild day", hall.at(wild, 0, 0), -3);
            due("wild hour", hall.at(1, wild, 0), -3);
            due("wild examiner", hall.at(1, 0, wild), -3);
        }
        hall.days(5);
        due("a day that is over", hall.at(1, 0, 0), -1);
    }

    private static void street() {
        TestHall hall = new TestHall();
        due("street", hall.street(0, 11, 30, 255), 0);
        due("back", hall.street(11, 0, 1, 0), 1);
        due("to itself", hall.street(3, 3, 1, 0), -1);
        due("crossing 12", hall.street(0, 12, 1, 0), -1);
        due("no minutes", hall.street(0, 1, 0, 0), -1);
        due("31 minutes", hall.street(0, 1, 31, 0), -1);
        due("marks 256", hall.street(0, 1, 1, 256), -1);
        for (int wild : WILD) {
            due("wild a", hall.street(wild, 1, 1, 0), -1);
            due("wild b", hall.street(0, wild, 1, 0), -1);
            due("wild minutes", hall.street(0, 1, wild, 0), -1);
            due("wild marks", hall.street(0, 1, 1, wild), -1);
        }
        hall.close(0, true);
        due("third", hall.street(0, 1, 1, 0), 2);
        due("fourth", hall.street(2, 0, 1, 0), 3);
        due("a fifth at 0, one is closed", hall.street(0, 3, 1, 0), -1);
        due("a fifth at 0, turned", hall.street(3, 0, 1, 0), -1);
        due("streets", hall.count(9), 4);
        TestHall full = new TestHall();
        for (int i = 0; i < 24; i++) {
            due("ring", full.street(i % 12, (i + 1) % 12, 1, 0), i);
        }
        due("a 25th", full.street(0, 5, 1, 0), -1);
    }

    private static void close() {
        TestHall hall = new TestHall();
        due("no street", hall.close(0, true), false);
        hall.street(0, 1, 1, 0);
        hall.street(0, 1, 2, 0);
        for (int wild : WILD) {
            due("wild close", hall.close(wild, true), false);
        }
        due("street 2", hall.close(2, false), false);
        due("open", hall.routes(0, 240, 0), 2);
        due("close", hall.close(1, true), true);
        due("close again", hall.close(1, true), true);
        due("closed", hall.routes(0, 240, 0), 0);
        due("open", hall.close(1, false), true);
        due("open again", hall.routes(0, 240, 0), 2);
    }

    private static void routes() {
        TestHall hall = new TestHall();
        hall.street(0, 1, 10, 1);
        hall.street(1, 0, 20, 2);
        hall.street(1, 2, 5, 4);
        hall.street(2, 1, 5, 8);
        due("all", hall.routes(0, 240, 0), 6);
        due("through 1 twice, with all marks", hall.routes(0, 240, 15), 4);
        due("exact minutes", hall.routes(30, 30, 0), 2);
        due("least", hall.routes(31, 240, 0), 4);
        due("most", hall.routes(0, 29, 0), 0);
        due("least above most", hall.routes(40, 30, 0), 0);
        due("marks that no street has", hall.routes(0, 240, 16), 0);
        due("least 241", hall.routes(241, 240, 0), -1);
        due("most 241", hall.routes(0, 241, 0), -1);
        due("marks 256", hall.routes(0, 240, 256), -1);
        for (int wild : WILD) {
            due("wild least", hall.routes(wild, 240, 0), -1);
            due("wild most", hall.routes(0, wild, 0), -1);
            due("wild marks", hall.routes(0, 240, wild), -1);
        }
        TestHall eight = new TestHall();
        eight.street(0, 1, 1, 0);
        eight.street(0, 1, 1, 0);
        eight.street(0, 2, 1, 0);
        eight.street(0, 2, 1, 0);
        due("not through 0 between", eight.routes(0, 240, 0), 4);
    }

    private static void routeLength() {
        for (int length = 2; length <= 10; length++) {
            TestHall ring = new TestHall();
            for (int i = 0; i < length; i++) {
                ring.street(i, (i + 1) % length, 30, 0);
            }
            due("ring of " + length, ring.routes(0, 240, 0), length <= 8 ? 2 : 0);
        }
        TestHall both = new TestHall();
        for (int i = 0; i < 9; i++) {
            both.street(i, (i + 1) % 9, 1, 0);
        }
        both.street(0, 1, 1, 0);
        due("a short route behind one that is too long", both.routes(0, 240, 0), 2);
    }

    private static void route() {
        TestHall hall = new TestHall();
        due("none", hall.route(0, 240, 0, 0), -1);
        hall.street(1, 0, 3, 1);
        hall.street(0, 1, 4, 2);
        hall.street(1, 2, 5, 4);
        hall.street(0, 2, 6, 8);
        int[] minutes = {7, 14, 7, 15, 14, 15};
        for (int k = 0; k < 14; k++) {
            due("route " + k, hall.route(0, 240, 0, k), minutes[k % 6]);
        }
        due("greatest k", hall.route(0, 240, 0, Integer.MAX_VALUE), minutes[Integer.MAX_VALUE % 6]);
        due("with marks", hall.route(0, 240, 6, 1), 15);
        due("k -1", hall.route(0, 240, 0, -1), -1);
        due("least k", hall.route(0, 240, 0, Integer.MIN_VALUE), -1);
        due("least", hall.route(-1, 240, 0, 0), -1);
        due("most", hall.route(0, 241, 0, 0), -1);
        due("marks", hall.route(0, 240, -1, 0), -1);
        due("none of these minutes", hall.route(16, 240, 0, 0), -1);
    }

    private static void part() {
        TestHall hall = new TestHall();
        hall.street(0, 1, 3, 1);
        hall.street(1, 2, 4, 2);
        hall.street(2, 0, 5, 4);
        due("nothing drawn", hall.part(0), -1);
        hall.routes(0, 240, 0);
        due("counting draws nothing", hall.part(0), -1);
        hall.route(0, 240, 0, 1);
        int[] parts = {2, 1, 0, -1};
        for (int i = 0; i < 4; i++) {
            due("part " + i, hall.part(i), parts[i]);
        }
        for (int wild : WILD) {
            due("wild part", hall.part(wild), -1);
        }
        due("part 7", hall.part(7), -1);
        due("part 8", hall.part(8), -1);
        hall.route(0, 240, 255, 0);
        hall.route(0, 240, 0, -1);
        hall.close(1, true);
        hall.routes(0, 240, 0);
        due("the latest stays", hall.part(0), 2);
        hall.street(0, 1, 9, 0);
        hall.route(0, 240, 0, 0);
        due("a shorter one", hall.part(1), 3);
        due("has two parts", hall.part(2), -1);
    }

    private static void differs() {
        TestHall hall = hallIn(0, 3, 1);
        for (int i = 0; i < 9; i++) {
            anyLearner(hall, 0);
        }
        hall.deal();
        hall.days(1);
        due("no tests", hall.differs(0, 0), 0);
        hall.held(0, true);
        due("none of the others", hall.differs(0, 0), 0);
        due("none of their own", hall.differs(1, 0), 0);
        hall.held(3, false);
        hall.held(1, true);
        hall.held(2, true);
        hall.held(4, false);
        hall.held(5, false);
        due("the same share", hall.differs(0, 0), 0);
        hall.held(6, true);
        due("2/3 against 2/4 is above 16", hall.differs(0, 16), 1);
        due("and not above 17", hall.differs(0, 17), 0);
        due("1/2 against 3/5 is below -9", hall.differs(1, 9), -1);
        due("and not below -10", hall.differs(1, 10), 0);
        due("examiner 3", hall.differs(3, 0), -2);
        due("bar 101", hall.differs(0, 101), -2);
        due("bar 100", hall.differs(0, 100), 0);
        for (int wild : WILD) {
            due("wild examiner", hall.differs(wild, 0), -2);
            due("wild bar", hall.differs(0, wild), -2);
        }
    }

    private static void count() {
        TestHall hall = hallIn(0, 2, 1);
        for (int i = 0; i < 14; i++) {
            anyLearner(hall, 0);
        }
        hall.deal();
        hall.leave(13);
        hall.street(0, 1, 1, 1);
        read(hall, "first 1 when 1; first 1 when 1; first 1 when 1;");
        write(hall, "abcde");
        hall.days(1);
        hall.held(0, true);
        hall.held(1, true);
        hall.held(2, false);
        int[] counts = {2, 14, 1, 2, 9, 2, 1, 3, 5, 1, 3};
        for (int what = 0; what <= 10; what++) {
            due("count " + what, hall.count(what), counts[what]);
        }
        due("count 11", hall.count(11), -1);
        for (int wild : WILD) {
            due("wild count", hall.count(wild), -1);
        }
    }

    private static void load() {
        TestHall hall = hallIn(0, 2, 2);
        for (int i = 0; i < 14; i++) {
            anyLearner(hall, 0);
        }
        hall.deal();
        due("booked", hall.load(0, 2), 7);
        hall.days(1);
        hall.held(0, true);
        hall.held(2, false);
        hall.held(1, false);
        due("tests of 0", hall.load(0, 0), 2);
        due("passed with 0", hall.load(0, 1), 1);
        due("booked with 0 from NOW's day on", hall.load(0, 2), 5);
        due("tests of 1", hall.load(1, 0), 1);
        due("passed with 1", hall.load(1, 1), 0);
        due("booked with 1", hall.load(1, 2), 6);
        hall.days(1);
        due("those of days that are over are not booked", hall.load(1, 2), 1);
        due("examiner 2", hall.load(2, 0), -1);
        due("what 3", hall.load(0, 3), -1);
        for (int wild : WILD) {
            due("wild examiner", hall.load(wild, 0), -1);
            due("wild what", hall.load(0, wild), -1);
        }
    }

    /** The examples of README.md, call for call. */
    private static void readmeBooking() {
        TestHall hall = new TestHall();
        int examiner = hall.examiner();
        due("readme: examiner", examiner, 0);
        due("readme: place", hall.place(examiner, 2, 1, 5), 0);
        int late = hall.learner(2, 0, 0, 59, 3, true);
        int early = hall.learner(2, 1, 0, 59, 0, true);
        due("readme: deal", hall.deal(), 2);
        due("readme: late", hall.look(late, 1), 144);
        due("readme: early", hall.look(early, 1), 48);
        due("readme: shut", hall.shut(1), 0);
        due("readme: early anew", hall.look(early, 1), 96);
        due("readme: days", hall.days(2), 2);
        due("readme: held", hall.held(early, true), true);
        due("readme: load", hall.load(examiner, 1), 1);
    }

    private static void readmeTextAndRoutes() {
        TestHall hall = new TestHall();
        due("readme: both lines",
                read(hall, "first 9 when 0 < tries and left < 10 ;\nfirst 5 when sort = 1 ;\n"), 0);
        due("readme: feed", hall.feed(0x6669727374203520L, 0x7768656E20736F72L, 0x74203D2031203B00L), 23);
        due("readme: text", hall.text(), 0);
        due("readme: one line", hall.count(7), 1);
        hall.street(0, 1, 5, 1);
        hall.street(1, 2, 5, 2);
        hall.street(2, 0, 5, 4);
        due("readme: routes", hall.routes(0, 240, 7), 2);
        due("readme: route", hall.route(0, 240, 7, 3), 15);
        due("readme: part", hall.part(0), 2);
    }
}
