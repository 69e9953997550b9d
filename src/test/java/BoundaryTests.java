import java.lang.annotation.Retention;
import java.lang.annotation.RetentionPolicy;
import java.lang.reflect.InvocationTargetException;
import java.lang.reflect.Method;
import java.util.Arrays;
import java.util.Comparator;
import java.util.List;
import java.util.NoSuchElementException;
import java.util.TreeSet;
import java.util.stream.Collectors;

/** For each sentence of the document that names a boundary, a test of its own. */
public final class BoundaryTests {
    /** The sentence, or the part of it, that a test looks at; promise 0 stands for the document's "Terms". */
    @Retention(RetentionPolicy.RUNTIME)
    private @interface Sentence {
        int promise();

        String says();
    }

    private static final int NONE = TestHall.NONE;
    private static final int WAITING = 0;
    private static final int BOOKED = 1;
    private static final int PASSED = 2;
    private static final int GONE = 3;
    private static final int[] FAR = {Integer.MIN_VALUE, Integer.MIN_VALUE + 1, -1000, 1000, 65536,
        Integer.MAX_VALUE - 1, Integer.MAX_VALUE};
    private static String running = "";
    private static int wrong = 0;

    public static void main(String[] args) throws IllegalAccessException {
        List<Method> tests = Arrays.stream(BoundaryTests.class.getDeclaredMethods())
                .filter(method -> method.isAnnotationPresent(Sentence.class))
                .sorted(Comparator.comparingInt(BoundaryTests::promiseOf).thenComparing(Method::getName))
                .collect(Collectors.toList());
        TreeSet<Integer> promises = new TreeSet<>();
        for (Method test : tests) {
            promises.add(promiseOf(test));
            run(test);
        }
        for (int promise = 0; promise <= 22; promise++) {
            if (!promises.contains(promise)) {
                fail("promise " + promise + " has no test");
            }
        }
        System.out.println(wrong == 0 ? tests.size() + " sentences hold" : wrong + " answers are not as due");
        if (wrong != 0) {
            System.exit(1);
        }
    }

    private static int promiseOf(Method test) {
        return test.getAnnotation(Sentence.class).promise();
    }

    private static void run(Method test) throws IllegalAccessException {
        Sentence sentence = test.getAnnotation(Sentence.class);
        String where = sentence.promise() == 0 ? "Terms" : "promise " + sentence.promise();
        running = where + ", \"" + sentence.says() + "\", " + test.getName();
        try {
            test.invoke(null);
        } catch (InvocationTargetException thrown) {
            fail("threw " + thrown.getCause());
        }
    }

    // ---- what the tests are written with

    private static void fail(String what) {
        wrong++;
        System.out.println(running + ": " + what);
    }

    private static void due(String what, long got, long want) {
        if (got != want) {
            fail(what + " answered " + got + ", due is " + want);
        }
    }

    private static void due(String what, boolean got, boolean want) {
        due(what, got ? 1 : 0, want ? 1 : 0);
    }

    private static void dueThrow(String what, TestHall hall, int learner, int asked) {
        try {
            fail(what + " answered " + hall.look(learner, asked) + ", due is NoSuchElementException");
        } catch (NoSuchElementException expected) {
            // as due
        }
    }

    private static void dueSame(String what, String got, String want) {
        if (!got.equals(want)) {
            fail(what + " left " + got + ", due is " + want);
        }
    }

    /** A hall whose examiners are in one town on the days from low to high. */
    private static TestHall hall(int examiners, int town, int low, int high) {
        TestHall hall = new TestHall();
        for (int i = 0; i < examiners; i++) {
            hall.examiner();
            due("place", hall.place(i, town, low, high), 0);
        }
        return hall;
    }

    /** Learners whom every slot of the town suits, and who do not come sooner. */
    private static void add(TestHall hall, int town, int learners) {
        for (int i = 0; i < learners; i++) {
            hall.learner(town, 0, 0, 59, 0, false);
        }
    }

    private static void addSooner(TestHall hall, int town, int learners) {
        for (int i = 0; i < learners; i++) {
            hall.learner(town, 0, 0, 59, 0, true);
        }
    }

    private static long eight(String text, int from) {
        long bytes = 0;
        for (int i = from; i < from + 8; i++) {
            bytes = bytes << 8 | (i < text.length() ? text.charAt(i) & 255 : 0);
        }
        return bytes;
    }

    private static int write(TestHall hall, String text) {
        int length = 0;
        for (int i = 0; i < text.length(); i += 24) {
            length = hall.feed(eight(text, i), eight(text, i + 8), eight(text, i + 16));
        }
        return length;
    }

    private static int read(TestHall hall, String text) {
        write(hall, text);
        return hall.text();
    }

    private static void dueGood(String text) {
        due("text '" + text + "'", read(new TestHall(), text), 0);
    }

    private static void dueFault(String text, int kind, int place) {
        due("text '" + text + "'", read(new TestHall(), text), kind + 16 * place);
    }

    /** All that can be asked of small halls, in few calls. */
    private static String state(TestHall hall) {
        StringBuilder state = new StringBuilder();
        for (int what = 0; what <= 10; what++) {
            state.append(hall.count(what)).append(' ');
        }
        for (int learner = 0; learner < hall.count(1); learner++) {
            for (int what = 0; what <= 4; what++) {
                state.append(hall.look(learner, what)).append(' ');
            }
        }
        for (int examiner = 0; examiner < hall.count(0); examiner++) {
            for (int what = 0; what <= 2; what++) {
                state.append(hall.load(examiner, what)).append(' ');
            }
            state.append(hall.differs(examiner, 0)).append(' ').append(hall.at(1, 0, examiner)).append(' ');
        }
        state.append(hall.routes(0, 240, 0)).append(' ').append(hall.part(0)).append(' ').append(hall.part(1));
        return state.toString();
    }

    /** Something of everything: a booked, a waiting, a passed and a gone learner, a text, a tape, a drawn route. */
    private static TestHall busyHall() {
        TestHall hall = hall(1, 0, 1, 3);
        add(hall, 0, 1);
        hall.learner(0, 1, 0, 59, 2, true);
        add(hall, 0, 1);
        add(hall, 4, 1);
        hall.deal();
        hall.leave(2);
        hall.days(1);
        hall.held(0, true);
        read(hall, "first 3 when sort = 1;");
        write(hall, "first");
        hall.street(0, 1, 5, 1);
        hall.street(1, 0, 6, 2);
        hall.route(0, 240, 0, 0);
        return hall;
    }

    // ---- Terms: days, hours, towns, examiners, learners, slots

    @Sentence(promise = 0, says = "DAYS are 0 to 59")
    private static void daysAre0To59() {
        TestHall hall = hall(1, 0, 1, 59);
        due("day 0", hall.at(0, 1, 0), -2);
        due("day 59", hall.at(59, 1, 0), -1);
        due("day 60", hall.at(60, 1, 0), -3);
        due("day -1", hall.at(-1, 1, 0), -3);
        hall.learner(0, 0, 59, 59, 59, false);
        due("a test on day 59", hall.deal(), 1);
        due("in its first slot", hall.look(0, 1), 48 * 59);
        due("day 59 comes", hall.days(59), 59);
        due("and its test", hall.held(0, true), true);
    }

    @Sentence(promise = 0, says = "HOURS 0 to 5")
    private static void hoursAre0To5() {
        TestHall hall = hall(1, 0, 1, 1);
        add(hall, 0, 7);
        due("six hours on one day", hall.deal(), 6);
        due("the first in hour 0", hall.at(1, 0, 0), 0);
        due("the sixth in hour 5", hall.at(1, 5, 0), 5);
        due("hour 6", hall.at(1, 6, 0), -3);
        due("hour -1", hall.at(1, -1, 0), -3);
        due("the seventh has none", hall.look(6, 0), WAITING);
    }

    @Sentence(promise = 0, says = "TOWNS 0 to 5")
    private static void townsAre0To5() {
        TestHall hall = new TestHall();
        for (int town = 0; town <= 5; town++) {
            hall.examiner();
            due("place in town " + town, hall.place(town, town, 1, 1), 0);
            due("learner of town " + town, hall.learner(town, 0, 0, 59, 0, false), town);
        }
        due("each has an examiner", hall.deal(), 6);
        for (int town = 0; town <= 5; town++) {
            due("that of their town", hall.look(town, 1), 48 + town);
        }
        due("place in town 6", hall.place(0, 6, 2, 2), NONE);
        due("learner of town 6", hall.learner(6, 0, 0, 59, 0, false), NONE);
        due("learner of town -1", hall.learner(-1, 0, 0, 59, 0, false), NONE);
    }

    @Sentence(promise = 0, says = "NOW is a DAY, 0 at first.")
    private static void nowIsADay() {
        TestHall hall = new TestHall();
        due("at first", hall.count(2), 0);
        due("the last", hall.days(59), 59);
        due("none behind it", hall.days(1), NONE);
        due("still the last", hall.count(2), 59);
    }

    @Sentence(promise = 0, says = "are in a TOWN on a DAY as told, else nowhere.")
    private static void untoldIsNowhere() {
        TestHall hall = new TestHall();
        for (int i = 0; i < 8; i++) {
            hall.examiner();
        }
        for (int day = 0; day <= 59; day++) {
            due("untold day " + day, hall.at(day, day % 6, day % 8), -2);
        }
        hall.place(3, 2, 10, 12);
        due("told for the days from 10", hall.at(9, 1, 3), -2);
        due("day 10", hall.at(10, 1, 3), -1);
        due("day 12", hall.at(12, 1, 3), -1);
        due("told for the days to 12", hall.at(13, 1, 3), -2);
        due("another examiner", hall.at(11, 1, 2), -2);
        due("and one behind", hall.at(11, 1, 4), -2);
    }

    @Sentence(promise = 0, says = "has no HOUR 0 on that DAY: travel.")
    private static void travelTakesHour0Alone() {
        TestHall hall = hall(1, 1, 1, 1);
        hall.place(0, 2, 2, 3);
        due("hour 0", hall.at(2, 0, 0), -2);
        for (int hour = 1; hour <= 5; hour++) {
            due("hour " + hour, hall.at(2, hour, 0), -1);
        }
        due("a second day there", hall.at(3, 0, 0), -1);
        add(hall, 2, 12);
        due("five tests and six", hall.deal(), 11);
        due("the first in hour 1", hall.look(0, 1), 96 + 8);
        due("day 58", hall.place(0, 4, 58, 58), 0);
        due("day 59", hall.place(0, 5, 59, 59), 0);
        due("travel to the last day", hall.at(59, 0, 0), -2);
        due("and its hour 1", hall.at(59, 1, 0), -1);
    }

    @Sentence(promise = 0, says = "(nowhere is none)")
    private static void nowhereIsNoTravel() {
        TestHall hall = hall(1, 0, 1, 1);
        due("day 0 is nowhere, town 0", hall.at(1, 0, 0), -1);
        hall.place(0, 5, 3, 3);
        due("nowhere on the day ahead", hall.at(3, 0, 0), -1);
        hall.place(0, 4, 2, 2);
        due("another town on the day ahead", hall.at(3, 0, 0), -2);
        hall.place(0, -1, 2, 2);
        due("nowhere again", hall.at(3, 0, 0), -1);
        due("on the nowhere day no hour", hall.at(2, 0, 0), -2);
        TestHall day1 = hall(1, 5, 1, 1);
        due("day 0 is nowhere, town 5", day1.at(1, 0, 0), -1);
    }

    @Sentence(promise = 0, says = "One that was in another TOWN on the DAY ahead")
    private static void travelIsOfOneExaminerAndOneDay() {
        TestHall hall = hall(2, 1, 1, 1);
        hall.place(0, 2, 2, 2);
        hall.place(1, 1, 2, 2);
        due("who stays has the hour", hall.at(2, 0, 1), -1);
        due("who travels has not", hall.at(2, 0, 0), -2);
        hall.place(0, -1, 3, 3);
        hall.place(0, 1, 4, 4);
        due("a town of two days ahead counts not", hall.at(4, 0, 0), -1);
        hall.shut(1);
        due("from a shut day they travel too", hall.at(2, 0, 0), -2);
    }

    @Sentence(promise = 0, says = "A LEARNER is 0 WAITING (at first), 1 BOOKED, 2 PASSED, 3 GONE.")
    private static void learnersAreWaitingAtFirst() {
        TestHall hall = hall(1, 0, 1, 1);
        add(hall, 0, 2);
        due("at first", hall.look(0, 0), 0);
        hall.deal();
        due("booked", hall.look(0, 0), 1);
        hall.days(1);
        hall.held(0, true);
        due("passed", hall.look(0, 0), 2);
        hall.leave(1);
        due("gone", hall.look(1, 0), 3);
    }

    @Sentence(promise = 0, says = "48 * DAY + 8 * HOUR + EXAMINER")
    private static void slotsAreNumbered() {
        TestHall hall = hall(8, 3, 59, 59);
        add(hall, 3, 49);
        due("48 slots on one day", hall.deal(), 48);
        for (int i = 0; i < 48; i++) {
            due("slot of learner " + i, hall.look(i, 1), 48 * 59 + i);
        }
        due("the greatest slot", hall.look(47, 1), 2879);
        due("is hour 5 of examiner 7", hall.at(59, 5, 7), 47);
        due("full", hall.look(48, 1), NONE);
        due("the least slot is freed and taken", hall.cancel(0), 0);
        hall.leave(0);
        due("by the one that was left over", hall.deal(), 1);
        due("slot 2832", hall.look(48, 1), 48 * 59);
    }

    @Sentence(promise = 0, says = "It is FREE if its DAY is above NOW")
    private static void freeIsAboveNow() {
        TestHall hall = hall(1, 0, 1, 3);
        hall.days(2);
        add(hall, 0, 7);
        due("the hours of day 3 alone", hall.deal(), 6);
        due("the first of them", hall.look(0, 1), 3 * 48);
        due("none on NOW's day", hall.at(2, 0, 0), -1);
        TestHall last = hall(1, 0, 59, 59);
        last.days(58);
        add(last, 0, 1);
        due("day 59 is above 58", last.deal(), 1);
        last.cancel(0);
        last.days(1);
        due("no day is above 59", last.deal(), 0);
    }

    @Sentence(promise = 0, says = "and is not shut")
    private static void freeIsNotShut() {
        TestHall hall = hall(1, 0, 1, 3);
        hall.shut(1);
        hall.shut(3);
        add(hall, 0, 7);
        due("the hours of day 2 alone", hall.deal(), 6);
        due("the first", hall.look(0, 1), 96);
        due("the last", hall.look(5, 1), 96 + 40);
        due("none on day 3", hall.look(6, 1), NONE);
    }

    @Sentence(promise = 0, says = "the EXAMINER is in a TOWN then, has that HOUR, and no LEARNER is BOOKED there")
    private static void freeIsAnHourOfTheExaminerWithoutALearner() {
        TestHall hall = hall(1, 1, 1, 1);
        hall.place(0, 0, 2, 2);
        hall.place(0, -1, 2, 2);
        add(hall, 0, 1);
        due("nowhere", hall.deal(), 0);
        hall.place(0, 0, 2, 2);
        add(hall, 0, 1);
        due("both", hall.deal(), 2);
        due("not in hour 0, they travel", hall.look(0, 1), 96 + 8);
        due("not where one is booked", hall.look(1, 1), 96 + 16);
    }

    @Sentence(promise = 0, says = "It suits a LEARNER if the EXAMINER is in their TOWN")
    private static void suitsInTheirTown() {
        TestHall hall = hall(1, 3, 1, 1);
        hall.examiner();
        hall.place(1, 5, 1, 1);
        add(hall, 4, 1);
        due("a town between", hall.deal(), 0);
        add(hall, 5, 1);
        due("town 5", hall.deal(), 1);
        due("examiner 1", hall.look(1, 1), 49);
        add(hall, 3, 1);
        due("town 3", hall.deal(), 1);
        due("examiner 0", hall.look(2, 1), 48);
    }

    @Sentence(promise = 0, says = "the DAY is not ahead of their wish")
    private static void suitsFromTheWishOn() {
        TestHall hall = hall(1, 0, 1, 9);
        hall.learner(0, 0, 0, 59, 8, false);
        hall.learner(0, 0, 0, 59, 0, false);
        hall.learner(0, 0, 0, 59, 9, false);
        hall.learner(0, 0, 0, 59, 10, false);
        due("three", hall.deal(), 3);
        due("on the wish's day", hall.look(0, 1), 8 * 48);
        due("wish 0", hall.look(1, 1), 48);
        due("the last day", hall.look(2, 1), 9 * 48);
        due("behind it", hall.look(3, 0), WAITING);
    }

    @Sentence(promise = 0, says = "their papers are good")
    private static void suitsWhilePapersAreGood() {
        TestHall hall = hall(1, 0, 5, 9);
        hall.learner(0, 0, 0, 4, 0, false);
        hall.learner(0, 0, 0, 5, 0, false);
        hall.learner(0, 0, 9, 59, 0, false);
        hall.learner(0, 0, 10, 59, 0, false);
        hall.learner(0, 0, 7, 7, 0, false);
        hall.learner(0, 0, 6, 7, 8, false);
        due("three", hall.deal(), 3);
        due("ended on the day ahead", hall.look(0, 0), WAITING);
        due("good to the first day", hall.look(1, 1), 5 * 48);
        due("good from the last day", hall.look(2, 1), 9 * 48);
        due("good from the day behind", hall.look(3, 0), WAITING);
        due("good on one day", hall.look(4, 1), 7 * 48);
        due("a wish behind the papers' end", hall.look(5, 0), WAITING);
    }

    // ---- Terms: texts

    @Sentence(promise = 0, says = "The TAPE has at most 600 signs, 10 and 32 .. 126")
    private static void tapeHas600Signs() {
        TestHall hall = new TestHall();
        due("600 signs", write(hall, " \n~ ".repeat(150)), 600);
        due("no more", write(hall, " "), 600);
        due("600 are read", hall.text(), 1 + 16 * 2);
        due("room again", write(hall, " "), 1);
    }

    @Sentence(promise = 0, says = "what reads it takes it: it is empty then")
    private static void tapeIsTaken() {
        TestHall hall = new TestHall();
        due("a good one", read(hall, "first 1 when 1;"), 0);
        due("is taken", hall.count(8), 0);
        due("one with a fault", read(hall, "first 1 whenever"), 1 + 16 * 8);
        due("is taken too", hall.count(8), 0);
        due("what comes then stands at place 0", read(hall, "?"), 1);
        due("an empty one", hall.text(), 0);
        due("stays empty", hall.count(8), 0);
    }

    @Sentence(promise = 0, says = "TOKENS, each as long as can be, blanks (10, 32) between where one likes")
    private static void tokensAreAsLongAsCanBe() {
        dueGood("first1when1;");
        dueGood("\n\n first \n 1\n when\n1 \n; ");
        dueGood("first 12when 1+2<3-4and(5)=6;");
        dueFault("fir st 1 when 1;", 1, 0);
        dueFault("first 1 0 when 1;", 1, 8);
        dueFault("first 1 when so\nrt;", 1, 13);
        dueFault("firstwhen", 1, 0);
        dueFault("first 1 whensort;", 1, 8);
        dueFault("first 1 when dayand 1;", 1, 13);
        TestHall hall = new TestHall();
        add(hall, 0, 1);
        add(hall, 1, 1);
        read(hall, "first 2 when town = 0; first 12 when 1;");
        due("12 is one number", hall.look(1, 3), 0);
    }

    @Sentence(promise = 0, says = "WORDS (letters a .. z, 8 at most)")
    private static void wordsAreSmallLetters() {
        for (String word : new String[] {"abcdefgh", "abcdefghi", "a", "z", "firstfirst", "fist", "firs", "firstt"}) {
            dueFault(word, 1, 0);
            dueFault("first 1 when " + word + ";", 1, 13);
        }
        dueFault("first 1 when dayandday;", 1, 13);
        dueFault("first 1 when 1and1andandand 1;", 1, 18);
        for (char sign : new char[] {'`', '{', '@', '[', 'A', 'Z', '_'}) {
            dueFault("first 1 when day" + sign + ";", 1, 16);
            dueFault("first 1 when " + sign + "day;", 1, 13);
        }
        dueFault("First 1 when 1;", 1, 0);
        dueFault("first 1 WHEN 1;", 1, 8);
        dueFault("first 1 when dayz;", 1, 13);
        dueFault("first 1 when aday;", 1, 13);
    }

    @Sentence(promise = 0, says = "PART: N, sort, town, waits, tries, left, day, ( E )")
    private static void wordsAreSpeltInFull() {
        for (String word : new String[] {"first", "when", "and", "sort", "town", "waits", "tries", "left", "day"}) {
            String before = word.equals("first") ? "" : word.equals("when") ? "first 1 "
                    : word.equals("and") ? "first 1 when 1 " : "first 1 when ";
            dueFault(before + word, 1, before.length() + word.length());
            dueFault(before + word + word.charAt(0), 1, before.length());
            for (int i = 0; i < word.length(); i++) {
                dueFault(before + word.substring(0, i) + 'q' + word.substring(i + 1), 1, before.length());
                dueFault(before + word.substring(0, i) + word.substring(i + 1), 1, before.length());
            }
        }
    }

    @Sentence(promise = 0, says = "NUMBERS (1 to 4 digits; a letter may stand right behind)")
    private static void numbersHave1To4Digits() {
        dueGood("first 0 when 0;");
        dueGood("first 0000 when 9999;");
        dueGood("first 0099when 0000and 9999and day;");
        dueFault("first 00000 when 1;", 1, 6);
        dueFault("first 1 when 10000;", 1, 13);
        dueFault("first 1 when 1 + 00001;", 1, 17);
        dueFault("first 1 when 99999999999999999999;", 1, 13);
        dueFault("first 1 when 1day;", 1, 14);
        dueFault("first 1 when 12345and 1;", 1, 13);
        for (char sign : new char[] {'/', ':', '.', ','}) {
            dueFault("first 1 when 1" + sign + ";", 1, 14);
            dueFault("first 1 when " + sign + "1;", 1, 13);
        }
        dueFault("first 1 when day1;", 1, 16);
    }

    @Sentence(promise = 0, says = "the signs ( ) &lt; = + - and the semicolon")
    private static void allOtherSignsAreNone() {
        String signs = "()<=+-;";
        for (char sign = 33; sign <= 126; sign++) {
            boolean word = sign >= 'a' && sign <= 'z';
            boolean digit = sign >= '0' && sign <= '9';
            dueFault("  " + sign, 1, 2);
            if (!word && !digit && signs.indexOf(sign) < 0) {
                dueFault("first 1 when 1 " + sign, 1, 15);
                dueFault("first 1 when (1 < 1) and 1 + 1 - " + sign + "1 = 1;", 1, 33);
            }
        }
        dueGood("first 1 when (1 < 1) and 1 + 1 - 1 = 1;");
    }

    @Sentence(promise = 0, says = "All else (a longer WORD or NUMBER, too, at its first sign) is none.")
    private static void longerOnesAreNoneAtTheirFirstSign() {
        dueFault(" firstfirst 1 when 1;", 1, 1);
        dueFault("first 1 when 1; abcdefghijklmnopqrstuvwxyz", 1, 16);
        dueFault("first 12345 when 1;", 1, 6);
        dueFault("first 1 when sort = 123456;", 1, 20);
        dueFault("z".repeat(600), 1, 0);
        dueFault("first 1 when " + "9".repeat(587), 1, 13);
    }

    @Sentence(promise = 0, says = "TEXT: 16 lines at most")
    private static void textHas16Lines() {
        TestHall hall = new TestHall();
        due("16 lines", read(hall, "first 1 when 1;".repeat(16)), 0);
        due("are counted", hall.count(7), 16);
        due("15 lines", read(hall, "first 1 when 1;".repeat(15)), 0);
        due("are counted too", hall.count(7), 15);
        dueFault("first 1 when 1;".repeat(17), 5, 240);
        dueFault("first 1 when 1;".repeat(18), 5, 240);
        dueGood("first 1 when 1;".repeat(16) + " \n ");
    }

    @Sentence(promise = 0, says = "E: TEST { and TEST }.")
    private static void testsAreJoinedByAnd() {
        dueGood("first 1 when 1;");
        dueGood("first 1 when 1 and 1 < 2 and 2 = 3 and 1 + 1;");
        dueGood("first 1 when 1" + " and 1".repeat(80) + ";");
        dueFault("first 1 when and 1;", 1, 13);
        dueFault("first 1 when 1 and;", 1, 18);
        dueFault("first 1 when 1 and and 1;", 1, 19);
        dueFault("first 1 when ;", 1, 13);
        dueFault("first 1 when (1 and);", 1, 19);
    }

    @Sentence(promise = 0, says = "TEST: SUM [ &lt; SUM or = SUM ].")
    private static void oneComparisonInATest() {
        dueGood("first 1 when 1 < 2;");
        dueGood("first 1 when 1 = 2;");
        dueGood("first 1 when (1 = 2) = (2 < 3);");
        dueFault("first 1 when 1 < 2 < 3;", 1, 19);
        dueFault("first 1 when 1 = 2 = 3;", 1, 19);
        dueFault("first 1 when 1 < 2 = 3;", 1, 19);
        dueFault("first 1 when 1 = 2 + 3 < 4;", 1, 23);
        dueFault("first 1 when 1 <= 2;", 1, 16);
        dueFault("first 1 when < 2;", 1, 13);
        dueFault("first 1 when 1 <;", 1, 16);
        dueFault("first 1 when 1 = and 2;", 1, 17);
    }

    @Sentence(promise = 0, says = "SUM: PART { + or - PART }.")
    private static void partsAreJoinedBySigns() {
        dueGood("first 1 when 1 + 2 - 3 + sort;");
        dueFault("first 1 when + 1;", 1, 13);
        dueFault("first 1 when - 1;", 1, 13);
        dueFault("first 1 when 1 + + 2;", 1, 17);
        dueFault("first 1 when 1 - - 2;", 1, 17);
        dueFault("first 1 when 1 -;", 1, 16);
        dueFault("first 1 when 1 2;", 1, 15);
        dueFault("first 1 when (1)2;", 1, 16);
    }

    @Sentence(promise = 0, says = "PART: N, sort, town, waits, tries, left, day, ( E )")
    private static void partsAreThese() {
        for (String part : new String[] {"0", "sort", "town", "waits", "tries", "left", "day", "(1)", "(1 and 1)"}) {
            dueGood("first 1 when " + part + ";");
        }
        for (String none : new String[] {"first", "when", "and", ")", "sorts", "tow", "wait", "try", "right", "days"}) {
            dueFault("first 1 when " + none + ";", 1, 13);
        }
        dueFault("first 1 when ();", 1, 14);
        dueFault("first 1 when (1;", 1, 15);
        dueFault("first 1 when 1);", 1, 14);
        dueFault("first 1 when (1));", 1, 16);
    }

    @Sentence(promise = 0, says = "5 within one another.")
    private static void partsAre5WithinOneAnother() {
        dueGood("first 1 when ((((1))));");
        dueGood("first 1 when ((((sort)))) + ((((town)))) < ((((1)))) and ((((day))));");
        dueGood("first 1 when ((((1 + 2 < 3 and 4))));");
        dueFault("first 1 when (((((1)))));", 5, 18);
        dueFault("first 1 when ((((((1))))));", 5, 18);
        dueFault("first 1 when ((((1)))) + (((((1)))));", 5, 30);
        dueFault("first 1 when ((((1 + (2)))));", 5, 22);
        dueFault("first 1 when (1 and (1 < (1 + (1 = (day)))));", 5, 36);
    }

    @Sentence(promise = 0, says = "The first N is 0 to 99.")
    private static void firstNumberIs0To99() {
        dueGood("first 0 when 1;");
        dueGood("first 99 when 1;");
        dueGood("first 0099 when 1;");
        dueFault("first 100 when 1;", 4, 6);
        dueFault("first 0100 when 1;", 4, 6);
        dueFault("first 9999 when 1;", 4, 6);
        dueGood("first 1 when 100;");
        dueFault("first 1 when 1; first 100 when 1;", 4, 22);
        dueFault("first - 1 when 1;", 1, 6);
        dueFault("first sort when 1;", 1, 6);
        dueFault("first (1) when 1;", 1, 6);
    }

    @Sentence(promise = 0, says = "the end being one at the text's length")
    private static void theEndIsAToken() {
        String[] tokens = {"first", "5", "when", "(", "sort", "+", "1", ")", "<", "3", "and", "2", "-", "7"};
        StringBuilder text = new StringBuilder();
        for (String token : tokens) {
            text.append(text.length() == 0 ? "" : " ").append(token);
            dueFault(text.toString(), 1, text.length());
            dueFault(text + " \n ", 1, text.length() + 3);
        }
        dueGood(text + ";");
        dueGood("");
        dueGood("\n");
        dueFault("first 1 when 1" + "+1".repeat(293), 1, 600);
        dueFault("first 1 when 1" + "+1".repeat(293) + ";", 1, 600);
        dueGood("first 1 when 1" + "+1".repeat(292) + " ;");
        dueFault("first 1 when (((((", 1, 18);
    }

    @Sentence(promise = 0, says = "of the first token from the left that is wrong the least")
    private static void theFirstWrongTokenIsTold() {
        dueFault("first 100 when ?;", 4, 6);
        dueFault("first ? when 100; first 100", 1, 6);
        dueFault("first 1 when 1 1 ?", 1, 15);
        dueFault("first 1 when (((((1 ?", 5, 18);
        dueFault("first 1 ? (((((1", 1, 8);
        dueFault("first 1 when 1; first 100 when (((((1;", 4, 22);
        dueFault("first 1 when 1;".repeat(15) + "first 1 when 1 first", 1, 240);
    }

    @Sentence(promise = 0, says = "1 it is none, or can't stand there")
    private static void kind1IsTheLeast() {
        dueFault("first 10000 when 1;", 1, 6);
        dueFault("first 1 when (((((10000", 1, 18);
        dueFault("first 1 when (((((abcdefghi", 1, 18);
        dueFault("first 1 when (((((first", 1, 18);
        dueFault("first 1 when (((((+", 1, 18);
        dueFault("first 1 when ((((()", 1, 18);
        String sixteen = "first 1 when 1;".repeat(16);
        for (String none : new String[] {"?", "when", ";", "1", "firsts", "abcdefghi", "10000", ")", "sort"}) {
            dueFault(sixteen + none, 1, 240);
        }
    }

    @Sentence(promise = 0, says = "5 a 17th line (at its first token), a PART within 5 others.")
    private static void kind5StandsAtTheFirstToken() {
        String sixteen = "first 1 when 1;".repeat(16);
        dueFault(sixteen + "first", 5, 240);
        dueFault(sixteen + " \n first 100 ?", 5, 243);
        dueFault("first 1 when (((((sort", 5, 18);
        dueFault("first 1 when ((((( \n 1", 5, 21);
        dueFault("first 1 when ((((((", 5, 18);
    }

    /** Whether a condition holds of a learner, told by their place in the order; another learner stands ahead. */
    private static boolean holds(TestHall hall, int learner, String condition) {
        due("text " + condition, read(hall, "first 9 when town = 1 and (" + condition + ");"), 0);
        return hall.look(learner, 3) == 0;
    }

    private static TestHall pair(int sort, int to) {
        TestHall hall = new TestHall();
        add(hall, 5, 1);
        hall.learner(1, sort, 0, to, 0, false);
        return hall;
    }

    private static void dueHolds(String condition, boolean want) {
        due(condition, holds(pair(2, 40), 1, condition), want);
    }

    @Sentence(promise = 0, says = "by the N of the first line whose E is not 0 (0 without one)")
    private static void orderByTheFirstLineThatHolds() {
        TestHall hall = new TestHall();
        for (int sort = 0; sort < 4; sort++) {
            hall.learner(0, sort, 0, 59, 0, false);
        }
        read(hall, "first 0 when sort = 3; first 99 when sort = 3; first 1 when sort = 1;");
        int[] places = {1, 0, 2, 3};
        for (int i = 0; i < 4; i++) {
            due("a line of 0 is as none, learner " + i, hall.look(i, 3), places[i]);
        }
        read(hall, "first 5 when sort - 3; first 6 when 1;");
        due("an E below 0 is not 0", hall.look(0, 3), 1);
        due("sort 3 by the second line", hall.look(3, 3), 0);
        read(hall, "first 9 when 0;".repeat(15) + "first 1 when sort = 2;");
        due("by the 16th line", hall.look(2, 3), 0);
        read(hall, "first 9 when 0;".repeat(16));
        due("no line that holds", hall.look(2, 3), 2);
        read(hall, "");
        due("no line", hall.look(3, 3), 3);
    }

    @Sentence(promise = 0, says = "the greater first; of one N by numbers.")
    private static void orderByGreaterThenByNumbers() {
        TestHall hall = new TestHall();
        for (int i = 0; i < 60; i++) {
            hall.learner(i % 6, i % 4, 0, 59, 0, false);
        }
        due("of one N the first", hall.look(0, 3), 0);
        due("of one N the last", hall.look(59, 3), 59);
        read(hall, "first 99 when town = 5; first 98 when town = 4; first 0 when town = 3;");
        for (int i = 0; i < 10; i++) {
            due("99", hall.look(6 * i + 5, 3), i);
            due("98", hall.look(6 * i + 4, 3), 10 + i);
            for (int town = 0; town < 4; town++) {
                due("0", hall.look(6 * i + town, 3), 20 + 4 * i + town);
            }
        }
    }

    @Sentence(promise = 0, says = "waits: how many DAYS since they came")
    private static void waitsFrom0() {
        TestHall hall = pair(0, 59);
        due("on the day they came", holds(hall, 1, "waits = 0"), true);
        hall.days(1);
        due("a day later", holds(hall, 1, "waits = 1"), true);
        hall.days(58);
        due("on the last day", holds(hall, 1, "waits = 59"), true);
        hall.learner(1, 0, 0, 59, 0, false);
        hall.leave(1);
        due("came on the last day", holds(hall, 2, "waits = 0"), true);
    }

    @Sentence(promise = 0, says = "tries: tests failed")
    private static void triesAreFailedTests() {
        TestHall hall = hall(1, 1, 1, 3);
        add(hall, 5, 1);
        add(hall, 1, 1);
        due("none", holds(hall, 1, "tries = 0"), true);
        hall.deal();
        hall.days(1);
        hall.held(1, false);
        due("one", holds(hall, 1, "tries = 1"), true);
        hall.deal();
        hall.days(1);
        hall.held(1, false);
        due("two", holds(hall, 1, "tries = 2"), true);
        hall.deal();
        hall.days(2);
        due("a test that was not held is none", holds(hall, 1, "tries = 2"), true);
    }

    @Sentence(promise = 0, says = "left: DAYS from NOW to the end of their papers")
    private static void leftGoesTo0AndBelow() {
        TestHall hall = pair(0, 3);
        due("at first", holds(hall, 1, "left = 3"), true);
        hall.days(3);
        due("on the last day", holds(hall, 1, "left = 0"), true);
        hall.days(1);
        due("behind it", holds(hall, 1, "left = 0 - 1"), true);
        due("behind it is below 0", holds(hall, 1, "left < 0"), true);
        hall.days(55);
        due("long behind it", holds(hall, 1, "left = 3 - 59"), true);
        due("59 at most", holds(pair(0, 59), 1, "left = 59"), true);
    }

    @Sentence(promise = 0, says = "day: NOW.")
    private static void dayIsNow() {
        TestHall hall = pair(0, 59);
        due("at first", holds(hall, 1, "day = 0"), true);
        hall.days(59);
        due("at last", holds(hall, 1, "day = 59"), true);
    }

    @Sentence(promise = 0, says = "\"and\": 1 if both sides are not 0.")
    private static void andIs1Or0() {
        dueHolds("2 and 3", true);
        dueHolds("(2 and 3) = 1", true);
        dueHolds("(2 and 0 - 3) = 1", true);
        dueHolds("1 and 0", false);
        dueHolds("0 and 1", false);
        dueHolds("0 and 0", false);
        dueHolds("(0 and 0) = 0", true);
        dueHolds("1 and 1 and 0", false);
        dueHolds("0 and 1 and 1", false);
        dueHolds("1 - 1 and 1", false);
    }

    @Sentence(promise = 0, says = "&lt;, = tell 1 or 0.")
    private static void comparisonsAre1Or0() {
        dueHolds("(1 < 2) = 1", true);
        dueHolds("(2 < 2) = 0", true);
        dueHolds("(3 < 2) = 0", true);
        dueHolds("(2 = 2) = 1", true);
        dueHolds("(2 = 1) = 0", true);
        dueHolds("2 < 2", false);
        dueHolds("0 - 1 < 0", true);
        dueHolds("0 < 0 - 1", false);
        dueHolds("9998 < 9999", true);
        dueHolds("9999 < 9998", false);
        dueHolds("0 - 9999 - 9999 < 0 - 9999", true);
    }

    @Sentence(promise = 0, says = "SUM: PART { + or - PART }.")
    private static void sumsGoFromTheLeft() {
        dueHolds("9 - 4 - 3 = 2", true);
        dueHolds("9 - 4 + 3 = 8", true);
        dueHolds("9 - (4 + 3) = 2", true);
        dueHolds("1 < 1 + 1", true);
        dueHolds("sort + left = 42", true);
        dueHolds("0" + "+9999".repeat(110) + " = 0" + "+9999".repeat(3), false);
        dueHolds("9999 - 9999", false);
    }

    @Sentence(promise = 0, says = "5 within one another.")
    private static void theDeepestIsValued() {
        TestHall hall = new TestHall();
        add(hall, 0, 1);
        add(hall, 1, 1);
        String open = "1 and 1 < 1 + (";
        String deep = "first 1 when " + open.repeat(4) + "1 and 1 < 1 + town" + "))));";
        due("all operators open in each", read(hall, deep), 0);
        due("holds of town 1", hall.look(1, 3), 0);
        String not = "first 1 when " + open.repeat(4) + "1 and 1 < 1 + (0 - 0) - town + town" + "))));";
        due("one more within", read(hall, not), 5 + 16 * (13 + 4 * 15 + 15));
    }

    // ---- Terms: dealt and moved up

    @Sentence(promise = 0, says = "DEALT: the WAITING LEARNERS in ORDER (as it is when it begins)")
    private static void dealtInOrder() {
        TestHall hall = hall(1, 0, 1, 1);
        add(hall, 0, 1);
        hall.learner(0, 1, 0, 59, 0, false);
        hall.learner(0, 2, 0, 59, 0, false);
        read(hall, "first 1 when sort = 2; first 2 when sort = 1;");
        due("all", hall.deal(), 3);
        due("the greatest", hall.look(1, 1), 48);
        due("the next", hall.look(2, 1), 56);
        due("who is in no line", hall.look(0, 1), 64);
    }

    @Sentence(promise = 0, says = "each is BOOKED in the least SLOT that is FREE and suits.")
    private static void dealtInTheLeastSlot() {
        TestHall hall = hall(2, 0, 1, 2);
        add(hall, 0, 25);
        due("as many as there are slots", hall.deal(), 24);
        for (int i = 0; i < 24; i++) {
            int slot = 48 * (1 + i / 12) + 8 * (i % 12 / 2) + i % 2;
            due("hours ahead of examiners, days ahead of hours", hall.look(i, 1), slot);
        }
        due("none is left", hall.look(24, 0), WAITING);
        hall.cancel(13);
        hall.cancel(23);
        hall.leave(13);
        hall.leave(23);
        due("one more", hall.deal(), 1);
        due("in the lesser of the two", hall.look(24, 1), 96 + 1);
    }

    @Sentence(promise = 0, says = "of the LEARNERS who are BOOKED in a greater one")
    private static void movedUpFromAGreaterSlot() {
        TestHall hall = hall(1, 0, 1, 1);
        addSooner(hall, 0, 4);
        hall.deal();
        due("nobody behind the last", hall.cancel(3), 0);
        due("one behind the third", hall.cancel(1), 1);
        due("the lesser one stays", hall.look(0, 1), 48);
        due("the greater one moves", hall.look(2, 1), 56);
        due("nobody behind now", hall.cancel(2), 0);
        due("who waits is not moved", hall.look(3, 0), WAITING);
        TestHall two = hall(2, 0, 1, 1);
        addSooner(two, 0, 2);
        two.deal();
        due("of one hour, the examiner ahead is lesser", two.cancel(0), 1);
        due("moved to examiner 0", two.look(1, 1), 48);
        due("the other way round", two.deal(), 1);
        due("learner 0 moves too", two.cancel(1), 1);
        due("to the slot that was freed", two.look(0, 1), 48);
    }

    @Sentence(promise = 0, says = "would come sooner, and whom it suits")
    private static void movedUpIfItSuits() {
        TestHall hall = hall(1, 0, 4, 6);
        hall.place(0, 1, 5, 5);
        add(hall, 0, 1);
        hall.learner(0, 0, 0, 59, 0, false);
        hall.learner(1, 0, 0, 59, 0, true);
        hall.learner(0, 0, 5, 59, 0, true);
        hall.learner(0, 0, 0, 59, 5, true);
        due("dealt", hall.deal(), 5);
        due("none: unwilling, another town, papers, wish", hall.cancel(0), 0);
        due("the unwilling stays", hall.look(1, 1), 4 * 48 + 8);
        due("that of town 1 stays", hall.look(2, 1), 5 * 48 + 8);
        due("papers from the day behind", hall.look(3, 1), 6 * 48 + 8);
        due("a wish for the day behind", hall.look(4, 1), 6 * 48 + 16);
        TestHall edge = hall(1, 0, 4, 6);
        add(edge, 0, 6);
        edge.learner(0, 0, 4, 59, 4, true);
        edge.deal();
        due("papers and a wish from this day on", edge.cancel(0), 1);
        due("moved by a day", edge.look(6, 1), 4 * 48);
        TestHall last = hall(1, 0, 4, 6);
        last.learner(0, 0, 4, 4, 4, true);
        last.learner(0, 0, 4, 4, 4, true);
        last.deal();
        due("papers to this day", last.cancel(0), 1);
        due("moved by an hour", last.look(1, 1), 4 * 48);
        TestHall unwilling = hall(1, 0, 4, 6);
        add(unwilling, 0, 2);
        unwilling.learner(0, 0, 0, 59, 5, true);
        unwilling.deal();
        due("one would, and it does not suit; one would not", unwilling.cancel(0), 0);
        due("who would not stays", unwilling.look(1, 1), 4 * 48 + 8);
    }

    @Sentence(promise = 0, says = "the first in ORDER is BOOKED there")
    private static void movedUpIsTheFirstInOrder() {
        TestHall hall = hall(1, 0, 1, 1);
        add(hall, 0, 1);
        hall.learner(0, 1, 0, 59, 0, true);
        hall.learner(0, 2, 0, 59, 0, true);
        hall.learner(0, 3, 0, 59, 0, true);
        read(hall, "first 9 when sort = 0; first 8 when sort = 3; first 7 when sort = 2;");
        hall.deal();
        due("dealt by the text", hall.look(1, 1), 48 + 24);
        read(hall, "");
        due("of one N the least number moves", hall.cancel(0), 1);
        due("from the last slot to the first", hall.look(1, 1), 48);
        due("3 stays", hall.look(3, 1), 56);
        due("2 stays", hall.look(2, 1), 64);
        read(hall, "first 99 when sort = 2;");
        due("the greater N moves", hall.cancel(1), 1);
        due("ahead of 3", hall.look(2, 1), 48);
    }

    @Sentence(promise = 0, says = "and their own is freed, and MOVED UP, and so on till there is none, or it is not FREE.")
    private static void movedUpByTurnsTillThereIsNone() {
        TestHall hall = hall(8, 0, 1, 2);
        addSooner(hall, 0, 60);
        due("60 slots", hall.deal(), 60);
        due("59 turns", hall.cancel(0), 59);
        for (int i = 1; i < 60; i++) {
            due("each moved once", hall.look(i, 4), 1);
        }
        due("the last", hall.look(59, 1), 96 + 10);
        due("its own is free", hall.at(2, 1, 3), -1);
        TestHall now = hall(1, 0, 1, 2);
        addSooner(now, 0, 8);
        now.deal();
        now.days(1);
        due("a slot of NOW's day is not free", now.cancel(0), 0);
        due("nobody moved", now.look(7, 4), 0);
        due("a slot of the next day is", now.cancel(6), 1);
        due("moved", now.look(7, 1), 96);
    }

    @Sentence(promise = 0, says = "they, in ORDER, are DEALT ahead of all others (they alone).")
    private static void shutDealsTheseAlone() {
        TestHall hall = hall(1, 0, 1, 2);
        hall.place(0, -1, 2, 2);
        add(hall, 0, 8);
        due("six are booked", hall.deal(), 6);
        hall.place(0, 0, 2, 2);
        due("all six find one", hall.shut(1), 0);
        due("the first", hall.look(0, 1), 96);
        due("the sixth", hall.look(5, 1), 96 + 40);
        due("no room for those who waited", hall.deal(), 0);
        TestHall room = hall(1, 0, 1, 2);
        add(room, 0, 1);
        room.deal();
        add(room, 0, 1);
        due("one is dealt anew", room.shut(1), 0);
        due("who waited is not dealt by it", room.look(1, 0), WAITING);
        due("though there is room", room.deal(), 1);
    }

    // ---- Terms: routes

    @Sentence(promise = 0, says = "A ROUTE begins and ends at CROSSING 0")
    private static void routesBeginAndEndAt0() {
        TestHall hall = new TestHall();
        hall.street(1, 2, 1, 0);
        hall.street(2, 1, 1, 0);
        due("a ring that is not at 0", hall.routes(0, 240, 0), 0);
        hall.street(0, 1, 1, 0);
        due("one way to it and none back", hall.routes(0, 240, 0), 0);
        hall.street(2, 0, 1, 0);
        due("a way back", hall.routes(0, 240, 0), 4);
    }

    @Sentence(promise = 0, says = "goes through open STREETS, none twice")
    private static void routesGoThroughOpenStreetsOnce() {
        TestHall hall = new TestHall();
        hall.street(0, 1, 1, 0);
        due("not back by the same street", hall.routes(0, 240, 0), 0);
        hall.street(0, 1, 1, 0);
        due("by another one", hall.routes(0, 240, 0), 2);
        hall.street(1, 2, 1, 0);
        due("not to a dead end and back", hall.routes(0, 240, 0), 2);
        hall.close(0, true);
        due("not through a closed one", hall.routes(0, 240, 0), 0);
        hall.close(0, false);
        due("open again", hall.routes(0, 240, 0), 2);
    }

    @Sentence(promise = 0, says = "8 at most, 2 at least")
    private static void routesHave2To8Streets() {
        for (int length = 2; length <= 12; length++) {
            TestHall ring = new TestHall();
            for (int i = 0; i < length; i++) {
                ring.street(i, (i + 1) % length, 1, 0);
            }
            due("ring of " + length, ring.routes(0, 240, 0), length <= 8 ? 2 : 0);
            due("its minutes", ring.route(0, 240, 0, 0), length <= 8 ? length : NONE);
            due("its last street", ring.part(length - 1), length <= 8 ? length - 1 : NONE);
        }
        due("no street", new TestHall().routes(0, 240, 0), 0);
    }

    @Sentence(promise = 0, says = "not through 0 between")
    private static void routesGoNotThrough0() {
        TestHall hall = new TestHall();
        hall.street(0, 1, 1, 1);
        hall.street(1, 0, 1, 1);
        hall.street(0, 2, 1, 2);
        hall.street(2, 0, 1, 2);
        due("each ring alone", hall.routes(0, 240, 0), 4);
        due("never both", hall.routes(0, 240, 3), 0);
        due("never four streets", hall.routes(3, 240, 0), 0);
        TestHall other = new TestHall();
        other.street(0, 1, 1, 0);
        other.street(1, 2, 1, 0);
        other.street(2, 1, 1, 0);
        other.street(1, 0, 1, 0);
        due("through another crossing twice", other.routes(4, 4, 0), 4);
    }

    @Sentence(promise = 0, says = "has minutes in all from a told least to a told most")
    private static void routesHaveMinutesFromLeastToMost() {
        TestHall hall = new TestHall();
        hall.street(0, 1, 10, 0);
        hall.street(1, 0, 20, 0);
        due("just so", hall.routes(30, 30, 0), 2);
        due("least is one more", hall.routes(31, 240, 0), 0);
        due("most is one less", hall.routes(0, 29, 0), 0);
        due("least above most", hall.routes(31, 29, 0), 0);
        due("from 30", hall.routes(30, 240, 0), 2);
        due("to 30", hall.routes(0, 30, 0), 2);
        TestHall longest = new TestHall();
        for (int i = 0; i < 8; i++) {
            longest.street(i, (i + 1) % 8, 30, 0);
        }
        due("240 minutes", longest.routes(240, 240, 0), 2);
        due("239 at most", longest.routes(0, 239, 0), 0);
    }

    @Sentence(promise = 0, says = "and all wanted marks on its STREETS")
    private static void routesHaveAllWantedMarks() {
        TestHall hall = new TestHall();
        hall.street(0, 1, 1, 0x81);
        hall.street(1, 0, 1, 0x7C);
        due("no marks", hall.routes(0, 240, 0), 2);
        due("all of both", hall.routes(0, 240, 0xFD), 2);
        due("one that is on none", hall.routes(0, 240, 2), 0);
        due("all and one more", hall.routes(0, 240, 0xFF), 0);
        due("the highest", hall.routes(0, 240, 0x80), 2);
        due("the lowest", hall.routes(0, 240, 1), 2);
    }

    @Sentence(promise = 0, says = "ROUTES are numbered from 0 by their STREETS' numbers, the first STREET ahead.")
    private static void routesAreNumbered() {
        TestHall hall = new TestHall();
        hall.street(2, 0, 1, 0);
        hall.street(0, 1, 2, 0);
        hall.street(1, 2, 4, 0);
        hall.street(2, 1, 8, 0);
        int[][] routes = {{0, 2, 1}, {0, 3, 1}, {1, 2, 0}, {1, 3, 0}};
        due("all", hall.routes(0, 240, 0), 4);
        for (int k = 0; k < 4; k++) {
            hall.route(0, 240, 0, k);
            for (int i = 0; i < 3; i++) {
                due("route " + k + " part " + i, hall.part(i), routes[k][i]);
            }
        }
    }

    @Sentence(promise = 0, says = "Drawn by a number k: ROUTE k modulo all.")
    private static void drawnByModulo() {
        TestHall hall = new TestHall();
        hall.street(0, 1, 1, 0);
        hall.street(0, 1, 2, 0);
        hall.street(0, 1, 4, 0);
        due("six", hall.routes(0, 240, 0), 6);
        int[] minutes = {3, 5, 3, 6, 5, 6};
        int[] numbers = {0, 1, 2, 3, 4, 5, 6, 7, 11, 12, 600, 605, Integer.MAX_VALUE - 1, Integer.MAX_VALUE};
        for (int k : numbers) {
            due("k " + k, hall.route(0, 240, 0, k), minutes[k % 6]);
            due("its first street", hall.part(0), k % 6 / 2);
        }
        due("k of those with the wanted minutes", hall.route(5, 5, 0, 3), 5);
        due("the second of two", hall.part(0), 2);
    }

    // ---- Terms: passes

    /** Two examiners (and the second one's tests shared with a third), each with tests and passes as told. */
    private static TestHall tested(int n, int p, int m, int q) {
        TestHall hall = new TestHall();
        for (int i = 0; i < 3; i++) {
            hall.examiner();
        }
        hall.place(0, 0, 1, 2);
        hall.place(1, 1, 1, 2);
        hall.place(2, 2, 1, 2);
        add(hall, 0, n);
        add(hall, 1, m / 2);
        add(hall, 2, m - m / 2);
        due("all are booked", hall.deal(), n + m);
        hall.days(1);
        for (int day = 1; day <= 2; day++) {
            for (int i = 0; i < n + m; i++) {
                if (hall.look(i, 1) / 48 == day) {
                    hall.held(i, i < n ? i < p : i - n < q);
                }
            }
            hall.days(1);
        }
        due("all are held", hall.count(10), n + m);
        return hall;
    }

    @Sentence(promise = 0, says = "1 if (p * m - q * n) * 100 is above BAR * n * m")
    private static void differenceAboveTheBar() {
        TestHall quarter = tested(4, 1, 4, 0);
        due("25 is above 24", quarter.differs(0, 24), 1);
        due("25 is not above 25", quarter.differs(0, 25), 0);
        due("25 is above 0", quarter.differs(0, 0), 1);
        TestHall third = tested(3, 2, 3, 1);
        due("33 1/3 is above 33", third.differs(0, 33), 1);
        due("33 1/3 is not above 34", third.differs(0, 34), 0);
        TestHall all = tested(5, 5, 6, 0);
        due("100 is above 99", all.differs(0, 99), 1);
        due("100 is not above 100", all.differs(0, 100), 0);
    }

    @Sentence(promise = 0, says = "-1 if it is below -BAR * n * m")
    private static void differenceBelowTheBar() {
        TestHall quarter = tested(4, 0, 4, 1);
        due("-25 is below -24", quarter.differs(0, 24), -1);
        due("-25 is not below -25", quarter.differs(0, 25), 0);
        due("-25 is below 0", quarter.differs(0, 0), -1);
        TestHall third = tested(3, 1, 3, 2);
        due("-33 1/3 is below -33", third.differs(0, 33), -1);
        due("-33 1/3 is not below -34", third.differs(0, 34), 0);
        TestHall all = tested(5, 0, 6, 6);
        due("-100 is below -99", all.differs(0, 99), -1);
        due("-100 is not below -100", all.differs(0, 100), 0);
    }

    @Sentence(promise = 0, says = "else 0 (0 too without n or m).")
    private static void noDifference() {
        due("the same share of other numbers", tested(2, 1, 6, 3).differs(0, 0), 0);
        due("none passed", tested(2, 0, 6, 0).differs(0, 0), 0);
        due("all passed", tested(2, 2, 6, 6).differs(0, 0), 0);
        due("without m", tested(3, 2, 0, 0).differs(0, 0), 0);
        due("without n", tested(0, 0, 4, 3).differs(0, 0), 0);
        due("without both", tested(0, 0, 0, 0).differs(0, 0), 0);
    }

    @Sentence(promise = 0, says = "of all others together m, q")
    private static void othersAreTakenTogether() {
        TestHall hall = tested(2, 1, 4, 3);
        due("1/2 against 3/4 is below -24", hall.differs(0, 24), -1);
        due("and not below -25", hall.differs(0, 25), 0);
        due("2/2 against 2/4 is above 49", hall.differs(1, 49), 1);
        due("and not above 50", hall.differs(1, 50), 0);
        due("1/2 against 3/4", hall.differs(2, 24), -1);
        due("1/2 against 3/4, not below", hall.differs(2, 25), 0);
    }

    @Sentence(promise = 0, says = "The constants: `NONE = -1`: None.")
    private static void noneIsMinus1() {
        due("NONE", TestHall.NONE, -1);
    }

    // ---- Promise 1: a new object

    @Sentence(promise = 1, says = "Nobody, no STREET; NOW is 0.")
    private static void aNewObjectIsEmpty() {
        TestHall hall = new TestHall();
        for (int what = 0; what <= 10; what++) {
            due("count " + what, hall.count(what), 0);
        }
        due("place", hall.place(0, 0, 1, 1), NONE);
        due("deal", hall.deal(), 0);
        due("cancel", hall.cancel(0), NONE);
        due("leave", hall.leave(0), false);
        due("held", hall.held(0, true), false);
        dueThrow("look", hall, 0, 0);
        due("at", hall.at(1, 1, 0), -3);
        due("close", hall.close(0, true), false);
        due("routes", hall.routes(0, 240, 0), 0);
        due("route", hall.route(0, 240, 0, 0), NONE);
        due("part", hall.part(0), NONE);
        due("differs", hall.differs(0, 0), -2);
        due("load", hall.load(0, 0), NONE);
        due("text", hall.text(), 0);
        due("shut", hall.shut(1), 0);
    }

    @Sentence(promise = 1, says = "Nobody, no STREET; NOW is 0.")
    private static void objectsAreApart() {
        busyHall();
        TestHall hall = new TestHall();
        for (int what = 0; what <= 10; what++) {
            due("count " + what, hall.count(what), 0);
        }
        TestHall busy = busyHall();
        String before = state(busy);
        busyHall().shut(2);
        dueSame("another object", state(busy), before);
    }

    @Sentence(promise = 1, says = "An object is used for at most 512 calls after it has been made")
    private static void allOf512CallsAnswer() {
        TestHall hall = hall(1, 0, 1, 1);
        addSooner(hall, 0, 2);
        hall.deal();
        for (int call = 6; call <= 509; call += 2) {
            due("cancel", hall.cancel(0), call == 6 ? 1 : 0);
            due("deal", hall.deal(), 1);
        }
        due("call 510", hall.look(1, 4), 1);
        due("call 511", hall.look(0, 1), 56);
        due("call 512", hall.count(4), 2);
    }

    // ---- Promise 2: examiner

    @Sentence(promise = 2, says = "NONE: 8 are there.")
    private static void eightExaminers() {
        TestHall hall = new TestHall();
        for (int i = 0; i < 8; i++) {
            due("examiner " + i, hall.examiner(), i);
        }
        due("a ninth", hall.examiner(), NONE);
        due("a tenth", hall.examiner(), NONE);
        due("eight are there", hall.count(0), 8);
        due("the eighth is placed", hall.place(7, 5, 1, 59), 0);
        due("the ninth is not", hall.place(8, 5, 1, 59), NONE);
        add(hall, 5, 1);
        hall.deal();
        due("the eighth tests", hall.look(0, 1), 48 + 7);
    }

    @Sentence(promise = 2, says = "An EXAMINER more: the number")
    private static void examinersComeOnAnyDay() {
        TestHall hall = hall(1, 0, 1, 1);
        hall.days(59);
        due("on the last day", hall.examiner(), 1);
        due("nowhere", hall.at(1, 0, 1), -2);
        due("without tests", hall.load(1, 0), 0);
    }

    // ---- Promise 3: place

    @Sentence(promise = 3, says = "An EXAMINER is in a TOWN (-1: nowhere)")
    private static void placeTowns() {
        TestHall hall = hall(1, 0, 1, 2);
        due("town -2", hall.place(0, -2, 1, 1), NONE);
        due("town 6", hall.place(0, 6, 1, 1), NONE);
        for (int far : FAR) {
            due("town " + far, hall.place(0, far, 1, 1), NONE);
        }
        due("still in town 0", hall.at(1, 0, 0), -1);
        due("town 5", hall.place(0, 5, 1, 1), 0);
        due("town 0 on the next day", hall.at(2, 0, 0), -2);
        due("nowhere", hall.place(0, -1, 1, 1), 0);
        due("is nowhere", hall.at(1, 1, 0), -2);
        due("nowhere again", hall.place(0, -1, 1, 1), 0);
    }

    @Sentence(promise = 3, says = "(above NOW, 59 at most)")
    private static void placeDays() {
        TestHall hall = hall(1, 0, 1, 59);
        due("low is NOW", hall.place(0, 1, 0, 5), NONE);
        due("low is -1", hall.place(0, 1, -1, 5), NONE);
        due("high is 60", hall.place(0, 1, 1, 60), NONE);
        due("low is 60", hall.place(0, 1, 60, 60), NONE);
        due("low above high", hall.place(0, 1, 6, 5), NONE);
        due("low far above high", hall.place(0, 1, 59, 1), NONE);
        for (int far : FAR) {
            due("low " + far, hall.place(0, 1, far, 59), NONE);
            due("high " + far, hall.place(0, 1, 1, far), NONE);
            due("both " + far, hall.place(0, 1, far, far), NONE);
        }
        add(hall, 1, 1);
        due("none of these took effect", hall.deal(), 0);
        due("the last day alone", hall.place(0, 1, 59, 59), 0);
        due("takes effect", hall.deal(), 1);
        due("on it, they travel", hall.look(0, 1), 59 * 48 + 8);
    }

    @Sentence(promise = 3, says = "(above NOW, 59 at most)")
    private static void placeDaysMoveWithNow() {
        TestHall hall = hall(1, 0, 1, 1);
        hall.days(57);
        due("NOW", hall.place(0, 1, 57, 59), NONE);
        due("a day that is over", hall.place(0, 1, 56, 59), NONE);
        due("the next one", hall.place(0, 1, 58, 58), 0);
        hall.days(2);
        due("no day is above 59", hall.place(0, 1, 59, 59), NONE);
        due("nor is 60 one", hall.place(0, 1, 60, 60), NONE);
    }

    @Sentence(promise = 3, says = "on the DAYS from low to high")
    private static void placeFromLowToHigh() {
        TestHall hall = hall(1, 3, 10, 12);
        due("ahead of low", hall.at(9, 1, 0), -2);
        due("low", hall.at(10, 1, 0), -1);
        due("high", hall.at(12, 1, 0), -1);
        due("behind high", hall.at(13, 1, 0), -2);
        hall.place(0, -1, 11, 11);
        due("low stays", hall.at(10, 1, 0), -1);
        due("the day between is taken", hall.at(11, 1, 0), -2);
        due("high stays", hall.at(12, 1, 0), -1);
    }

    @Sentence(promise = 3, says = "whoever is BOOKED in an HOUR that is no more there")
    private static void placeTakesHours() {
        TestHall hall = hall(1, 2, 1, 4);
        add(hall, 2, 24);
        due("four days are full", hall.deal(), 24);
        due("day 2 and hour 0 of day 3", hall.place(0, 1, 2, 2), 7);
        due("the last of day 1 stays", hall.look(5, 0), BOOKED);
        due("the first of day 2 waits", hall.look(6, 0), WAITING);
        due("the last of day 2 waits", hall.look(11, 0), WAITING);
        due("hour 0 of day 3 waits", hall.look(12, 0), WAITING);
        due("hour 1 of day 3 stays", hall.look(13, 0), BOOKED);
        due("hour 0 of day 4 stays", hall.look(18, 0), BOOKED);
        due("their slot is none", hall.look(12, 1), NONE);
        due("nowhere on day 3", hall.place(0, -1, 3, 3), 5);
        due("day 4 stays", hall.look(18, 1), 4 * 48);
        due("nobody there", hall.place(0, -1, 3, 3), 0);
        due("the last day", hall.place(0, -1, 1, 59), 12);
        due("all wait", hall.count(3), 24);
    }

    @Sentence(promise = 3, says = "or not in their TOWN, WAITS from then on: how many")
    private static void placeTakesTheTown() {
        TestHall hall = hall(1, 2, 3, 3);
        add(hall, 2, 7);
        hall.deal();
        due("the same town", hall.place(0, 2, 1, 59), 0);
        due("all stay", hall.count(4), 6);
        due("another town from there on", hall.place(0, 3, 3, 59), 6);
        due("all wait", hall.count(3), 7);
        due("a slot that is nobody's", hall.at(3, 1, 0), -1);
        due("another examiner", hall.examiner(), 1);
        hall.place(0, -1, 1, 4);
        hall.place(1, 2, 5, 5);
        hall.deal();
        due("whose learners stay", hall.place(0, 4, 5, 5), 0);
        due("booked with examiner 1", hall.load(1, 2), 6);
    }

    @Sentence(promise = 3, says = "whoever is BOOKED in an HOUR that is no more there")
    private static void placeLeavesNowsDay() {
        TestHall hall = hall(1, 2, 1, 2);
        add(hall, 2, 7);
        hall.deal();
        hall.days(1);
        due("only the next day's", hall.place(0, 3, 2, 59), 1);
        due("NOW's stay", hall.count(4), 6);
        due("and are held", hall.held(0, true), true);
    }

    @Sentence(promise = 3, says = "NONE: no such EXAMINER, TOWN, DAYS.")
    private static void placeRefused() {
        TestHall hall = busyHall();
        String before = state(hall);
        due("examiner -1", hall.place(-1, 0, 2, 59), NONE);
        due("examiner 1", hall.place(1, 0, 2, 59), NONE);
        due("examiner 7", hall.place(7, 0, 2, 59), NONE);
        due("examiner 8", hall.place(8, 0, 2, 59), NONE);
        for (int far : FAR) {
            due("examiner " + far, hall.place(far, 0, 2, 59), NONE);
        }
        due("town 6", hall.place(0, 6, 2, 59), NONE);
        due("days", hall.place(0, 3, 1, 59), NONE);
        due("days too", hall.place(0, 3, 2, 60), NONE);
        dueSame("what is refused", state(hall), before);
    }

    // ---- Promise 4: learner

    @Sentence(promise = 4, says = "NONE: no such TOWN, sort, from, to, wish not 0 .. 59 each")
    private static void learnerRefused() {
        TestHall hall = busyHall();
        String before = state(hall);
        int[][] bounds = {{0, 5}, {0, 3}, {0, 59}, {0, 59}, {0, 59}};
        for (int i = 0; i < 5; i++) {
            int[] values = {bounds[i][0] - 1, bounds[i][1] + 1, FAR[0], FAR[2], FAR[3], FAR[6]};
            for (int value : values) {
                int[] told = {2, 2, 30, 30, 30};
                told[i] = value;
                due("number " + i + " " + value, hall.learner(told[0], told[1], told[2], told[3], told[4], true), NONE);
            }
        }
        due("from and to 60", hall.learner(0, 0, 60, 60, 0, true), NONE);
        due("from and to -1", hall.learner(0, 0, -1, -1, 0, true), NONE);
        dueSame("what is refused", state(hall), before);
    }

    @Sentence(promise = 4, says = "A LEARNER more: the number")
    private static void learnerEdges() {
        TestHall hall = new TestHall();
        due("all least", hall.learner(0, 0, 0, 0, 0, false), 0);
        due("all greatest", hall.learner(5, 3, 59, 59, 59, true), 1);
        due("from least, to greatest", hall.learner(0, 3, 0, 59, 59, true), 2);
        due("a wish behind the papers' end", hall.learner(0, 0, 0, 0, 59, true), 3);
        due("a wish ahead of the papers", hall.learner(0, 0, 59, 59, 0, true), 4);
        hall.days(59);
        due("papers that are over", hall.learner(0, 0, 0, 0, 0, true), 5);
        due("six", hall.count(1), 6);
    }

    @Sentence(promise = 4, says = "from above to")
    private static void learnerFromAboveTo() {
        TestHall hall = new TestHall();
        due("from is to", hall.learner(0, 0, 30, 30, 0, false), 0);
        due("from is one above", hall.learner(0, 0, 31, 30, 0, false), NONE);
        due("from is one below", hall.learner(0, 0, 29, 30, 0, false), 1);
        due("from 59 to 0", hall.learner(0, 0, 59, 0, 0, false), NONE);
        due("from 0 to 59", hall.learner(0, 0, 0, 59, 0, false), 2);
    }

    @Sentence(promise = 4, says = "60 are there.")
    private static void sixtyLearners() {
        TestHall hall = hall(1, 0, 1, 1);
        for (int i = 0; i < 60; i++) {
            due("learner " + i, hall.learner(0, 0, 0, 59, 0, false), i);
        }
        due("a 61st", hall.learner(0, 0, 0, 59, 0, false), NONE);
        due("sixty", hall.count(1), 60);
        due("the 60th is there", hall.look(59, 0), WAITING);
        dueThrow("the 61st is not", hall, 60, 0);
        hall.deal();
        hall.days(1);
        hall.held(0, true);
        hall.leave(59);
        due("who is gone or passed is there too", hall.learner(0, 0, 0, 59, 0, false), NONE);
        due("sixty still", hall.count(1), 60);
    }

    // ---- Promise 5: feed

    @Sentence(promise = 5, says = "the bytes of a, b, c, of each the highest first")
    private static void feedHighestFirst() {
        TestHall hall = new TestHall();
        due("16 signs", hall.feed(0x6669727374203120L, 0x7768656E2031203BL, 0), 16);
        due("in order", hall.text(), 0);
        due("a line", hall.count(7), 1);
        due("24 signs", hall.feed(0x2020202020202020L, 0x2020202020202020L, 0x202020202020203FL), 24);
        due("the lowest of c is the last", hall.text(), 1 + 16 * 23);
        due("24 signs again", hall.feed(0x2020202020202020L, 0x3F20202020202020L, 0x2020202020202020L), 24);
        due("the highest of b is the ninth", hall.text(), 1 + 16 * 8);
        due("only a's highest", hall.feed(0x3F00000000000000L, 0, 0), 1);
        due("and c's lowest", hall.feed(0, 0, 0x20), 2);
        due("at place 0", hall.text(), 1);
    }

    @Sentence(promise = 5, says = "others than 10 and 32 .. 126")
    private static void feedLeavesOutOtherSigns() {
        for (int sign = 0; sign <= 255; sign++) {
            int want = sign == 10 || sign >= 32 && sign <= 126 ? 1 : 0;
            TestHall hall = new TestHall();
            due("sign " + sign + " lowest", hall.feed(0, sign, 0), want);
            due("sign " + sign + " highest", hall.feed(0, 0, (long) sign << 56), 2 * want);
        }
        TestHall hall = new TestHall();
        due("none", hall.feed(0, 0, 0), 0);
        due("none of -1", hall.feed(-1, -1, -1), 0);
        due("none of the least", hall.feed(Long.MIN_VALUE, Long.MIN_VALUE, Long.MIN_VALUE), 0);
        due("one of the greatest", hall.feed(Long.MAX_VALUE, 0, 0x0A), 1);
        due("what is left out leaves no gap", read(new TestHall(), "fi\0r\u007Fst 1\t when \u00FF1;"), 0);
    }

    @Sentence(promise = 5, says = "and what is beyond 600, are left out: how many there are.")
    private static void feedLeavesOutWhatIsBeyond600() {
        TestHall hall = new TestHall();
        due("599", write(hall, " ".repeat(599)), 599);
        due("two more", hall.feed(0x203F000000000000L, 0, 0), 600);
        due("none", hall.feed(0, 0, 0), 600);
        due("none more", write(hall, "?".repeat(48)), 600);
        due("what was beyond is not read", hall.text(), 0);
        due("600 at once", write(hall, " ".repeat(600)), 600);
        due("are blanks", hall.text(), 0);
        due("the 600th", write(hall, " ".repeat(599) + "?"), 600);
        due("is read", hall.text(), 1 + 16 * 599);
        due("empty again", hall.count(8), 0);
    }

    // ---- Promise 6: text

    @Sentence(promise = 6, says = "The TAPE is read as a TEXT, in place of the one there was: 0, or its FAULT.")
    private static void textInPlaceOfTheOneThereWas() {
        TestHall hall = new TestHall();
        add(hall, 0, 1);
        add(hall, 1, 1);
        due("16 lines", read(hall, "first 1 when town;".repeat(16)), 0);
        due("are there", hall.count(7), 16);
        due("town 1 first", hall.look(1, 3), 0);
        due("one line", read(hall, "first 1 when 0;"), 0);
        due("is there", hall.count(7), 1);
        due("by numbers", hall.look(1, 3), 1);
        due("an empty tape", hall.text(), 0);
        due("is a text without lines", hall.count(7), 0);
        due("blanks", read(hall, " \n"), 0);
        due("are one too", hall.count(7), 0);
    }

    @Sentence(promise = 6, says = "The TAPE is read as a TEXT, in place of the one there was: 0, or its FAULT.")
    private static void aFaultLeavesTheText() {
        TestHall hall = new TestHall();
        add(hall, 0, 1);
        add(hall, 1, 1);
        read(hall, "first 1 when town;");
        String[] faults = {"first 5 when 1 - town; ?", "first 5 when 1 - town; first 100 when 1;",
            "first 5 when 1 - town; first 1 when (((((1", "first 5 when 1 - town;".repeat(17)};
        int[] kinds = {1 + 16 * 23, 4 + 16 * 29, 5 + 16 * 41, 5 + 16 * 352};
        for (int i = 0; i < faults.length; i++) {
            due("a fault behind a good line", read(hall, faults[i]), kinds[i]);
            due("one line as it was", hall.count(7), 1);
            due("the order as it was", hall.look(1, 3), 0);
        }
    }

    // ---- Promise 7: deal

    @Sentence(promise = 7, says = "The WAITING are DEALT: how many are BOOKED by it.")
    private static void dealNone() {
        TestHall nobody = hall(8, 0, 1, 59);
        due("nobody waits", nobody.deal(), 0);
        TestHall noExaminer = new TestHall();
        add(noExaminer, 0, 3);
        due("no examiner", noExaminer.deal(), 0);
        due("all wait", noExaminer.count(3), 3);
        TestHall full = hall(1, 0, 1, 1);
        add(full, 0, 6);
        due("all hours", full.deal(), 6);
        add(full, 0, 1);
        due("full", full.deal(), 0);
        due("the booked stay", full.count(4), 6);
    }

    @Sentence(promise = 7, says = "The WAITING are DEALT: how many are BOOKED by it.")
    private static void dealTheWaitingAlone() {
        TestHall hall = hall(1, 0, 1, 3);
        add(hall, 0, 3);
        hall.deal();
        hall.leave(1);
        hall.days(1);
        hall.held(0, true);
        due("booked, gone, passed", hall.deal(), 0);
        due("passed stays", hall.look(0, 0), PASSED);
        due("gone stays", hall.look(1, 0), GONE);
        due("booked stays", hall.look(2, 1), 48 + 16);
        hall.held(2, false);
        due("who failed waits", hall.deal(), 1);
        due("for the next day", hall.look(2, 1), 96);
    }

    @Sentence(promise = 7, says = "The WAITING are DEALT: how many are BOOKED by it.")
    private static void dealAllSixty() {
        TestHall hall = hall(8, 0, 1, 2);
        add(hall, 0, 60);
        due("sixty", hall.deal(), 60);
        due("the last", hall.look(59, 1), 96 + 11);
        due("again", hall.deal(), 0);
    }

    // ---- Promise 8: cancel

    @Sentence(promise = 8, says = "A BOOKED LEARNER WAITS again; their SLOT is MOVED UP: how many were")
    private static void cancelCounts() {
        TestHall hall = hall(1, 0, 1, 1);
        addSooner(hall, 0, 3);
        hall.deal();
        due("two", hall.cancel(0), 2);
        due("waits", hall.look(0, 0), WAITING);
        due("has no slot", hall.look(0, 1), NONE);
        due("was not moved up", hall.look(0, 4), 0);
        due("none behind", hall.cancel(2), 0);
        due("the slot is nobody's", hall.at(1, 1, 0), -1);
        due("dealt again", hall.deal(), 2);
        due("behind those that stayed", hall.look(0, 1), 56);
    }

    @Sentence(promise = 8, says = "NONE: not BOOKED, none such.")
    private static void cancelRefused() {
        TestHall hall = busyHall();
        String before = state(hall);
        due("passed", hall.cancel(0), NONE);
        due("gone", hall.cancel(2), NONE);
        due("waiting", hall.cancel(3), NONE);
        due("none such", hall.cancel(4), NONE);
        due("-1", hall.cancel(-1), NONE);
        due("60", hall.cancel(60), NONE);
        for (int far : FAR) {
            due("learner " + far, hall.cancel(far), NONE);
        }
        dueSame("what is refused", state(hall), before);
        due("booked", hall.cancel(1), 0);
        due("not twice", hall.cancel(1), NONE);
    }

    // ---- Promise 9: leave

    @Sentence(promise = 9, says = "A LEARNER is GONE (WAITING or BOOKED; then the SLOT is MOVED UP): true")
    private static void leaveWaitingOrBooked() {
        TestHall hall = hall(1, 0, 1, 1);
        addSooner(hall, 0, 3);
        hall.deal();
        addSooner(hall, 0, 1);
        due("booked", hall.leave(0), true);
        due("gone", hall.look(0, 0), GONE);
        due("has no slot", hall.look(0, 1), NONE);
        due("has no place", hall.look(0, 3), NONE);
        due("the next is moved", hall.look(1, 1), 48);
        due("and the one behind", hall.look(2, 1), 56);
        due("waiting", hall.leave(3), true);
        due("gone too", hall.look(3, 0), GONE);
        due("nobody is moved by it", hall.look(1, 4), 1);
        due("the last one", hall.leave(2), true);
        due("nobody behind", hall.look(1, 4), 1);
    }

    @Sentence(promise = 9, says = "false: not so.")
    private static void leaveRefused() {
        TestHall hall = busyHall();
        String before = state(hall);
        due("passed", hall.leave(0), false);
        due("gone", hall.leave(2), false);
        due("none such", hall.leave(4), false);
        due("-1", hall.leave(-1), false);
        due("60", hall.leave(60), false);
        for (int far : FAR) {
            due("learner " + far, hall.leave(far), false);
        }
        dueSame("what is refused", state(hall), before);
    }

    // ---- Promise 10: shut

    @Sentence(promise = 10, says = "A DAY above NOW is shut")
    private static void shutAboveNow() {
        TestHall hall = hall(1, 0, 1, 59);
        due("NOW", hall.shut(0), NONE);
        due("the next", hall.shut(1), 0);
        due("the last", hall.shut(59), 0);
        hall.days(2);
        due("a day that is over", hall.shut(1), NONE);
        due("NOW's day", hall.shut(2), NONE);
        due("the day behind NOW's", hall.shut(3), 0);
        hall.days(57);
        due("the last is NOW", hall.shut(59), NONE);
    }

    @Sentence(promise = 10, says = "how many of those that were BOOKED on it WAIT then")
    private static void shutCountsThoseWhoWait() {
        TestHall hall = hall(1, 0, 1, 2);
        add(hall, 0, 9);
        due("nine", hall.deal(), 9);
        due("three find an hour, three do not", hall.shut(1), 3);
        due("the third is booked", hall.look(2, 1), 96 + 40);
        due("the fourth waits", hall.look(3, 0), WAITING);
        due("the sixth waits", hall.look(5, 0), WAITING);
        due("those of day 2 stay", hall.look(6, 1), 96);
        due("nobody counts as moved up", hall.look(0, 4), 0);
        due("all six have no other", hall.shut(2), 6);
        due("nine wait", hall.count(3), 9);
        due("a day without tests", hall.shut(3), 0);
    }

    @Sentence(promise = 10, says = "how many of those that were BOOKED on it WAIT then")
    private static void shutDealsToDaysAheadToo() {
        TestHall hall = hall(1, 0, 1, 2);
        add(hall, 0, 7);
        hall.deal();
        hall.cancel(0);
        hall.leave(0);
        due("one finds an hour", hall.shut(2), 0);
        due("on the day ahead", hall.look(6, 1), 48);
        due("others stay", hall.look(1, 1), 56);
    }

    @Sentence(promise = 10, says = "NONE: none such, it is shut.")
    private static void shutRefused() {
        TestHall hall = busyHall();
        hall.shut(3);
        String before = state(hall);
        due("it is shut", hall.shut(3), NONE);
        due("NOW", hall.shut(1), NONE);
        due("a day that is over", hall.shut(0), NONE);
        due("-1", hall.shut(-1), NONE);
        due("60", hall.shut(60), NONE);
        for (int far : FAR) {
            due("day " + far, hall.shut(far), NONE);
        }
        dueSame("what is refused", state(hall), before);
        due("another day is not shut by it", hall.shut(4), 0);
    }

    // ---- Promise 11: days

    @Sentence(promise = 11, says = "NOW grows by n (1 .. 59; 59 at most): NOW")
    private static void daysGrow() {
        due("1", new TestHall().days(1), 1);
        due("59", new TestHall().days(59), 59);
        TestHall hall = new TestHall();
        due("58", hall.days(58), 58);
        due("to the last", hall.days(1), 59);
        TestHall step = new TestHall();
        for (int day = 1; day <= 59; day++) {
            due("by 1", step.days(1), day);
        }
        due("no more", step.days(1), NONE);
    }

    @Sentence(promise = 11, says = "NONE for another n.")
    private static void daysRefused() {
        TestHall hall = busyHall();
        String before = state(hall);
        due("0", hall.days(0), NONE);
        due("-1", hall.days(-1), NONE);
        due("60", hall.days(60), NONE);
        due("59 from 1", hall.days(59), NONE);
        for (int far : FAR) {
            due("n " + far, hall.days(far), NONE);
        }
        dueSame("what is refused", state(hall), before);
        due("58 from 1", hall.days(58), 59);
        for (int n = 0; n <= 60; n++) {
            due("n from 59", hall.days(n), NONE);
        }
        due("MAX_VALUE from 59", hall.days(Integer.MAX_VALUE), NONE);
        due("still 59", hall.count(2), 59);
    }

    @Sentence(promise = 11, says = "those BOOKED on DAYS that are over then, and were not held, WAIT")
    private static void daysThatAreOver() {
        TestHall hall = hall(1, 0, 1, 3);
        add(hall, 0, 14);
        hall.deal();
        due("day 1", hall.days(1), 1);
        due("NOW's are booked", hall.count(4), 14);
        hall.held(0, true);
        hall.held(1, false);
        due("day 2", hall.days(1), 2);
        due("passed stays", hall.look(0, 0), PASSED);
        due("who failed waits", hall.look(1, 0), WAITING);
        due("not held waits", hall.look(2, 0), WAITING);
        due("has no slot", hall.look(2, 1), NONE);
        due("is no try", hall.look(2, 2), 0);
        due("the last of day 1", hall.look(5, 0), WAITING);
        due("the first of day 2", hall.look(6, 0), BOOKED);
        due("eight are booked", hall.count(4), 8);
        due("two days at once", hall.days(2), 4);
        due("nobody is booked", hall.count(4), 0);
        due("nobody is in the slot", hall.at(2, 0, 0), -1);
        TestHall first = hall(1, 0, 1, 1);
        add(first, 0, 1);
        first.deal();
        first.days(59);
        due("learner 0 waits", first.look(0, 0), WAITING);
    }

    // ---- Promise 12: held

    @Sentence(promise = 12, says = "The test of a LEARNER BOOKED on the DAY NOW is held: true")
    private static void heldOnNowsDay() {
        TestHall hall = hall(1, 0, 1, 2);
        add(hall, 0, 7);
        hall.deal();
        due("ahead of the day", hall.held(0, true), false);
        hall.days(1);
        due("in hour 0", hall.held(0, true), true);
        due("in hour 5", hall.held(5, false), true);
        due("on the next day", hall.held(6, true), false);
        hall.days(1);
        due("behind the day", hall.held(1, true), false);
        due("on its day", hall.held(6, true), true);
        due("three tests", hall.count(10), 3);
        due("two passed", hall.load(0, 1), 2);
    }

    @Sentence(promise = 12, says = "(passed: they are PASSED, else they WAIT, one more try)")
    private static void heldPassedOrNot() {
        TestHall hall = hall(1, 0, 1, 2);
        add(hall, 0, 2);
        hall.deal();
        hall.days(1);
        hall.held(0, true);
        due("passed", hall.look(0, 0), PASSED);
        due("without a try", hall.look(0, 2), 0);
        due("without a slot", hall.look(0, 1), NONE);
        hall.held(1, false);
        due("waits", hall.look(1, 0), WAITING);
        due("one try", hall.look(1, 2), 1);
        due("first of the waiting", hall.look(1, 3), 0);
        hall.deal();
        hall.days(1);
        hall.held(1, true);
        due("passed at last", hall.look(1, 0), PASSED);
        due("one try still", hall.look(1, 2), 1);
    }

    @Sentence(promise = 12, says = "false: not so.")
    private static void heldRefused() {
        TestHall hall = busyHall();
        String before = state(hall);
        for (int i = 0; i < 2; i++) {
            boolean passed = i == 0;
            due("passed", hall.held(0, passed), false);
            due("booked on the next day", hall.held(1, passed), false);
            due("gone", hall.held(2, passed), false);
            due("waiting", hall.held(3, passed), false);
            due("none such", hall.held(4, passed), false);
            due("-1", hall.held(-1, passed), false);
            for (int far : FAR) {
                due("learner " + far, hall.held(far, passed), false);
            }
        }
        dueSame("what is refused", state(hall), before);
    }

    // ---- Promise 13: look

    @Sentence(promise = 13, says = "1: the SLOT (NONE if not BOOKED)")
    private static void lookSlot() {
        TestHall hall = busyHall();
        due("passed", hall.look(0, 1), NONE);
        due("booked", hall.look(1, 1), 96);
        due("gone", hall.look(2, 1), NONE);
        due("waiting", hall.look(3, 1), NONE);
    }

    @Sentence(promise = 13, says = "3: place in the ORDER of all WAITING ones, from 0 (NONE)")
    private static void lookPlace() {
        TestHall hall = busyHall();
        due("passed", hall.look(0, 3), NONE);
        due("booked", hall.look(1, 3), NONE);
        due("gone", hall.look(2, 3), NONE);
        due("the only one", hall.look(3, 3), 0);
        hall.learner(0, 1, 0, 59, 0, false);
        due("first by the text", hall.look(4, 3), 0);
        due("behind", hall.look(3, 3), 1);
        hall.cancel(1);
        due("of one N by numbers", hall.look(1, 3), 0);
        due("the next", hall.look(4, 3), 1);
        due("the last", hall.look(3, 3), 2);
    }

    @Sentence(promise = 13, says = "4: how often MOVED UP")
    private static void lookMoved() {
        TestHall hall = hall(1, 0, 1, 1);
        addSooner(hall, 0, 6);
        due("never", hall.look(5, 4), 0);
        hall.deal();
        for (int i = 0; i < 5; i++) {
            due("chain", hall.cancel(i), 5 - i);
            due("times", hall.look(5, 4), i + 1);
        }
        due("in the first slot", hall.look(5, 1), 48);
        hall.cancel(5);
        due("kept while waiting", hall.look(5, 4), 5);
        hall.leave(5);
        due("kept when gone", hall.look(5, 4), 5);
    }

    @Sentence(promise = 13, says = "NoSuchElementException: none such.")
    private static void lookRefused() {
        dueThrow("nobody is there", new TestHall(), 0, 0);
        TestHall hall = busyHall();
        String before = state(hall);
        for (int what = 0; what <= 4; what++) {
            dueThrow("learner -1", hall, -1, what);
            dueThrow("learner 4", hall, 4, what);
            dueThrow("learner 60", hall, 60, what);
            for (int far : FAR) {
                dueThrow("learner " + far, hall, far, what);
            }
        }
        dueThrow("what -1", hall, 0, -1);
        dueThrow("what 5", hall, 0, 5);
        for (int far : FAR) {
            dueThrow("what " + far, hall, 3, far);
        }
        dueSame("what is refused", state(hall), before);
    }

    // ---- Promise 14: at

    @Sentence(promise = 14, says = "Who is BOOKED in a SLOT; -1: nobody")
    private static void atWho() {
        TestHall hall = hall(2, 0, 1, 2);
        add(hall, 0, 2);
        hall.deal();
        due("learner 0", hall.at(1, 0, 0), 0);
        due("learner 1", hall.at(1, 0, 1), 1);
        due("nobody", hall.at(1, 1, 0), -1);
        hall.days(1);
        hall.held(0, true);
        due("who passed is not booked", hall.at(1, 0, 0), -1);
        due("NOW's is booked", hall.at(1, 0, 1), 1);
        hall.days(1);
        due("nobody on a day that is over", hall.at(1, 0, 1), -1);
    }

    @Sentence(promise = 14, says = "-2: the EXAMINER has no such HOUR, is nowhere")
    private static void atNoHour() {
        TestHall hall = hall(1, 0, 2, 2);
        hall.place(0, 1, 3, 3);
        due("nowhere ahead", hall.at(1, 0, 0), -2);
        due("nowhere ahead, last hour", hall.at(1, 5, 0), -2);
        due("travel", hall.at(3, 0, 0), -2);
        due("behind travel", hall.at(3, 1, 0), -1);
        due("nowhere behind", hall.at(4, 1, 0), -2);
        due("day 0", hall.at(0, 0, 0), -2);
        due("day 59", hall.at(59, 5, 0), -2);
    }

    @Sentence(promise = 14, says = "-3: no such SLOT.")
    private static void atNoSlot() {
        TestHall hall = hall(2, 0, 1, 59);
        due("day -1", hall.at(-1, 0, 0), -3);
        due("day 60", hall.at(60, 0, 0), -3);
        due("hour -1", hall.at(1, -1, 0), -3);
        due("hour 6", hall.at(1, 6, 0), -3);
        due("examiner -1", hall.at(1, 0, -1), -3);
        due("examiner 2", hall.at(1, 0, 2), -3);
        due("examiner 7", hall.at(1, 0, 7), -3);
        due("examiner 8", hall.at(1, 0, 8), -3);
        for (int far : FAR) {
            due("day " + far, hall.at(far, 0, 0), -3);
            due("hour " + far, hall.at(1, far, 0), -3);
            due("examiner " + far, hall.at(1, 0, far), -3);
        }
    }

    // ---- Promise 15: street

    @Sentence(promise = 15, says = "NONE: no such two CROSSINGS, minutes, marks")
    private static void streetRefused() {
        TestHall hall = busyHall();
        String before = state(hall);
        due("from 12", hall.street(12, 1, 1, 0), NONE);
        due("to 12", hall.street(1, 12, 1, 0), NONE);
        due("from -1", hall.street(-1, 1, 1, 0), NONE);
        due("to -1", hall.street(1, -1, 1, 0), NONE);
        due("to itself", hall.street(5, 5, 1, 0), NONE);
        due("0 to itself", hall.street(0, 0, 1, 0), NONE);
        due("0 minutes", hall.street(0, 1, 0, 0), NONE);
        due("31 minutes", hall.street(0, 1, 31, 0), NONE);
        due("-1 minutes", hall.street(0, 1, -1, 0), NONE);
        due("marks -1", hall.street(0, 1, 1, -1), NONE);
        due("marks 256", hall.street(0, 1, 1, 256), NONE);
        for (int far : FAR) {
            due("from " + far, hall.street(far, 1, 1, 0), NONE);
            due("to " + far, hall.street(0, far, 1, 0), NONE);
            due("from and to " + far, hall.street(far, far, 1, 0), NONE);
            due("minutes " + far, hall.street(0, 1, far, 0), NONE);
            due("marks " + far, hall.street(0, 1, 1, far), NONE);
        }
        dueSame("what is refused", state(hall), before);
        due("and takes no room at 0", hall.street(0, 1, 1, 0), 2);
        due("nor at 1", hall.street(0, 1, 1, 0), 3);
    }

    @Sentence(promise = 15, says = "A STREET more: its number")
    private static void streetEdges() {
        TestHall hall = new TestHall();
        due("all least", hall.street(0, 1, 1, 0), 0);
        due("all greatest", hall.street(11, 10, 30, 255), 1);
        due("from the last to the first", hall.street(11, 0, 30, 255), 2);
        due("the same two again", hall.street(0, 11, 30, 255), 3);
        due("60 minutes and all marks", hall.route(60, 60, 255, 0), 60);
    }

    @Sentence(promise = 15, says = "4 at one of them")
    private static void fourStreetsAtACrossing() {
        TestHall hall = new TestHall();
        for (int i = 0; i < 4; i++) {
            due("from 5", hall.street(5, 6 + i, 1, 0), i);
        }
        due("a fifth from 5", hall.street(5, 1, 1, 0), NONE);
        due("a fifth to 5", hall.street(1, 5, 1, 0), NONE);
        for (int i = 0; i < 4; i++) {
            due("to 4", hall.street(i, 4, 1, 0), 4 + i);
        }
        due("a fifth to 4", hall.street(11, 4, 1, 0), NONE);
        due("a fifth from 4", hall.street(4, 11, 1, 0), NONE);
        hall.close(0, true);
        due("a closed one is there too", hall.street(5, 1, 1, 0), NONE);
        due("crossing 1 has room for three", hall.street(1, 2, 1, 0), 8);
        due("two", hall.street(1, 2, 1, 0), 9);
        due("one", hall.street(2, 1, 1, 0), 10);
        due("both are full", hall.street(1, 2, 1, 0), NONE);
        due("one is full", hall.street(1, 3, 1, 0), NONE);
        due("eleven", hall.count(9), 11);
    }

    @Sentence(promise = 15, says = "24 are there.")
    private static void twentyFourStreets() {
        TestHall hall = new TestHall();
        for (int i = 0; i < 24; i++) {
            due("street " + i, hall.street(i % 12, (i + 1) % 12, 1, 0), i);
        }
        due("a 25th", hall.street(0, 6, 1, 0), NONE);
        due("24", hall.count(9), 24);
        due("the 24th is there", hall.close(23, true), true);
        due("the 25th is not", hall.close(24, true), false);
    }

    // ---- Promise 16: close

    @Sentence(promise = 16, says = "A STREET is closed (yes) or open: true")
    private static void closeTwice() {
        TestHall hall = new TestHall();
        hall.street(0, 1, 1, 0);
        hall.street(0, 1, 1, 0);
        due("open one that is open", hall.close(0, false), true);
        due("both open", hall.routes(0, 240, 0), 2);
        due("close the last", hall.close(1, true), true);
        due("close it again", hall.close(1, true), true);
        due("closed", hall.routes(0, 240, 0), 0);
        due("open once", hall.close(1, false), true);
        due("is enough", hall.routes(0, 240, 0), 2);
        due("close the first", hall.close(0, true), true);
        due("closed too", hall.routes(0, 240, 0), 0);
        due("still there", hall.count(9), 2);
    }

    @Sentence(promise = 16, says = "false: none such.")
    private static void closeRefused() {
        TestHall hall = busyHall();
        String before = state(hall);
        due("-1", hall.close(-1, true), false);
        due("2", hall.close(2, true), false);
        due("23", hall.close(23, true), false);
        due("24", hall.close(24, false), false);
        for (int far : FAR) {
            due("street " + far, hall.close(far, true), false);
        }
        dueSame("what is refused", state(hall), before);
        due("the third", hall.street(0, 1, 1, 0), 2);
        due("is open", hall.routes(0, 240, 0), 6);
    }

    // ---- Promise 17: routes

    @Sentence(promise = 17, says = "How many ROUTES there are with these minutes (0 .. 240 each) and wanted marks (0 .. 255)")
    private static void routesEdges() {
        TestHall hall = busyHall();
        due("0 to 0", hall.routes(0, 0, 0), 0);
        due("240 to 240", hall.routes(240, 240, 0), 0);
        due("240 to 0", hall.routes(240, 0, 0), 0);
        due("0 to 240", hall.routes(0, 240, 0), 2);
        due("marks 255", hall.routes(0, 240, 255), 0);
        due("marks 3", hall.routes(0, 240, 3), 2);
        TestHall full = new TestHall();
        for (int i = 0; i < 24; i++) {
            full.street(i % 12, (i + 1) % 12, 30, 255);
        }
        due("24 streets, on both sides there and back by 1 to 4", full.routes(0, 240, 255), 2 * (2 + 4 + 8 + 16));
    }

    @Sentence(promise = 17, says = "NONE for other numbers.")
    private static void routesRefused() {
        TestHall hall = busyHall();
        due("least -1", hall.routes(-1, 240, 0), NONE);
        due("least 241", hall.routes(241, 240, 0), NONE);
        due("most -1", hall.routes(0, -1, 0), NONE);
        due("most 241", hall.routes(0, 241, 0), NONE);
        due("marks -1", hall.routes(0, 240, -1), NONE);
        due("marks 256", hall.routes(0, 240, 256), NONE);
        for (int far : FAR) {
            due("least " + far, hall.routes(far, 240, 0), NONE);
            due("most " + far, hall.routes(0, far, 0), NONE);
            due("marks " + far, hall.routes(0, 240, far), NONE);
        }
        due("without streets too", new TestHall().routes(0, 241, 0), NONE);
    }

    // ---- Promise 18: route

    @Sentence(promise = 18, says = "The ROUTE drawn by k (0 and more) for the like: its minutes")
    private static void routeEdges() {
        TestHall hall = busyHall();
        due("k 0", hall.route(0, 240, 0, 0), 11);
        due("k 1", hall.route(11, 11, 3, 1), 11);
        due("its first", hall.part(0), 1);
        due("k 2 is k 0", hall.route(0, 240, 0, 2), 11);
        due("its first", hall.part(0), 0);
        due("the greatest k", hall.route(0, 240, 0, Integer.MAX_VALUE), 11);
        due("is odd", hall.part(0), 1);
    }

    @Sentence(promise = 18, says = "NONE: none, other numbers.")
    private static void routeRefused() {
        TestHall hall = busyHall();
        String before = state(hall);
        due("none of these minutes", hall.route(12, 240, 0, 1), NONE);
        due("none of these marks", hall.route(0, 240, 4, 1), NONE);
        due("k -1", hall.route(0, 240, 0, -1), NONE);
        due("least -1", hall.route(-1, 240, 0, 1), NONE);
        due("least 241", hall.route(241, 240, 0, 1), NONE);
        due("most -1", hall.route(0, -1, 0, 1), NONE);
        due("most 241", hall.route(0, 241, 0, 1), NONE);
        due("marks -1", hall.route(0, 240, -1, 1), NONE);
        due("marks 256", hall.route(0, 240, 256, 1), NONE);
        for (int far : FAR) {
            due("least " + far, hall.route(far, 240, 0, 1), NONE);
            due("most " + far, hall.route(0, far, 0, 1), NONE);
            due("marks " + far, hall.route(0, 240, far, 1), NONE);
            due("k " + far, hall.route(0, 240, 0, far), far < 0 ? NONE : 11);
        }
        hall.route(0, 240, 0, 0);
        due("the least k", hall.route(0, 240, 0, Integer.MIN_VALUE), NONE);
        dueSame("what is refused", state(hall), before);
        due("no street", new TestHall().route(0, 240, 0, 0), NONE);
    }

    // ---- Promise 19: part

    @Sentence(promise = 19, says = "STREET i of the ROUTE drawn latest")
    private static void partOfTheLatest() {
        TestHall hall = new TestHall();
        for (int i = 0; i < 8; i++) {
            hall.street(i, (i + 1) % 8, 1, 0);
        }
        hall.street(0, 1, 1, 1);
        hall.street(1, 0, 1, 1);
        hall.route(8, 8, 0, 0);
        for (int i = 0; i < 8; i++) {
            due("part " + i + " of eight", hall.part(i), i);
        }
        due("part 8", hall.part(8), NONE);
        hall.route(0, 2, 1, 0);
        due("a shorter one", hall.part(0), 0);
        due("its second", hall.part(1), 8);
        due("nothing of the longer one", hall.part(2), NONE);
        hall.close(0, true);
        hall.close(8, true);
        hall.close(9, true);
        hall.routes(0, 240, 0);
        due("it stays when its street is closed", hall.part(0), 0);
        due("none is drawn", hall.route(0, 240, 0, 0), NONE);
        due("and it stays", hall.part(1), 8);
    }

    @Sentence(promise = 19, says = "NONE.")
    private static void partRefused() {
        TestHall hall = new TestHall();
        due("nothing drawn", hall.part(0), NONE);
        hall.street(0, 1, 1, 0);
        hall.street(0, 1, 1, 0);
        hall.routes(0, 240, 0);
        due("counted, not drawn", hall.part(0), NONE);
        hall.route(3, 240, 0, 0);
        due("none such, not drawn", hall.part(0), NONE);
        hall.route(0, 240, 0, 0);
        due("drawn", hall.part(0), 0);
        due("-1", hall.part(-1), NONE);
        due("2", hall.part(2), NONE);
        due("7", hall.part(7), NONE);
        due("8", hall.part(8), NONE);
        for (int far : FAR) {
            due("part " + far, hall.part(far), NONE);
        }
    }

    // ---- Promise 20: differs

    @Sentence(promise = 20, says = "-2: no such EXAMINER, BAR.")
    private static void differsRefused() {
        TestHall hall = tested(1, 1, 2, 0);
        due("bar 0", hall.differs(0, 0), 1);
        due("bar 100", hall.differs(0, 100), 0);
        due("bar -1", hall.differs(0, -1), -2);
        due("bar 101", hall.differs(0, 101), -2);
        due("examiner -1", hall.differs(-1, 0), -2);
        due("examiner 2", hall.differs(2, 0), -1);
        due("examiner 3", hall.differs(3, 0), -2);
        due("examiner 8", hall.differs(8, 0), -2);
        for (int far : FAR) {
            due("examiner " + far, hall.differs(far, 0), -2);
            due("bar " + far, hall.differs(0, far), -2);
        }
        due("nobody is there", new TestHall().differs(0, 0), -2);
    }

    @Sentence(promise = 20, says = "The difference of an EXAMINER's passes")
    private static void differsOfOneThatHasNoTests() {
        TestHall hall = tested(2, 2, 0, 0);
        due("no others' tests", hall.differs(0, 0), 0);
        due("no tests of their own", hall.differs(1, 0), 0);
        due("a new one", hall.examiner(), 3);
        due("has none", hall.differs(3, 100), 0);
    }

    // ---- Promise 21: count

    @Sentence(promise = 21, says = "NONE for another what.")
    private static void countRefused() {
        TestHall hall = busyHall();
        due("-1", hall.count(-1), NONE);
        due("11", hall.count(11), NONE);
        for (int far : FAR) {
            due("what " + far, hall.count(far), NONE);
        }
    }

    @Sentence(promise = 21, says = "3: WAITING, 4: BOOKED, 5: PASSED, 6: GONE")
    private static void countFull() {
        TestHall hall = hall(8, 0, 1, 2);
        add(hall, 0, 60);
        int[] states = {60, 0, 0, 0};
        dueStates(hall, states);
        hall.deal();
        dueStates(hall, new int[] {0, 60, 0, 0});
        hall.days(1);
        for (int i = 0; i < 48; i++) {
            hall.held(i, true);
        }
        hall.days(1);
        for (int i = 48; i < 60; i++) {
            hall.held(i, true);
        }
        dueStates(hall, new int[] {0, 0, 60, 0});
        due("60 tests", hall.count(10), 60);
        TestHall gone = new TestHall();
        add(gone, 0, 60);
        for (int i = 0; i < 60; i++) {
            gone.leave(i);
        }
        dueStates(gone, new int[] {0, 0, 0, 60});
    }

    private static void dueStates(TestHall hall, int[] states) {
        for (int i = 0; i < 4; i++) {
            due("state " + i, hall.count(3 + i), states[i]);
        }
    }

    @Sentence(promise = 21, says = "7: lines of the text, 8: signs on the TAPE, 9: STREETS, 10: tests held.")
    private static void countOthers() {
        TestHall hall = busyHall();
        int[] want = {1, 4, 1, 1, 1, 1, 1, 1, 5, 2, 1};
        for (int what = 0; what <= 10; what++) {
            due("count " + what, hall.count(what), want[what]);
        }
        write(hall, " ".repeat(600));
        due("600 signs", hall.count(8), 600);
        hall.text();
        due("a fault is no line", hall.count(7), 1);
        read(hall, "first 1 when 1;".repeat(16));
        due("16 lines", hall.count(7), 16);
        hall.days(1);
        hall.held(1, false);
        due("a failed test is held too", hall.count(10), 2);
    }

    // ---- Promise 22: load

    @Sentence(promise = 22, says = "what 0: tests held, 1: passed, 2: HOURS BOOKED from now on")
    private static void loadOfOne() {
        TestHall hall = hall(2, 0, 1, 2);
        for (int what = 0; what <= 2; what++) {
            due("at first", hall.load(0, what), 0);
        }
        add(hall, 0, 14);
        hall.deal();
        due("six and one", hall.load(0, 2), 7);
        hall.days(1);
        due("NOW's too", hall.load(0, 2), 7);
        hall.held(0, true);
        hall.held(2, false);
        due("two held", hall.load(0, 0), 2);
        due("one passed", hall.load(0, 1), 1);
        due("held ones are no more booked", hall.load(0, 2), 5);
        due("none of the other's", hall.load(1, 0), 0);
        due("none passed", hall.load(1, 1), 0);
        due("all booked", hall.load(1, 2), 7);
        hall.days(1);
        due("not those of days that are over", hall.load(1, 2), 1);
        hall.cancel(12);
        due("not who cancelled", hall.load(0, 2), 0);
        due("tests stay", hall.load(0, 0), 2);
    }

    @Sentence(promise = 22, says = "NONE: none such.")
    private static void loadRefused() {
        TestHall hall = busyHall();
        due("examiner -1", hall.load(-1, 0), NONE);
        due("examiner 1", hall.load(1, 0), NONE);
        due("examiner 7", hall.load(7, 0), NONE);
        due("examiner 8", hall.load(8, 0), NONE);
        due("what -1", hall.load(0, -1), NONE);
        due("what 3", hall.load(0, 3), NONE);
        for (int far : FAR) {
            due("examiner " + far, hall.load(far, 2), NONE);
            due("what " + far, hall.load(0, far), NONE);
        }
        due("nobody is there", new TestHall().load(0, 0), NONE);
    }
}
