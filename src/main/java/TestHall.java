import java.util.Arrays;
import java.util.NoSuchElementException;

/** Driving tests of learners over towns: who is booked where, by which order, and over which routes. */
public final class TestHall {
    public static final int NONE = -1;

    private static final int DAYS = 60;
    private static final int HOURS = 6;
    private static final int TOWNS = 6;
    private static final int SORTS = 4;
    private static final int MAX_EXAMINERS = 8;
    private static final int MAX_LEARNERS = 60;
    private static final int SLOTS_OF_DAY = HOURS * MAX_EXAMINERS;

    private static final int WAITING = 0;
    private static final int BOOKED = 1;
    private static final int PASSED = 2;
    private static final int GONE = 3;

    private final Calendar calendar;
    private final Learner[] learners;
    private final Line line;
    private final int[] facts;
    private final Tape tape;
    private final TextReader reader;
    private final Streets streets;
    private Text order;
    /** A text with a fault must leave the old one whole, so it is read into this one. */
    private Text spare;
    private int learnerCount;

    public TestHall() {
        calendar = new Calendar();
        learners = new Learner[MAX_LEARNERS];
        line = new Line();
        facts = new int[Text.FACTS];
        tape = new Tape();
        reader = new TextReader();
        streets = new Streets();
        order = new Text();
        spare = new Text();
        learnerCount = 0;
    }

    public int examiner() {
        return calendar.addExaminer();
    }

    public int place(int examiner, int town, int low, int high) {
        boolean known = calendar.isExaminer(examiner) && isWithin(town, NONE, TOWNS - 1);
        if (!known || low <= calendar.now || low > high || high >= DAYS) {
            return NONE;
        }
        for (int day = low; day <= high; day++) {
            calendar.setTown(examiner, day, town);
        }
        return releaseMisplaced(examiner);
    }

    public int learner(int town, int sort, int from, int to, int wish, boolean sooner) {
        if (!isWithin(town, 0, TOWNS - 1) || !isWithin(sort, 0, SORTS - 1)) {
            return NONE;
        }
        if (!isDay(from) || !isDay(to) || !isDay(wish) || from > to) {
            return NONE;
        }
        if (learnerCount >= MAX_LEARNERS) {
            return NONE;
        }
        Learner added = new Learner(learnerCount, calendar.now);
        added.town = town;
        added.sort = sort;
        added.from = from;
        added.to = to;
        added.wish = wish;
        added.sooner = sooner;
        learners[learnerCount] = added;
        learnerCount++;
        return added.number;
    }

    public int feed(long a, long b, long c) {
        tape.addEight(a);
        tape.addEight(b);
        tape.addEight(c);
        return tape.length;
    }

    public int text() {
        int fault = reader.read(tape, spare);
        tape.length = 0;
        if (fault == 0) {
            Text old = order;
            order = spare;
            spare = old;
        }
        return fault;
    }

    public int deal() {
        lineUpWaiting();
        return dealLine();
    }

    public int cancel(int learner) {
        Learner who = find(learner);
        if (who == null || who.state != BOOKED) {
            return NONE;
        }
        int freed = who.slot;
        release(who);
        return moveUp(freed);
    }

    public boolean leave(int learner) {
        Learner who = find(learner);
        if (who == null || (who.state != WAITING && who.state != BOOKED)) {
            return false;
        }
        int freed = who.slot;
        if (who.state == BOOKED) {
            release(who);
        }
        who.state = GONE;
        if (freed != NONE) {
            moveUp(freed);
        }
        return true;
    }

    public int shut(int day) {
        if (!isDay(day) || day <= calendar.now || calendar.isShut(day)) {
            return NONE;
        }
        calendar.shutDay(day);
        line.clear();
        for (int i = 0; i < learnerCount; i++) {
            Learner who = learners[i];
            if (who.state == BOOKED && dayOf(who.slot) == day) {
                release(who);
                line.add(i, rankOf(who));
            }
        }
        return line.size - dealLine();
    }

    public int days(int n) {
        if (!isWithin(n, 1, DAYS - 1) || !isDay(calendar.now + n)) {
            return NONE;
        }
        calendar.now += n;
        for (int i = 0; i < learnerCount; i++) {
            Learner who = learners[i];
            if (who.state == BOOKED && dayOf(who.slot) < calendar.now) {
                release(who);
            }
        }
        return calendar.now;
    }

    public boolean held(int learner, boolean passed) {
        Learner who = find(learner);
        if (who == null || who.state != BOOKED || dayOf(who.slot) != calendar.now) {
            return false;
        }
        calendar.noteTest(examinerOf(who.slot), passed);
        release(who);
        if (passed) {
            who.state = PASSED;
        } else {
            who.tries++;
        }
        return true;
    }

    public int look(int learner, int what) throws NoSuchElementException {
        Learner who = find(learner);
        if (who == null) {
            throw new NoSuchElementException("no such learner");
        }
        switch (what) {
            case 0:
                return who.state;
            case 1:
                return who.slot;
            case 2:
                return who.tries;
            case 3:
                return placeAmongWaiting(who);
            case 4:
                return who.movedUp;
            default:
                throw new NoSuchElementException("no such what");
        }
    }

    public int at(int day, int hour, int examiner) {
        if (!isDay(day) || !isWithin(hour, 0, HOURS - 1) || !calendar.isExaminer(examiner)) {
            return -3;
        }
        if (!calendar.hasHour(day, hour, examiner)) {
            return -2;
        }
        return calendar.bookedIn(slotOf(day, hour, examiner));
    }

    public int street(int a, int b, int minutes, int marks) {
        return streets.add(a, b, minutes, marks);
    }

    public boolean close(int street, boolean yes) {
        return streets.setClosed(street, yes);
    }

    public int routes(int least, int most, int marks) {
        return streets.countRoutes(least, most, marks);
    }

    public int route(int least, int most, int marks, int k) {
        return streets.draw(least, most, marks, k);
    }

    public int part(int i) {
        return streets.drawnStreet(i);
    }

    public int differs(int examiner, int bar) {
        if (!calendar.isExaminer(examiner) || !isWithin(bar, 0, 100)) {
            return -2;
        }
        return calendar.difference(examiner, bar);
    }

    public int count(int what) {
        switch (what) {
            case 0:
                return calendar.examiners;
            case 1:
                return learnerCount;
            case 2:
                return calendar.now;
            case 3:
            case 4:
            case 5:
            case 6:
                return countOfState(what - 3);
            case 7:
                return order.lines;
            case 8:
                return tape.length;
            case 9:
                return streets.size;
            case 10:
                return calendar.allTests;
            default:
                return NONE;
        }
    }

    public int load(int examiner, int what) {
        if (!calendar.isExaminer(examiner)) {
            return NONE;
        }
        switch (what) {
            case 0:
                return calendar.testsOf(examiner);
            case 1:
                return calendar.passesOf(examiner);
            case 2:
                return countBookedWith(examiner);
            default:
                return NONE;
        }
    }

    private static boolean isWithin(int number, int low, int high) {
        return number >= low && number <= high;
    }

    private static boolean isDay(int day) {
        return day >= 0 && day < DAYS;
    }

    private static int slotOf(int day, int hour, int examiner) {
        return SLOTS_OF_DAY * day + MAX_EXAMINERS * hour + examiner;
    }

    private static int dayOf(int slot) {
        return slot / SLOTS_OF_DAY;
    }

    private static int hourOf(int slot) {
        return slot % SLOTS_OF_DAY / MAX_EXAMINERS;
    }

    private static int examinerOf(int slot) {
        return slot % MAX_EXAMINERS;
    }

    private Learner find(int number) {
        return isWithin(number, 0, learnerCount - 1) ? learners[number] : null;
    }

    private void book(Learner who, int slot) {
        calendar.setBooked(slot, who.number);
        who.slot = slot;
        who.state = BOOKED;
    }

    private void release(Learner who) {
        calendar.setBooked(who.slot, NONE);
        who.slot = NONE;
        who.state = WAITING;
    }

    /** Looks at all days, since the day behind the last one told may lose its first hour. */
    private int releaseMisplaced(int examiner) {
        int released = 0;
        for (int i = 0; i < learnerCount; i++) {
            Learner who = learners[i];
            if (who.state == BOOKED && examinerOf(who.slot) == examiner && !isStillThere(who)) {
                release(who);
                released++;
            }
        }
        return released;
    }

    private boolean isStillThere(Learner who) {
        int day = dayOf(who.slot);
        int examiner = examinerOf(who.slot);
        return calendar.hasHour(day, hourOf(who.slot), examiner) && calendar.townOf(examiner, day) == who.town;
    }

    private int rankOf(Learner who) {
        facts[0] = who.sort;
        facts[1] = who.town;
        facts[2] = calendar.now - who.came;
        facts[3] = who.tries;
        facts[4] = who.to - calendar.now;
        facts[5] = calendar.now;
        return order.rankBy(facts);
    }

    private void lineUpWaiting() {
        line.clear();
        for (int i = 0; i < learnerCount; i++) {
            if (learners[i].state == WAITING) {
                line.add(i, rankOf(learners[i]));
            }
        }
    }

    private int placeAmongWaiting(Learner who) {
        lineUpWaiting();
        return line.placeOf(who.number);
    }

    private int dealLine() {
        int dealt = 0;
        for (int i = 0; i < line.size; i++) {
            Learner who = find(line.numbers[i]);
            if (who != null && bookLeast(who)) {
                dealt++;
            }
        }
        return dealt;
    }

    private boolean bookLeast(Learner who) {
        int slot = calendar.leastFree(who.town, Math.max(who.wish, who.from), who.to);
        if (slot == NONE) {
            return false;
        }
        book(who, slot);
        return true;
    }

    /** Nothing that the order asks for changes while slots move up, so the line is made once. */
    private int moveUp(int freed) {
        lineUpSooner();
        int moved = 0;
        int slot = freed;
        for (int turn = 0; turn < MAX_LEARNERS && calendar.isFree(slot); turn++) {
            Learner who = firstToMove(slot);
            if (who == null) {
                break;
            }
            int own = who.slot;
            release(who);
            book(who, slot);
            who.movedUp++;
            moved++;
            slot = own;
        }
        return moved;
    }

    private void lineUpSooner() {
        line.clear();
        for (int i = 0; i < learnerCount; i++) {
            if (learners[i].state == BOOKED && learners[i].sooner) {
                line.add(i, rankOf(learners[i]));
            }
        }
    }

    private Learner firstToMove(int slot) {
        for (int i = 0; i < line.size; i++) {
            Learner who = find(line.numbers[i]);
            if (who != null && who.slot > slot && isSuiting(slot, who)) {
                return who;
            }
        }
        return null;
    }

    private boolean isSuiting(int slot, Learner who) {
        int day = dayOf(slot);
        boolean wanted = day >= who.wish && day >= who.from && day <= who.to;
        return wanted && calendar.townOf(examinerOf(slot), day) == who.town;
    }

    private int countOfState(int state) {
        int sum = 0;
        for (int i = 0; i < learnerCount; i++) {
            if (learners[i].state == state) {
                sum++;
            }
        }
        return sum;
    }

    /** Who is booked on a day that is over waits again, so every booked hour is from now on. */
    private int countBookedWith(int examiner) {
        int sum = 0;
        for (int i = 0; i < learnerCount; i++) {
            if (learners[i].state == BOOKED && examinerOf(learners[i].slot) == examiner) {
                sum++;
            }
        }
        return sum;
    }

    private static final class Learner {
        final int number;
        final int came;
        int town;
        int sort;
        int from;
        int to;
        int wish;
        boolean sooner;
        int state;
        int slot;
        int tries;
        int movedUp;

        Learner(int number, int came) {
            this.number = number;
            this.came = came;
            state = WAITING;
            slot = NONE;
        }
    }

    /** Numbers of learners, the greater rank first, of one rank the one that was added first. */
    private static final class Line {
        final int[] numbers = new int[MAX_LEARNERS];
        final int[] ranks = new int[MAX_LEARNERS];
        int size;

        void clear() {
            size = 0;
        }

        void add(int number, int rank) {
            if (size >= MAX_LEARNERS) {
                return;
            }
            int place = size;
            while (place > 0 && ranks[place - 1] < rank) {
                numbers[place] = numbers[place - 1];
                ranks[place] = ranks[place - 1];
                place--;
            }
            numbers[place] = number;
            ranks[place] = rank;
            size++;
        }

        int placeOf(int number) {
            for (int i = 0; i < size; i++) {
                if (numbers[i] == number) {
                    return i;
                }
            }
            return NONE;
        }
    }

    /** The days, where the examiners are on them, who is booked when, and the tests that were held. */
    private static final class Calendar {
        final int[] towns = new int[MAX_EXAMINERS * DAYS];
        final boolean[] shutDays = new boolean[DAYS];
        final int[] booked = new int[SLOTS_OF_DAY * DAYS];
        final int[] tests = new int[MAX_EXAMINERS];
        final int[] passes = new int[MAX_EXAMINERS];
        int examiners;
        int now;
        int allTests;
        int allPasses;

        Calendar() {
            Arrays.fill(towns, NONE);
            Arrays.fill(booked, NONE);
        }

        int addExaminer() {
            if (examiners >= MAX_EXAMINERS) {
                return NONE;
            }
            examiners++;
            return examiners - 1;
        }

        boolean isExaminer(int examiner) {
            return examiner >= 0 && examiner < examiners;
        }

        void setTown(int examiner, int day, int town) {
            if (isExaminer(examiner) && isDay(day)) {
                towns[DAYS * examiner + day] = town;
            }
        }

        int townOf(int examiner, int day) {
            boolean known = examiner >= 0 && examiner < examiners && day >= 0 && day < DAYS;
            return known ? towns[DAYS * examiner + day] : NONE;
        }

        void shutDay(int day) {
            if (isDay(day)) {
                shutDays[day] = true;
            }
        }

        boolean isShut(int day) {
            return isDay(day) && shutDays[day];
        }

        boolean hasHour(int day, int hour, int examiner) {
            int town = townOf(examiner, day);
            return town != NONE && (hour > 0 || !isTravel(town, townOf(examiner, day - 1)));
        }

        private static boolean isTravel(int town, int townAhead) {
            return townAhead != NONE && townAhead != town;
        }

        boolean isSlot(int slot) {
            return slot >= 0 && slot < booked.length;
        }

        int bookedIn(int slot) {
            return isSlot(slot) ? booked[slot] : NONE;
        }

        void setBooked(int slot, int learner) {
            if (isSlot(slot)) {
                booked[slot] = learner;
            }
        }

        boolean isFree(int slot) {
            if (!isSlot(slot) || booked[slot] != NONE) {
                return false;
            }
            int day = dayOf(slot);
            return day > now && !shutDays[day] && hasHour(day, hourOf(slot), examinerOf(slot));
        }

        int leastFree(int town, int low, int high) {
            for (int day = Math.max(low, now + 1); day <= high && day < DAYS; day++) {
                int slot = leastFreeOn(day, town);
                if (slot != NONE) {
                    return slot;
                }
            }
            return NONE;
        }

        private int leastFreeOn(int day, int town) {
            for (int hour = 0; hour < HOURS; hour++) {
                for (int examiner = 0; examiner < examiners; examiner++) {
                    int slot = slotOf(day, hour, examiner);
                    if (townOf(examiner, day) == town && isFree(slot)) {
                        return slot;
                    }
                }
            }
            return NONE;
        }

        void noteTest(int examiner, boolean passed) {
            if (!isExaminer(examiner)) {
                return;
            }
            tests[examiner]++;
            allTests++;
            if (passed) {
                passes[examiner]++;
                allPasses++;
            }
        }

        int testsOf(int examiner) {
            return isExaminer(examiner) ? tests[examiner] : 0;
        }

        int passesOf(int examiner) {
            return isExaminer(examiner) ? passes[examiner] : 0;
        }

        int difference(int examiner, int bar) {
            long own = testsOf(examiner);
            long others = allTests - own;
            long ownPasses = passesOf(examiner);
            long othersPasses = allPasses - ownPasses;
            long gap = (ownPasses * others - othersPasses * own) * 100;
            long limit = bar * own * others;
            if (gap > limit) {
                return 1;
            }
            return gap < -limit ? -1 : 0;
        }
    }

    /** The signs that were fed and not yet read. */
    private static final class Tape {
        static final int MAX_SIGNS = 600;
        final char[] signs = new char[MAX_SIGNS];
        int length;

        void addEight(long bytes) {
            for (int shift = 56; shift >= 0; shift -= 8) {
                int sign = (int) (bytes >>> shift) & 255;
                boolean allowed = sign == 10 || isWithin(sign, 32, 126);
                if (allowed && length < MAX_SIGNS) {
                    signs[length] = (char) sign;
                    length++;
                }
            }
        }
    }

    /** The numbers by which tokens and the codes of a text are told apart; a NUMBER is its own. */
    private static final class Token {
        static final int MAX_NUMBER = 9999;
        static final int SORT = 10000;
        static final int TOWN = 10001;
        static final int WAITS = 10002;
        static final int TRIES = 10003;
        static final int LEFT = 10004;
        static final int DAY = 10005;
        static final int PLUS = 10006;
        static final int MINUS = 10007;
        static final int LESS = 10008;
        static final int EQUAL = 10009;
        static final int AND = 10010;
        static final int FIRST = 10011;
        static final int WHEN = 10012;
        static final int OPEN = 10013;
        static final int CLOSE = 10014;
        static final int SEMICOLON = 10015;
        static final int END = 10016;
        static final int NO_TOKEN = 10017;
    }

    /** A text of who goes first; each line's condition is kept with its operators behind their two sides. */
    private static final class Text {
        static final int MAX_LINES = 16;
        static final int MAX_WITHIN = 5;
        static final int FACTS = 6;
        /** A part can wait on three left sides (of "and", of a comparison, of a sum) for each that it is within. */
        private static final int MAX_HEIGHT = 3 * MAX_WITHIN + 1;

        final int[] firsts = new int[MAX_LINES];
        final int[] ends = new int[MAX_LINES];
        final int[] codes = new int[Tape.MAX_SIGNS];
        final int[] stack = new int[MAX_HEIGHT];
        int lines;
        int size;

        void clear() {
            lines = 0;
            size = 0;
        }

        void addCode(int code) {
            if (size < codes.length) {
                codes[size] = code;
                size++;
            }
        }

        void addLine(int first) {
            if (lines < MAX_LINES) {
                firsts[lines] = first;
                ends[lines] = size;
                lines++;
            }
        }

        int rankBy(int[] facts) {
            int from = 0;
            for (int i = 0; i < lines; i++) {
                if (valueOf(from, ends[i], facts) != 0) {
                    return firsts[i];
                }
                from = ends[i];
            }
            return 0;
        }

        private int valueOf(int from, int to, int[] facts) {
            int height = 0;
            for (int i = from; i < to; i++) {
                int code = codes[i];
                if (code > Token.DAY && height >= 2) {
                    height--;
                    stack[height - 1] = joined(code, stack[height - 1], stack[height]);
                } else if (code <= Token.DAY && height < MAX_HEIGHT) {
                    stack[height] = code <= Token.MAX_NUMBER ? code : facts[code - Token.SORT];
                    height++;
                }
            }
            return stack[0];
        }

        private static int joined(int operator, int left, int right) {
            switch (operator) {
                case Token.PLUS:
                    return left + right;
                case Token.MINUS:
                    return left - right;
                case Token.LESS:
                    return left < right ? 1 : 0;
                case Token.EQUAL:
                    return left == right ? 1 : 0;
                default:
                    return left != 0 && right != 0 ? 1 : 0;
            }
        }
    }

    /** Reads a tape into a text; each reading method stays at the token that is wrong and answers false. */
    private static final class TextReader {
        private static final int CANNOT_STAND = 1;
        private static final int FIRST_TOO_GREAT = 4;
        private static final int TOO_MANY = 5;
        private static final int MAX_FIRST = 99;
        private static final int MAX_DIGITS = 4;
        private static final int MAX_TOKENS = Tape.MAX_SIGNS + 1;

        final int[] tokens = new int[MAX_TOKENS];
        final int[] places = new int[MAX_TOKENS];
        int size;
        int next;
        int fault;
        char[] signs;
        int length;
        Text text;

        int read(Tape tape, Text into) {
            signs = tape.signs;
            length = tape.length;
            text = into;
            text.clear();
            scan();
            next = 0;
            fault = CANNOT_STAND;
            for (int i = 0; i <= Text.MAX_LINES && peek() != Token.END; i++) {
                if (!readLine()) {
                    return fault + 16 * placeOfNext();
                }
            }
            return 0;
        }

        private int placeOfNext() {
            return next < size ? places[next] : length;
        }

        private int peek() {
            return next < size ? tokens[next] : Token.NO_TOKEN;
        }

        private boolean take(int token) {
            if (next >= size || tokens[next] != token) {
                return false;
            }
            next++;
            return true;
        }

        private boolean readLine() {
            if (peek() == Token.FIRST && text.lines >= Text.MAX_LINES) {
                fault = TOO_MANY;
                return false;
            }
            if (!take(Token.FIRST)) {
                return false;
            }
            int first = peek();
            if (first > MAX_FIRST) {
                fault = first <= Token.MAX_NUMBER ? FIRST_TOO_GREAT : CANNOT_STAND;
                return false;
            }
            next++;
            if (!take(Token.WHEN) || !readCondition(0) || !take(Token.SEMICOLON)) {
                return false;
            }
            text.addLine(first);
            return true;
        }

        private boolean readCondition(int within) {
            if (!readTest(within)) {
                return false;
            }
            for (int i = 0; i < MAX_TOKENS && take(Token.AND); i++) {
                if (!readTest(within)) {
                    return false;
                }
                text.addCode(Token.AND);
            }
            return true;
        }

        private boolean readTest(int within) {
            if (!readSum(within)) {
                return false;
            }
            int sign = peek();
            if (sign != Token.LESS && sign != Token.EQUAL) {
                return true;
            }
            next++;
            if (!readSum(within)) {
                return false;
            }
            text.addCode(sign);
            return true;
        }

        private boolean readSum(int within) {
            if (!readPart(within)) {
                return false;
            }
            for (int i = 0; i < MAX_TOKENS; i++) {
                int sign = peek();
                if (sign != Token.PLUS && sign != Token.MINUS) {
                    return true;
                }
                next++;
                if (!readPart(within)) {
                    return false;
                }
                text.addCode(sign);
            }
            return true;
        }

        private boolean readPart(int within) {
            int token = peek();
            if (token > Token.DAY && token != Token.OPEN) {
                return false;
            }
            if (within >= Text.MAX_WITHIN) {
                fault = TOO_MANY;
                return false;
            }
            next++;
            if (token == Token.OPEN) {
                return readCondition(within + 1) && take(Token.CLOSE);
            }
            text.addCode(token);
            return true;
        }

        private void scan() {
            size = 0;
            int behind = 0;
            for (int place = 0; place < length; place++) {
                if (place >= behind && !isBlank(signs[place])) {
                    behind = endOf(place);
                    addToken(tokenOf(place, behind), place);
                }
            }
            addToken(Token.END, length);
        }

        private void addToken(int token, int place) {
            if (size < MAX_TOKENS) {
                tokens[size] = token;
                places[size] = place;
                size++;
            }
        }

        private int endOf(int place) {
            boolean word = isLetter(signs[place]);
            boolean number = isDigit(signs[place]);
            int end = place + 1;
            while (end < length && (word && isLetter(signs[end]) || number && isDigit(signs[end]))) {
                end++;
            }
            return end;
        }

        private int tokenOf(int from, int to) {
            if (isLetter(signs[from])) {
                return wordOf(from, to);
            }
            if (isDigit(signs[from])) {
                return numberOf(from, to);
            }
            return signOf(signs[from]);
        }

        /** A word that no text has is told as no token: the fault is the same one. */
        private int wordOf(int from, int to) {
            if (isSpelt(from, to, "first")) {
                return Token.FIRST;
            }
            if (isSpelt(from, to, "when")) {
                return Token.WHEN;
            }
            if (isSpelt(from, to, "and")) {
                return Token.AND;
            }
            if (isSpelt(from, to, "sort")) {
                return Token.SORT;
            }
            if (isSpelt(from, to, "town")) {
                return Token.TOWN;
            }
            if (isSpelt(from, to, "waits")) {
                return Token.WAITS;
            }
            if (isSpelt(from, to, "tries")) {
                return Token.TRIES;
            }
            if (isSpelt(from, to, "left")) {
                return Token.LEFT;
            }
            return isSpelt(from, to, "day") ? Token.DAY : Token.NO_TOKEN;
        }

        private boolean isSpelt(int from, int to, String word) {
            if (to - from != word.length()) {
                return false;
            }
            for (int i = 0; i < word.length(); i++) {
                if (signs[from + i] != word.charAt(i)) {
                    return false;
                }
            }
            return true;
        }

        private int numberOf(int from, int to) {
            if (to - from > MAX_DIGITS) {
                return Token.NO_TOKEN;
            }
            int number = 0;
            for (int i = from; i < to; i++) {
                number = 10 * number + signs[i] - '0';
            }
            return number;
        }

        private static int signOf(char sign) {
            switch (sign) {
                case '(':
                    return Token.OPEN;
                case ')':
                    return Token.CLOSE;
                case '<':
                    return Token.LESS;
                case '=':
                    return Token.EQUAL;
                case '+':
                    return Token.PLUS;
                case '-':
                    return Token.MINUS;
                case ';':
                    return Token.SEMICOLON;
                default:
                    return Token.NO_TOKEN;
            }
        }

        private static boolean isBlank(char sign) {
            return sign == 10 || sign == ' ';
        }

        private static boolean isLetter(char sign) {
            return sign >= 'a' && sign <= 'z';
        }

        private static boolean isDigit(char sign) {
            return sign >= '0' && sign <= '9';
        }
    }

    /** The streets between crossings, and the routes over them from crossing 0 back to it. */
    private static final class Streets {
        private static final int MAX_STREETS = 24;
        private static final int CROSSINGS = 12;
        private static final int MAX_AT_CROSSING = 4;
        private static final int MAX_MINUTES = 30;
        private static final int MAX_MARKS = 255;
        private static final int MAX_PARTS = 8;
        private static final int MAX_ROUTE_MINUTES = 240;

        final int[] ends = new int[MAX_STREETS];
        final int[] otherEnds = new int[MAX_STREETS];
        final int[] minutesOf = new int[MAX_STREETS];
        final int[] marksOf = new int[MAX_STREETS];
        final boolean[] closed = new boolean[MAX_STREETS];
        final int[][] streetsAt = new int[CROSSINGS][MAX_AT_CROSSING];
        final int[] sizeAt = new int[CROSSINGS];
        final int[] path = new int[MAX_PARTS];
        final int[] drawn = new int[MAX_PARTS];
        int size;
        int drawnParts;
        int least;
        int most;
        int wanted;
        int found;
        /** The route at which the search stops; NONE goes over all. */
        int target;
        int foundParts;
        int foundMinutes;

        int add(int a, int b, int minutes, int marks) {
            if (!hasRoomAt(a) || !hasRoomAt(b) || a == b || size >= MAX_STREETS) {
                return NONE;
            }
            if (!isWithin(minutes, 1, MAX_MINUTES) || !isWithin(marks, 0, MAX_MARKS)) {
                return NONE;
            }
            ends[size] = a;
            otherEnds[size] = b;
            minutesOf[size] = minutes;
            marksOf[size] = marks;
            putAt(a, size);
            putAt(b, size);
            size++;
            return size - 1;
        }

        private boolean hasRoomAt(int crossing) {
            return isWithin(crossing, 0, CROSSINGS - 1) && sizeAt[crossing] < MAX_AT_CROSSING;
        }

        private void putAt(int crossing, int street) {
            if (hasRoomAt(crossing)) {
                streetsAt[crossing][sizeAt[crossing]] = street;
                sizeAt[crossing]++;
            }
        }

        boolean setClosed(int street, boolean yes) {
            if (!isWithin(street, 0, size - 1)) {
                return false;
            }
            closed[street] = yes;
            return true;
        }

        private boolean isOpen(int street) {
            return isWithin(street, 0, size - 1) && !closed[street];
        }

        int countRoutes(int least, int most, int marks) {
            boolean told = isWithin(least, 0, MAX_ROUTE_MINUTES) && isWithin(most, 0, MAX_ROUTE_MINUTES);
            if (!told || !isWithin(marks, 0, MAX_MARKS)) {
                return NONE;
            }
            this.least = least;
            this.most = most;
            wanted = marks;
            search(NONE);
            return found;
        }

        int draw(int least, int most, int marks, int k) {
            int all = k < 0 ? NONE : countRoutes(least, most, marks);
            if (all <= 0) {
                return NONE;
            }
            search(k % all);
            System.arraycopy(path, 0, drawn, 0, MAX_PARTS);
            drawnParts = foundParts;
            return foundMinutes;
        }

        int drawnStreet(int i) {
            return isWithin(i, 0, drawnParts - 1) ? drawn[i] : NONE;
        }

        private void search(int route) {
            target = route;
            found = 0;
            walk(0, 0, 0, 0, 0);
        }

        /** Streets stand at a crossing by their numbers, so routes are met in the order that numbers them. */
        private boolean walk(int crossing, int parts, int minutes, int marks, int used) {
            if (parts >= MAX_PARTS || !isWithin(crossing, 0, CROSSINGS - 1)) {
                return false;
            }
            for (int i = 0; i < sizeAt[crossing]; i++) {
                int street = streetsAt[crossing][i];
                if (!isOpen(street) || (used >> street & 1) != 0) {
                    continue;
                }
                path[parts] = street;
                int beyond = ends[street] == crossing ? otherEnds[street] : ends[street];
                int spent = minutes + minutesOf[street];
                int seen = marks | marksOf[street];
                boolean stop = beyond == 0
                        ? isTarget(parts + 1, spent, seen)
                        : walk(beyond, parts + 1, spent, seen, used | 1 << street);
                if (stop) {
                    return true;
                }
            }
            return false;
        }

        private boolean isTarget(int parts, int minutes, int marks) {
            if (!isWithin(minutes, least, most) || (marks & wanted) != wanted) {
                return false;
            }
            if (found == target) {
                foundParts = parts;
                foundMinutes = minutes;
                return true;
            }
            found++;
            return false;
        }
    }
}
