import java.util.ArrayList;
import java.util.Arrays;
import java.util.Comparator;
import java.util.List;
import java.util.NoSuchElementException;
import java.util.Random;

/** Drawn runs of calls (from fixed seeds), each answer held against a plain second model of the document. */
public final class ModelTests {
    private static final int RUNS = 400;
    /** The last step may make two calls, and behind the 512th the document promises nothing. */
    private static final int CALLS = 511;
    private static final int THROWN = Integer.MIN_VALUE + 7;
    private static int wrong = 0;

    public static void main(String[] args) {
        for (int seed = 0; seed < RUNS && wrong < 20; seed++) {
            new Run(seed).go();
        }
        System.out.println(wrong == 0 ? RUNS + " runs are as the model's" : wrong + " answers are not the model's");
        if (wrong != 0) {
            System.exit(1);
        }
    }

    private static final class Run {
        final int seed;
        final Random random;
        final TestHall hall = new TestHall();
        final Model model = new Model();
        /** Each run favours some calls, so that rare states are met too. */
        final int[] weights = new int[21];
        int calls = 0;
        String waitingText = "";

        Run(int seed) {
            this.seed = seed;
            this.random = new Random(seed);
            for (int i = 0; i < weights.length; i++) {
                weights[i] = random.nextInt(6);
            }
        }

        void go() {
            int towns = 1 + random.nextInt(3);
            int reach = 2 + random.nextInt(58);
            while (calls < CALLS && wrong < 20) {
                int which = drawCall();
                try {
                    call(which, towns, reach);
                } catch (RuntimeException e) {
                    wrong++;
                    System.out.println("run " + seed + " call " + calls + " kind " + which + " threw " + e);
                }
            }
        }

        int drawCall() {
            int sum = 0;
            for (int weight : weights) {
                sum += weight;
            }
            int at = random.nextInt(Math.max(sum, 1));
            for (int i = 0; i < weights.length; i++) {
                at -= weights[i];
                if (at < 0) {
                    return i;
                }
            }
            return 0;
        }

        /** A number from low to high, now and then one just outside or far off. */
        int near(int low, int high) {
            int kind = random.nextInt(60);
            if (kind == 0) {
                return low - 1;
            }
            if (kind == 1) {
                return high + 1;
            }
            if (kind == 2) {
                return random.nextInt();
            }
            return low + random.nextInt(Math.max(1, high - low + 1));
        }

        void due(String what, int got, int want) {
            calls++;
            if (got != want) {
                wrong++;
                System.out.println("run " + seed + " call " + calls + ": " + what + " answered " + got
                        + ", the model's is " + want);
            }
        }

        int look(int learner, int what) {
            try {
                return hall.look(learner, what);
            } catch (NoSuchElementException e) {
                return THROWN;
            }
        }

        int one(boolean yes) {
            return yes ? 1 : 0;
        }

        void call(int which, int towns, int reach) {
            int learner = near(0, Math.max(0, model.learners.size() - 1));
            int examiner = near(0, Math.max(0, model.examiners - 1));
            switch (which) {
                case 0:
                    due("examiner", hall.examiner(), model.addExaminer());
                    break;
                case 1:
                case 2: {
                    int town = near(-1, towns - 1);
                    int low = near(model.now + 1, Math.min(59, model.now + reach));
                    int high = random.nextInt(3) == 0 ? near(1, 59) : low + random.nextInt(5);
                    due("place", hall.place(examiner, town, low, high), model.place(examiner, town, low, high));
                    break;
                }
                case 3:
                case 4: {
                    int town = near(0, towns - 1);
                    int sort = near(0, 3);
                    int from = near(0, random.nextInt(3) == 0 ? 59 : 3);
                    int to = near(0, 59);
                    int wish = near(0, random.nextInt(3) == 0 ? 59 : 5);
                    boolean sooner = random.nextInt(3) > 0;
                    due("learner", hall.learner(town, sort, from, to, wish, sooner),
                            model.addLearner(town, sort, from, to, wish, sooner));
                    break;
                }
                case 5:
                    feedAndRead();
                    break;
                case 6:
                    due("deal", hall.deal(), model.deal());
                    break;
                case 7:
                    due("cancel " + learner, hall.cancel(learner), model.cancel(learner));
                    break;
                case 8:
                    due("leave " + learner, one(hall.leave(learner)), one(model.leave(learner)));
                    break;
                case 9: {
                    int day = near(model.now + 1, Math.min(59, model.now + 4));
                    due("shut " + day, hall.shut(day), model.shut(day));
                    break;
                }
                case 10: {
                    int n = near(1, 2);
                    due("days " + n, hall.days(n), model.days(n));
                    break;
                }
                case 11: {
                    boolean passed = random.nextBoolean();
                    due("held " + learner, one(hall.held(learner, passed)), one(model.held(learner, passed)));
                    break;
                }
                case 12:
                case 13: {
                    int what = near(0, 4);
                    due("look " + learner + " " + what, look(learner, what), model.look(learner, what));
                    break;
                }
                case 14: {
                    int day = near(0, 59);
                    int hour = near(0, 5);
                    due("at", hall.at(day, hour, examiner), model.at(day, hour, examiner));
                    break;
                }
                case 15: {
                    int a = near(0, 11) % (2 + seed % 11);
                    int b = near(0, 11) % (2 + seed % 11);
                    int minutes = near(1, 30);
                    int marks = near(0, 255) & near(0, 255);
                    due("street", hall.street(a, b, minutes, marks), model.addStreet(a, b, minutes, marks));
                    break;
                }
                case 16: {
                    int street = near(0, Math.max(0, model.streets.size() - 1));
                    boolean yes = random.nextInt(3) == 0;
                    due("close", one(hall.close(street, yes)), one(model.close(street, yes)));
                    break;
                }
                case 17:
                    routeCalls();
                    break;
                case 18: {
                    int bar = near(0, 100);
                    due("differs", hall.differs(examiner, bar), model.differs(examiner, bar));
                    break;
                }
                case 19: {
                    int what = near(0, 10);
                    due("count " + what, hall.count(what), model.count(what));
                    break;
                }
                default: {
                    int what = near(0, 2);
                    due("load " + what, hall.load(examiner, what), model.load(examiner, what));
                    break;
                }
            }
        }

        void routeCalls() {
            if (random.nextInt(4) > 0) {
                int i = near(0, 7);
                due("part", hall.part(i), model.part(i));
                return;
            }
            int least = near(0, 100);
            int most = near(0, 240);
            int marks = near(0, 255) & near(0, 255) & near(0, 255);
            int k = near(0, 5000);
            due("routes", hall.routes(least, most, marks), model.routes(least, most, marks));
            due("route", hall.route(least, most, marks, k), model.route(least, most, marks, k));
        }

        void feedAndRead() {
            if (waitingText.isEmpty()) {
                waitingText = new Writer(random).text();
            }
            String next = waitingText.substring(0, Math.min(24, waitingText.length()));
            waitingText = waitingText.substring(next.length());
            due("feed", hall.feed(eight(next, 0), eight(next, 8), eight(next, 16)), model.feed(next));
            if (waitingText.isEmpty()) {
                String tape = model.tape;
                due("text '" + tape + "'", hall.text(), model.read());
            }
        }

        static long eight(String text, int from) {
            long bytes = 0;
            for (int i = from; i < from + 8; i++) {
                bytes = bytes << 8 | (i < text.length() ? text.charAt(i) & 255 : 0);
            }
            return bytes;
        }
    }

    /** Writes texts of the grammar, and spoils some of them. */
    private static final class Writer {
        static final String[] FACTS = {"sort", "town", "waits", "tries", "left", "day"};
        static final String[] SPOILERS = {"first", "when", "and", "sort", "100", "12345", "(", ")", "<", "=", "+", "-",
            ";", "?", "X", "abcdefghi", "day", "7", "\n", "", "\t", "((((((1", "((((("};
        final Random random;

        Writer(Random random) {
            this.random = random;
        }

        String text() {
            StringBuilder text = new StringBuilder();
            int lines = random.nextInt(10) == 0 ? 17 : random.nextInt(4);
            for (int i = 0; i < lines; i++) {
                String condition = lines > 16 ? FACTS[random.nextInt(6)] : condition(random.nextInt(5));
                text.append("first ").append(random.nextInt(12) * 9).append(blank()).append("when").append(" ");
                text.append(condition).append(blank()).append(";").append(blank());
            }
            if (random.nextInt(3) == 0) {
                int at = random.nextInt(text.length() + 1);
                int end = Math.min(text.length(), at + random.nextInt(3));
                text.replace(at, end, SPOILERS[random.nextInt(SPOILERS.length)]);
            }
            if (random.nextInt(12) == 0) {
                text.setLength(random.nextInt(text.length() + 1));
            }
            return text.toString();
        }

        String blank() {
            return random.nextBoolean() ? "" : random.nextBoolean() ? " " : "\n";
        }

        String condition(int deep) {
            StringBuilder all = new StringBuilder(test(deep));
            for (int i = random.nextInt(4) - 1; i > 0; i--) {
                all.append(" and ").append(test(deep));
            }
            return all.toString();
        }

        String test(int deep) {
            switch (random.nextInt(4)) {
                case 0:
                    return sum(deep);
                case 1:
                    return sum(deep) + blank() + "=" + blank() + sum(deep);
                default:
                    return sum(deep) + blank() + "<" + blank() + sum(deep);
            }
        }

        String sum(int deep) {
            StringBuilder all = new StringBuilder(part(deep));
            for (int i = random.nextInt(4) - 1; i > 0; i--) {
                all.append(random.nextBoolean() ? "+" : "-").append(blank()).append(part(deep));
            }
            return all.toString();
        }

        String part(int deep) {
            int kind = random.nextInt(deep > 0 ? 5 : 3);
            if (kind == 0) {
                return Integer.toString(random.nextInt(6));
            }
            return kind < 4 ? FACTS[random.nextInt(6)] : "(" + blank() + condition(deep - 1) + ")";
        }
    }

    private static final class Person {
        int number;
        int town;
        int sort;
        int from;
        int to;
        int wish;
        boolean sooner;
        int came;
        int state;
        int slot = -1;
        int tries;
        int moved;
    }

    private static final class Street {
        int a;
        int b;
        int minutes;
        int marks;
        boolean closed;
    }

    private static final class Word {
        final String signs;
        final int place;

        Word(String signs, int place) {
            this.signs = signs;
            this.place = place;
        }
    }

    private static final class Rule {
        int first;
        List<String> condition;
    }

    /** The document in its plainest form: everything is searched anew at each call. */
    private static final class Model {
        int examiners;
        int now;
        final int[][] towns = new int[8][60];
        final boolean[] shut = new boolean[60];
        final List<Person> learners = new ArrayList<>();
        final List<Street> streets = new ArrayList<>();
        final int[] tests = new int[8];
        final int[] passes = new int[8];
        List<Rule> rules = new ArrayList<>();
        String tape = "";
        List<Integer> drawn = new ArrayList<>();

        Model() {
            for (int[] days : towns) {
                Arrays.fill(days, -1);
            }
        }

        int addExaminer() {
            return examiners == 8 ? -1 : examiners++;
        }

        boolean isExaminer(int examiner) {
            return examiner >= 0 && examiner < examiners;
        }

        boolean hasHour(int slot) {
            int day = slot / 48;
            int town = towns[slot % 8][day];
            int ahead = day == 0 ? -1 : towns[slot % 8][day - 1];
            return town >= 0 && (slot % 48 >= 8 || ahead == -1 || ahead == town);
        }

        int place(int examiner, int town, int low, int high) {
            if (!isExaminer(examiner) || town < -1 || town > 5 || low <= now || high > 59 || low > high) {
                return -1;
            }
            Arrays.fill(towns[examiner], low, high + 1, town);
            int released = 0;
            for (Person p : learners) {
                if (p.state == 1 && (!hasHour(p.slot) || towns[p.slot % 8][p.slot / 48] != p.town)) {
                    p.state = 0;
                    p.slot = -1;
                    released++;
                }
            }
            return released;
        }

        int addLearner(int town, int sort, int from, int to, int wish, boolean sooner) {
            boolean days = from >= 0 && from <= to && to <= 59 && wish >= 0 && wish <= 59;
            if (town < 0 || town > 5 || sort < 0 || sort > 3 || !days || learners.size() == 60) {
                return -1;
            }
            Person p = new Person();
            p.number = learners.size();
            p.town = town;
            p.sort = sort;
            p.from = from;
            p.to = to;
            p.wish = wish;
            p.sooner = sooner;
            p.came = now;
            learners.add(p);
            return p.number;
        }

        Person find(int learner) {
            return learner >= 0 && learner < learners.size() ? learners.get(learner) : null;
        }

        int who(int slot) {
            for (Person p : learners) {
                if (p.state == 1 && p.slot == slot) {
                    return p.number;
                }
            }
            return -1;
        }

        boolean isFree(int slot) {
            int day = slot / 48;
            return slot % 8 < examiners && day > now && !shut[day] && hasHour(slot) && who(slot) == -1;
        }

        boolean suits(int slot, Person p) {
            int day = slot / 48;
            return towns[slot % 8][day] == p.town && day >= p.wish && day >= p.from && day <= p.to;
        }

        List<Person> inOrder(List<Person> some) {
            List<Person> sorted = new ArrayList<>(some);
            sorted.sort(Comparator.comparingInt((Person p) -> -rank(p)).thenComparingInt(p -> p.number));
            return sorted;
        }

        int rank(Person p) {
            for (Rule rule : rules) {
                if (value(rule.condition, p) != 0) {
                    return rule.first;
                }
            }
            return 0;
        }

        List<Person> waiting() {
            List<Person> some = new ArrayList<>();
            for (Person p : learners) {
                if (p.state == 0) {
                    some.add(p);
                }
            }
            return some;
        }

        int dealTo(List<Person> some) {
            int dealt = 0;
            for (Person p : inOrder(some)) {
                for (int slot = 48 * (now + 1); slot < 2880 && p.state == 0; slot++) {
                    if (towns[slot % 8][slot / 48] == p.town && suits(slot, p) && isFree(slot)) {
                        p.state = 1;
                        p.slot = slot;
                        dealt++;
                    }
                }
            }
            return dealt;
        }

        int deal() {
            return dealTo(waiting());
        }

        int moveUp(int slot) {
            if (slot == -1 || !isFree(slot)) {
                return 0;
            }
            for (Person p : inOrder(learners)) {
                if (p.state == 1 && p.slot > slot && p.sooner && suits(slot, p)) {
                    int own = p.slot;
                    p.slot = slot;
                    p.moved++;
                    return 1 + moveUp(own);
                }
            }
            return 0;
        }

        int cancel(int learner) {
            Person p = find(learner);
            if (p == null || p.state != 1) {
                return -1;
            }
            int slot = p.slot;
            p.state = 0;
            p.slot = -1;
            return moveUp(slot);
        }

        boolean leave(int learner) {
            Person p = find(learner);
            if (p == null || p.state > 1) {
                return false;
            }
            int slot = p.slot;
            p.state = 3;
            p.slot = -1;
            moveUp(slot);
            return true;
        }

        int shut(int day) {
            if (day <= now || day > 59 || shut[day]) {
                return -1;
            }
            shut[day] = true;
            List<Person> some = new ArrayList<>();
            for (Person p : learners) {
                if (p.state == 1 && p.slot / 48 == day) {
                    p.state = 0;
                    p.slot = -1;
                    some.add(p);
                }
            }
            return some.size() - dealTo(some);
        }

        int days(int n) {
            if (n < 1 || n > 59 || now + n > 59) {
                return -1;
            }
            now += n;
            for (Person p : learners) {
                if (p.state == 1 && p.slot / 48 < now) {
                    p.state = 0;
                    p.slot = -1;
                }
            }
            return now;
        }

        boolean held(int learner, boolean passed) {
            Person p = find(learner);
            if (p == null || p.state != 1 || p.slot / 48 != now) {
                return false;
            }
            tests[p.slot % 8]++;
            passes[p.slot % 8] += passed ? 1 : 0;
            p.slot = -1;
            p.state = passed ? 2 : 0;
            p.tries += passed ? 0 : 1;
            return true;
        }

        int look(int learner, int what) {
            Person p = find(learner);
            if (p == null || what < 0 || what > 4) {
                return THROWN;
            }
            int place = inOrder(waiting()).indexOf(p);
            return new int[] {p.state, p.slot, p.tries, place, p.moved}[what];
        }

        int at(int day, int hour, int examiner) {
            if (day < 0 || day > 59 || hour < 0 || hour > 5 || !isExaminer(examiner)) {
                return -3;
            }
            int slot = 48 * day + 8 * hour + examiner;
            return hasHour(slot) ? who(slot) : -2;
        }

        int streetsAt(int crossing) {
            int sum = 0;
            for (Street s : streets) {
                sum += s.a == crossing || s.b == crossing ? 1 : 0;
            }
            return sum;
        }

        int addStreet(int a, int b, int minutes, int marks) {
            if (a < 0 || a > 11 || b < 0 || b > 11 || a == b || minutes < 1 || minutes > 30) {
                return -1;
            }
            boolean full = streetsAt(a) == 4 || streetsAt(b) == 4 || streets.size() == 24;
            if (marks < 0 || marks > 255 || full) {
                return -1;
            }
            Street s = new Street();
            s.a = a;
            s.b = b;
            s.minutes = minutes;
            s.marks = marks;
            streets.add(s);
            return streets.size() - 1;
        }

        boolean close(int street, boolean yes) {
            if (street < 0 || street >= streets.size()) {
                return false;
            }
            streets.get(street).closed = yes;
            return true;
        }

        /** All routes, grown by length and put in order at the end; null for other numbers. */
        List<List<Integer>> allRoutes(int least, int most, int marks) {
            if (least < 0 || least > 240 || most < 0 || most > 240 || marks < 0 || marks > 255) {
                return null;
            }
            List<List<Integer>> found = new ArrayList<>();
            List<List<Integer>> open = new ArrayList<>();
            open.add(new ArrayList<>());
            for (int length = 1; length <= 8; length++) {
                List<List<Integer>> longer = new ArrayList<>();
                for (List<Integer> path : open) {
                    grow(path, longer, found);
                }
                open = longer;
            }
            found.removeIf(r -> minutes(r) < least || minutes(r) > most || (marks(r) & marks) != marks);
            found.sort(ModelTests::byNumbers);
            return found;
        }

        void grow(List<Integer> path, List<List<Integer>> longer, List<List<Integer>> found) {
            int end = endOf(path);
            for (int i = 0; i < streets.size(); i++) {
                Street s = streets.get(i);
                if (s.closed || path.contains(i) || s.a != end && s.b != end) {
                    continue;
                }
                List<Integer> grown = new ArrayList<>(path);
                grown.add(i);
                (endOf(grown) == 0 ? found : longer).add(grown);
            }
        }

        int endOf(List<Integer> path) {
            int at = 0;
            for (int i : path) {
                at = streets.get(i).a + streets.get(i).b - at;
            }
            return at;
        }

        int minutes(List<Integer> path) {
            int sum = 0;
            for (int i : path) {
                sum += streets.get(i).minutes;
            }
            return sum;
        }

        int marks(List<Integer> path) {
            int all = 0;
            for (int i : path) {
                all |= streets.get(i).marks;
            }
            return all;
        }

        int routes(int least, int most, int marks) {
            List<List<Integer>> all = allRoutes(least, most, marks);
            return all == null ? -1 : all.size();
        }

        int route(int least, int most, int marks, int k) {
            List<List<Integer>> all = allRoutes(least, most, marks);
            if (all == null || all.isEmpty() || k < 0) {
                return -1;
            }
            drawn = all.get(k % all.size());
            return minutes(drawn);
        }

        int part(int i) {
            return i >= 0 && i < drawn.size() ? drawn.get(i) : -1;
        }

        int differs(int examiner, int bar) {
            if (!isExaminer(examiner) || bar < 0 || bar > 100) {
                return -2;
            }
            int n = tests[examiner];
            int p = passes[examiner];
            int m = Arrays.stream(tests).sum() - n;
            int q = Arrays.stream(passes).sum() - p;
            if (n == 0 || m == 0) {
                return 0;
            }
            int gap = (p * m - q * n) * 100;
            return gap > bar * n * m ? 1 : gap < -bar * n * m ? -1 : 0;
        }

        int inState(int state) {
            int sum = 0;
            for (Person p : learners) {
                sum += p.state == state ? 1 : 0;
            }
            return sum;
        }

        int count(int what) {
            if (what < 0 || what > 10) {
                return -1;
            }
            return new int[] {examiners, learners.size(), now, inState(0), inState(1), inState(2), inState(3),
                rules.size(), tape.length(), streets.size(), Arrays.stream(tests).sum()}[what];
        }

        int load(int examiner, int what) {
            if (!isExaminer(examiner) || what < 0 || what > 2) {
                return -1;
            }
            int booked = 0;
            for (int slot = 48 * now + examiner; slot < 2880; slot += 8) {
                booked += who(slot) >= 0 ? 1 : 0;
            }
            return new int[] {tests[examiner], passes[examiner], booked}[what];
        }

        int feed(String signs) {
            for (char sign : signs.toCharArray()) {
                if ((sign == 10 || sign >= 32 && sign <= 126) && tape.length() < 600) {
                    tape += sign;
                }
            }
            return tape.length();
        }

        int read() {
            List<Word> words = new ArrayList<>();
            java.util.regex.Matcher m = java.util.regex.Pattern.compile("[a-z]+|[0-9]+|[^ \n]").matcher(tape);
            while (m.find()) {
                words.add(new Word(m.group(), m.start()));
            }
            words.add(new Word("END", tape.length()));
            tape = "";
            List<Rule> read = new ArrayList<>();
            int fault = faultOf(words, read);
            if (fault == 0) {
                rules = read;
            }
            return fault;
        }

        /** A machine with a stack of open brackets, each with whether its test has been compared yet. */
        int faultOf(List<Word> words, List<Rule> read) {
            String state = "line";
            List<Boolean> compared = new ArrayList<>();
            Rule rule = null;
            for (Word word : words) {
                String w = word.signs;
                boolean number = w.matches("[0-9]{1,4}");
                boolean value = number || w.matches("sort|town|waits|tries|left|day");
                int top = compared.size() - 1;
                int kind = 1;
                if (state.equals("line") && w.equals("END")) {
                    return 0;
                } else if (state.equals("line") && w.equals("first")) {
                    kind = read.size() == 16 ? 5 : 0;
                    state = "number";
                } else if (state.equals("number") && number) {
                    rule = new Rule();
                    rule.first = Integer.parseInt(w);
                    rule.condition = new ArrayList<>();
                    kind = rule.first > 99 ? 4 : 0;
                    state = "when";
                } else if (state.equals("when") && w.equals("when")) {
                    compared.clear();
                    compared.add(false);
                    kind = 0;
                    state = "part";
                } else if (state.equals("part") && (value || w.equals("("))) {
                    kind = compared.size() > 5 ? 5 : 0;
                    if (w.equals("(")) {
                        compared.add(false);
                    } else {
                        state = "behind";
                    }
                    rule.condition.add(w);
                } else if (state.equals("behind") && w.equals(";") && top == 0) {
                    read.add(rule);
                    kind = 0;
                    state = "line";
                } else if (state.equals("behind") && w.equals(")") && top > 0) {
                    compared.remove(top);
                    rule.condition.add(w);
                    kind = 0;
                } else if (state.equals("behind") && (w.equals("and") || w.equals("+") || w.equals("-"))) {
                    compared.set(top, compared.get(top) && !w.equals("and"));
                    rule.condition.add(w);
                    kind = 0;
                    state = "part";
                } else if (state.equals("behind") && (w.equals("<") || w.equals("=")) && !compared.get(top)) {
                    compared.set(top, true);
                    rule.condition.add(w);
                    kind = 0;
                    state = "part";
                }
                if (kind != 0) {
                    return kind + 16 * word.place;
                }
            }
            throw new IllegalStateException("no end");
        }

        /** Splits at the last operator that binds least, outside of brackets. */
        int value(List<String> words, Person p) {
            String[] kinds = {"and", "[<=]", "[+-]"};
            for (String kind : kinds) {
                int at = lastOf(words, kind);
                if (at >= 0) {
                    int left = value(words.subList(0, at), p);
                    int right = value(words.subList(at + 1, words.size()), p);
                    return joined(words.get(at), left, right);
                }
            }
            if (words.get(0).equals("(")) {
                return value(words.subList(1, words.size() - 1), p);
            }
            switch (words.get(0)) {
                case "sort":
                    return p.sort;
                case "town":
                    return p.town;
                case "waits":
                    return now - p.came;
                case "tries":
                    return p.tries;
                case "left":
                    return p.to - now;
                case "day":
                    return now;
                default:
                    return Integer.parseInt(words.get(0));
            }
        }

        static int lastOf(List<String> words, String kind) {
            int open = 0;
            for (int i = words.size() - 1; i >= 0; i--) {
                open += words.get(i).equals(")") ? 1 : words.get(i).equals("(") ? -1 : 0;
                if (open == 0 && words.get(i).matches(kind)) {
                    return i;
                }
            }
            return -1;
        }

        static int joined(String operator, int left, int right) {
            switch (operator) {
                case "+":
                    return left + right;
                case "-":
                    return left - right;
                case "<":
                    return left < right ? 1 : 0;
                case "=":
                    return left == right ? 1 : 0;
                default:
                    return left != 0 && right != 0 ? 1 : 0;
            }
        }
    }

    private static int byNumbers(List<Integer> one, List<Integer> other) {
        for (int i = 0; i < Math.min(one.size(), other.size()); i++) {
            int order = Integer.compare(one.get(i), other.get(i));
            if (order != 0) {
                return order;
            }
        }
        return Integer.compare(one.size(), other.size());
    }
}
