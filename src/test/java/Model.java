import java.math.BigInteger;
import java.util.ArrayList;
import java.util.HashMap;
import java.util.List;
import java.util.Map;
import java.util.TreeMap;
import java.util.regex.Matcher;
import java.util.regex.Pattern;

/**
 * The document once more, in the slowest and plainest way: every answer is found by its definition,
 * day by day, from all that was ever told. The random runs compare the program with it.
 */
final class Model {
    static final int NONE = -1;

    static final class Fault extends Exception {
        private static final long serialVersionUID = 1;
        final int what;
        final int place;

        Fault(int what, int place) {
            this.what = what;
            this.place = place;
        }
    }

    record Token(String text, int place) {
    }

    record Condition(int fact, String relation, int bound) {
        boolean holds(int value) {
            return relation.equals("<") ? value < bound : relation.equals(">") ? value > bound : value == bound;
        }
    }

    record Line(int sort, int name, boolean end, Condition condition, List<Integer> numbers, boolean percent) {
        int key() {
            return sort * 26 + name;
        }
    }

    record Agreement(int number, int from, int told, List<Line> lines) {
    }

    record Note(int post, int what, int from, int told, int v) {
    }

    record Winner(Line line, Agreement agreement, int lines) {
    }

    private static final List<String> SORTS = List.of("test", "grade", "scale", "step", "gap", "plus");
    private static final Pattern TOKEN = Pattern.compile("[A-Za-z]+|[0-9]+|[^ \\n]", Pattern.DOTALL);

    private final StringBuilder tape = new StringBuilder();
    private final List<Agreement> agreements = new ArrayList<>();
    private final List<Integer> persons = new ArrayList<>();
    private final List<Note> notes = new ArrayList<>();
    private final Map<List<Integer>, Long> paid = new HashMap<>();
    private final Map<List<Integer>, Integer> memory = new HashMap<>();
    private List<long[]> payments = List.of();
    private List<int[]> pairs = List.of();
    private List<int[]> meetings = List.of();
    private int today;
    private int runs;
    private int fault;
    private int place = NONE;

    int feed(int... numbers) {
        if (tape.length() > 1980) {
            return NONE;
        }
        for (int number : numbers) {
            for (int i = 3; i >= 0; i--) {
                tape.append((char) (number >>> 8 * i & 255));
            }
        }
        return tape.length();
    }

    int agree(int n, int from) {
        if (n < 0 || n > tape.length() || from < 0 || from > 1199 || agreements.size() == 12) {
            return -2;
        }
        String text = tape.substring(0, n);
        tape.setLength(0);
        fault = 0;
        place = NONE;
        try {
            agreements.add(new Agreement(agreements.size(), from, today, new Parse(text).lines()));
        } catch (Fault found) {
            fault = found.what;
            place = found.place;
            return NONE;
        }
        memory.clear();
        return agreements.size() - 1;
    }

    int fault(int what) {
        return what == 0 ? fault : what == 1 ? place : NONE;
    }

    int pass(int days) {
        if (days < 0 || days > 1200 || today + days > 1199) {
            return NONE;
        }
        today += days;
        return today;
    }

    int post(int person) {
        if (person < 0 || person > 7 || persons.size() == 8) {
            return NONE;
        }
        persons.add(person);
        return persons.size() - 1;
    }

    int note(int post, int what, int from, int v) {
        boolean fits = what >= 0 && what <= 5 && v >= -9999 && v <= 9999 || (what == 6 || what == 8) && (v == 0 || v == 1);
        for (int q = 1; q <= 8; q++) {
            for (int p = 0; p <= q; p++) {
                fits |= what == 7 && v == 10 * p + q;
            }
        }
        if (!isPost(post) || !isDay(from) || !fits || notes.size() == 200) {
            return NONE;
        }
        notes.add(new Note(post, what, from, today, v));
        memory.clear();
        return notes.size();
    }

    int look(int post, int day, int known, int what) {
        if (!isPost(post) || !isDay(day) || !isKnown(known) || what < 0 || what > 15) {
            return Integer.MIN_VALUE;
        }
        return switch (what) {
            case 9 -> points(post, day, known);
            case 10 -> grade(post, day, known);
            case 11 -> service(persons.get(post), day, known);
            case 12 -> step(post, day, known);
            case 13 -> base(post, day, known);
            case 14 -> amount(post, day, known);
            case 15 -> given(post, day, known);
            default -> told(post, what, day, known);
        };
    }

    long pay(int post, int day, int known) {
        if (!isPost(post) || !isDay(day) || !isKnown(known)) {
            return NONE;
        }
        int part = told(post, 7, day, known);
        return 840L * given(post, day, known) * (part / 10) / (part % 10);
    }

    long due(int post, int month, int known) {
        if (!isPost(post) || !isMonth(month) || !isKnown(known)) {
            return NONE;
        }
        long sum = 0;
        for (int day = 30 * month; day < 30 * month + 30; day++) {
            sum += pay(post, day, known);
        }
        return sum;
    }

    int run() {
        payments = new ArrayList<>();
        runs++;
        for (int post = 0; post < persons.size(); post++) {
            for (int month = 0; 30 * month + 29 < today; month++) {
                long more = due(post, month, today) - paid(post, month);
                if (more != 0) {
                    payments.add(new long[] {post, month, more});
                    paid.merge(List.of(post, month), more, Long::sum);
                }
            }
        }
        return payments.size();
    }

    long payment(int k, int what) {
        return k < 0 || k >= payments.size() || what < 0 || what > 2 ? NONE : payments.get(k)[what];
    }

    long paid(int post, int month) {
        return !isPost(post) || !isMonth(month) ? NONE : paid.getOrDefault(List.of(post, month), 0L);
    }

    long cost(int a, int b, int known) {
        if (!isMonth(a) || !isMonth(b) || b < a || !isKnown(known)) {
            return NONE;
        }
        long sum = 0;
        for (int post = 0; post < persons.size(); post++) {
            for (int month = a; month <= b; month++) {
                sum += due(post, month, known);
            }
        }
        return sum;
    }

    int like(int day, int known, int span) {
        if (!isDay(day) || !isKnown(known) || span < 0 || span > 99999) {
            return NONE;
        }
        pairs = new ArrayList<>();
        for (int a = 0; a < persons.size(); a++) {
            for (int b = a + 1; b < persons.size(); b++) {
                boolean held = told(a, 6, day, known) == 1 && told(b, 6, day, known) == 1;
                int apart = Math.abs(points(a, day, known) - points(b, day, known));
                int first = amount(a, day, known);
                int second = amount(b, day, known);
                if (held && apart <= span && first != second) {
                    int common = BigInteger.valueOf(first).gcd(BigInteger.valueOf(second)).intValue();
                    pairs.add(new int[] {a, b, first / common, second / common});
                }
            }
        }
        return pairs.size();
    }

    int pair(int k, int what) {
        return k < 0 || k >= pairs.size() || what < 0 || what > 3 ? NONE : pairs.get(k)[what];
    }

    int meet(int day, int known) {
        if (!isDay(day) || !isKnown(known)) {
            return NONE;
        }
        meetings = new ArrayList<>();
        for (Winner winner : winners(day, known).values()) {
            if (winner.lines > 1) {
                meetings.add(new int[] {winner.line.sort, winner.line.name, winner.agreement.number, winner.lines});
            }
        }
        return meetings.size();
    }

    int met(int k, int what) {
        return k < 0 || k >= meetings.size() || what < 0 || what > 3 ? NONE : meetings.get(k)[what];
    }

    int count(int what) {
        return switch (what) {
            case 0 -> today;
            case 1 -> agreements.size();
            case 2 -> persons.size();
            case 3 -> notes.size();
            case 4 -> agreements.stream().mapToInt(a -> a.lines.size()).sum();
            case 5 -> payments.size();
            case 6 -> runs;
            default -> NONE;
        };
    }

    private boolean isPost(int post) {
        return post >= 0 && post < persons.size();
    }

    private boolean isDay(int day) {
        return day >= 0 && day <= 1199;
    }

    private boolean isMonth(int month) {
        return month >= 0 && month <= 39;
    }

    private boolean isKnown(int known) {
        return known >= 0 && known <= today;
    }

    private Note noteThatCounts(int post, int what, int day, int known) {
        Note best = null;
        for (Note note : notes) {
            boolean fits = note.post == post && note.what == what && note.from <= day && note.told <= known;
            if (fits && (best == null || note.from >= best.from)) {
                best = note;
            }
        }
        return best;
    }

    private int told(int post, int what, int day, int known) {
        Note note = noteThatCounts(post, what, day, known);
        return note != null ? note.v : what == 7 ? 11 : 0;
    }

    private TreeMap<Integer, Winner> winners(int day, int known) {
        TreeMap<Integer, Winner> winners = new TreeMap<>();
        for (Agreement agreement : agreements) {
            if (agreement.from > day || agreement.told > known) {
                continue;
            }
            for (Line line : agreement.lines) {
                Winner was = winners.get(line.key());
                boolean wins = was == null || agreement.from >= was.agreement.from;
                int lines = was == null ? 1 : was.lines + 1;
                winners.put(line.key(), wins ? new Winner(line, agreement, lines)
                    : new Winner(was.line, was.agreement, lines));
            }
        }
        return winners;
    }

    private List<Line> linesOf(int sort, int day, int known) {
        List<Line> lines = new ArrayList<>();
        for (Winner winner : winners(day, known).values()) {
            if (winner.line.sort == sort && !winner.line.end) {
                lines.add(winner.line);
            }
        }
        return lines;
    }

    private int numberOf(int sort, int otherwise, int day, int known) {
        List<Line> lines = linesOf(sort, day, known);
        return lines.isEmpty() ? otherwise : lines.get(0).numbers.get(0);
    }

    private boolean holds(Line line, int post, int day, int known) {
        return line.condition == null || line.condition.holds(told(post, line.condition.fact, day, known));
    }

    private int points(int post, int day, int known) {
        int sum = 0;
        for (Line line : linesOf(0, day, known)) {
            sum += holds(line, post, day, known) ? line.numbers.get(0) : 0;
        }
        return sum;
    }

    private int grade(int post, int day, int known) {
        int points = points(post, day, known);
        Line best = null;
        for (Line line : linesOf(1, day, known)) {
            boolean reached = line.numbers.get(0) <= points;
            if (reached && (best == null || line.numbers.get(0) > best.numbers.get(0))) {
                best = line;
            }
        }
        return best == null ? NONE : best.name;
    }

    private boolean holdsAny(int person, int day, int known) {
        for (int post = 0; post < persons.size(); post++) {
            if (persons.get(post) == person && told(post, 6, day, known) == 1) {
                return true;
            }
        }
        return false;
    }

    private int service(int person, int day, int known) {
        List<Integer> asked = List.of(0, person, day, known);
        Integer remembered = memory.get(asked);
        if (remembered == null) {
            int service = 0;
            int without = 0;
            for (int d = 0; d <= day; d++) {
                memory.put(List.of(0, person, d, known), service);
                boolean held = holdsAny(person, d, known);
                without = held ? 0 : without + 1;
                service = held ? service + 1 : without > numberOf(4, 0, d, known) ? 0 : service;
            }
            remembered = memory.get(asked);
        }
        return remembered;
    }

    private Line scale(int post, int day, int known) {
        int grade = grade(post, day, known);
        for (Line line : linesOf(2, day, known)) {
            if (line.name == grade) {
                return line;
            }
        }
        return null;
    }

    private int step(int post, int day, int known) {
        Line scale = scale(post, day, known);
        if (scale == null) {
            return NONE;
        }
        int step = service(persons.get(post), day, known) / numberOf(3, 360, day, known);
        return Math.min(step, scale.numbers.size() - 1);
    }

    private int base(int post, int day, int known) {
        int step = step(post, day, known);
        return step == NONE ? 0 : scale(post, day, known).numbers.get(step);
    }

    private int amount(int post, int day, int known) {
        List<Integer> asked = List.of(1, post, day, known);
        Integer remembered = memory.get(asked);
        if (remembered == null) {
            int base = base(post, day, known);
            remembered = 100 * base;
            for (Line line : linesOf(5, day, known)) {
                if (holds(line, post, day, known)) {
                    remembered += line.percent ? base * line.numbers.get(0) : 100 * line.numbers.get(0);
                }
            }
            memory.put(asked, remembered);
        }
        return remembered;
    }

    private int given(int post, int day, int known) {
        if (told(post, 6, day, known) == 0) {
            return 0;
        }
        if (told(post, 8, day, known) == 0) {
            return amount(post, day, known);
        }
        int begin = noteThatCounts(post, 8, day, known).from;
        int floor = begin == 0 ? 0 : given(post, begin - 1, known);
        for (int d = begin; d <= day; d++) {
            if (told(post, 6, d, known) == 1 && amount(post, d, known) >= floor) {
                return amount(post, day, known);
            }
        }
        return floor;
    }

    /** Reads a text along its list of tokens. */
    private static final class Parse {
        private final List<Token> tokens = new ArrayList<>();
        private int at;

        Parse(String text) {
            Matcher matcher = TOKEN.matcher(text);
            while (matcher.find()) {
                tokens.add(new Token(matcher.group(), matcher.start()));
            }
            tokens.add(new Token("", text.length()));
        }

        List<Line> lines() throws Fault {
            List<Line> lines = new ArrayList<>();
            List<Integer> keys = new ArrayList<>();
            while (!tokens.get(at).text.isEmpty()) {
                Token first = tokens.get(at);
                if (!SORTS.contains(first.text) && !first.text.equals("end")) {
                    throw new Fault(1, first.place);
                }
                if (lines.size() == 40) {
                    throw new Fault(2, first.place);
                }
                Line line = line();
                if (keys.contains(line.key())) {
                    throw new Fault(3, first.place);
                }
                take(";");
                keys.add(line.key());
                lines.add(line);
            }
            return lines;
        }

        private Line line() throws Fault {
            String word = take("test|grade|scale|step|gap|plus|end");
            List<Integer> numbers = new ArrayList<>();
            Condition condition = null;
            boolean percent = false;
            int name = 0;
            if (word.equals("end")) {
                word = take("test|grade|scale|plus");
                return new Line(SORTS.indexOf(word), take("[a-z]").charAt(0) - 'a', true, null, numbers, false);
            }
            if (!word.equals("step") && !word.equals("gap")) {
                name = take("[a-z]").charAt(0) - 'a';
            }
            switch (word) {
                case "test" -> {
                    condition = condition();
                    take("=");
                    numbers.add(number());
                }
                case "grade" -> {
                    take("from");
                    numbers.add(number());
                }
                case "scale" -> {
                    take(":");
                    numbers.add(number());
                    while (tokens.get(at).text.equals(",")) {
                        take(",");
                        int place = tokens.get(at).place;
                        boolean digits = tokens.get(at).text.matches("[0-9]+");
                        if (digits && numbers.size() == 8) {
                            throw new Fault(2, place);
                        }
                        numbers.add(number());
                    }
                }
                case "step" -> {
                    int place = tokens.get(at).place;
                    numbers.add(number());
                    if (numbers.get(0) == 0) {
                        throw new Fault(2, place);
                    }
                }
                case "gap" -> numbers.add(number());
                default -> {
                    if (!tokens.get(at).text.equals("=") && tokens.get(at).text.matches("[A-Za-z]+")) {
                        condition = condition();
                    }
                    take("=");
                    numbers.add(number());
                    if (tokens.get(at).text.equals("%")) {
                        if (numbers.get(0) > 999) {
                            throw new Fault(2, tokens.get(at).place);
                        }
                        take("%");
                        percent = true;
                    }
                }
            }
            return new Line(SORTS.indexOf(word), name, false, condition, numbers, percent);
        }

        private Condition condition() throws Fault {
            int fact = take("[A-F]").charAt(0) - 'A';
            String relation = take("[<>=]");
            return new Condition(fact, relation, number());
        }

        private int number() throws Fault {
            int place = tokens.get(at).place;
            String digits = take("[0-9]+");
            BigInteger number = new BigInteger(digits);
            if (number.compareTo(BigInteger.valueOf(9999)) > 0) {
                throw new Fault(2, place);
            }
            return number.intValue();
        }

        private String take(String pattern) throws Fault {
            Token token = tokens.get(at);
            if (!token.text.matches(pattern)) {
                throw new Fault(1, token.place);
            }
            at++;
            return token.text;
        }
    }
}
