import java.util.ArrayList;
import java.util.Arrays;

/**
 * An office of pay scales. Nothing of what follows from the told agreements and notes is kept: each
 * question walks through the days anew, so an answer as known on an earlier day needs no history.
 */
public final class PayScales {
    public static final int NONE = -1;

    private static final int REFUSED = -2;
    private static final int DAYS = 1200;
    private static final int MONTHS = 40;
    private static final int DAYS_OF_MONTH = 30;
    private static final int MOST_BYTES = 2000;
    private static final int BYTES_OF_FEED = 20;
    private static final int MOST_AGREEMENTS = 12;
    private static final int MOST_LINES = 40;
    private static final int MOST_STEPS = 8;
    private static final int MOST_POSTS = 8;
    private static final int PERSONS = 8;
    private static final int MOST_NOTES = 200;
    private static final int MOST_PAIRS = 28;
    private static final int MOST_NUMBER = 9999;
    private static final int MOST_PERCENT = 999;
    private static final int MOST_SPAN = 99999;
    private static final int WHOLE_PART = 11;
    /** All of 1 to 8 divide it, so that a day's pay for any part is whole in 2520000ths. */
    private static final int DAY_UNITS = 840;

    private static final int TEST = 0;
    private static final int GRADE = 1;
    private static final int SCALE = 2;
    private static final int STEP = 3;
    private static final int GAP = 4;
    private static final int PLUS = 5;
    private static final int END = 6;
    private static final int NAMES = 26;
    private static final int KEYS = 6 * NAMES;

    private static final int FACTS = 6;
    private static final int HELD = 6;
    private static final int PART = 7;
    private static final int PROTECT = 8;
    private static final int TOLD_THINGS = 9;
    private static final int LOOKS = 16;

    private final byte[] tape = new byte[MOST_BYTES];
    private final Reader reader = new Reader(tape);
    private final ArrayList<Agreement> agreements = new ArrayList<>();
    private final ArrayList<Note> notes = new ArrayList<>();
    private final int[] persons = new int[MOST_POSTS];
    private final Rules rules = new Rules();
    private final Walk walk = new Walk(agreements, notes, persons, rules);
    private final long[] paidSums = new long[MOST_POSTS * MONTHS];
    private final Rows payments = new Rows(3, MOST_POSTS * MONTHS);
    private final Rows pairs = new Rows(4, MOST_PAIRS);
    private final Rows meetings = new Rows(4, KEYS);
    private final int[] pointsOfPosts = new int[MOST_POSTS];
    private final int[] amountsOfPosts = new int[MOST_POSTS];
    private int today;
    private int tapeLength;
    private int lineCount;
    private int postCount;
    private int runCount;

    public PayScales() {
    }

    public int feed(int a, int b, int c, int d, int e) {
        if (tapeLength + BYTES_OF_FEED > MOST_BYTES) {
            return NONE;
        }
        feedNumber(a);
        feedNumber(b);
        feedNumber(c);
        feedNumber(d);
        feedNumber(e);
        return tapeLength;
    }

    public int agree(int n, int from) {
        if (n < 0 || n > tapeLength || !isDay(from) || agreements.size() >= MOST_AGREEMENTS) {
            return REFUSED;
        }
        tapeLength = 0;
        ArrayList<Line> lines = reader.read(n);
        if (reader.fault != 0) {
            return NONE;
        }
        Agreement agreement = new Agreement(agreements.size(), from, today, lines);
        agreements.add(placeOfAgreement(from), agreement);
        lineCount += lines.size();
        return agreement.number;
    }

    public int fault(int what) {
        if (what == 0) {
            return reader.fault;
        }
        return what == 1 ? reader.place : NONE;
    }

    public int pass(int days) {
        if (days < 0 || days > DAYS || today + days >= DAYS) {
            return NONE;
        }
        today += days;
        return today;
    }

    public int post(int person) {
        if (person < 0 || person >= PERSONS || postCount >= MOST_POSTS) {
            return NONE;
        }
        persons[postCount] = person;
        postCount++;
        return postCount - 1;
    }

    public int note(int post, int what, int from, int v) {
        if (!isPost(post) || !isDay(from) || !canBecome(what, v) || notes.size() >= MOST_NOTES) {
            return NONE;
        }
        notes.add(placeOfNote(from), new Note(post, what, from, today, v));
        return notes.size();
    }

    public int look(int post, int day, int known, int what) {
        if (!isPost(post) || !isDay(day) || !isKnown(known) || what < 0 || what >= LOOKS) {
            return Integer.MIN_VALUE;
        }
        walk.begin(post, known);
        walk.goTo(day);
        return walk.tell(what);
    }

    public long pay(int post, int day, int known) {
        if (!isPost(post) || !isDay(day) || !isKnown(known)) {
            return NONE;
        }
        walk.begin(post, known);
        walk.goTo(day);
        return walk.payOfDay();
    }

    public long due(int post, int month, int known) {
        if (!isPost(post) || !isMonth(month) || !isKnown(known)) {
            return NONE;
        }
        return dueOfMonths(post, month, month, known);
    }

    public int run() {
        payments.clear();
        int ended = today / DAYS_OF_MONTH;
        for (int post = 0; post < postCount; post++) {
            walk.begin(post, today);
            for (int month = 0; month < ended; month++) {
                settle(post, month, walk.payOfDays(DAYS_OF_MONTH));
            }
        }
        runCount++;
        return payments.size;
    }

    public long payment(int k, int what) {
        return payments.cell(k, what);
    }

    public long paid(int post, int month) {
        if (!isPost(post) || !isMonth(month)) {
            return NONE;
        }
        return paidSums[post * MONTHS + month];
    }

    public long cost(int a, int b, int known) {
        if (!isMonth(a) || !isMonth(b) || b < a || !isKnown(known)) {
            return NONE;
        }
        long sum = 0;
        for (int post = 0; post < postCount; post++) {
            sum += dueOfMonths(post, a, b, known);
        }
        return sum;
    }

    public int like(int day, int known, int span) {
        if (!isDay(day) || !isKnown(known) || span < 0 || span > MOST_SPAN) {
            return NONE;
        }
        for (int post = 0; post < postCount; post++) {
            walk.begin(post, known);
            walk.goTo(day);
            pointsOfPosts[post] = walk.isHeld() ? walk.appraisal.points : NONE;
            amountsOfPosts[post] = walk.appraisal.amount;
        }
        pairs.clear();
        for (int lesser = 0; lesser < postCount; lesser++) {
            for (int greater = lesser + 1; greater < postCount; greater++) {
                if (areLike(lesser, greater, span)) {
                    addPair(lesser, greater);
                }
            }
        }
        return pairs.size;
    }

    public int pair(int k, int what) {
        return (int) pairs.cell(k, what);
    }

    public int meet(int day, int known) {
        if (!isDay(day) || !isKnown(known)) {
            return NONE;
        }
        rules.clear();
        for (int i = 0; i < agreements.size(); i++) {
            Agreement agreement = agreements.get(i);
            if (agreement.from <= day && agreement.told <= known) {
                rules.take(agreement);
            }
        }
        meetings.clear();
        for (int key = 0; key < KEYS; key++) {
            Line winner = rules.winnerOf(key);
            int lines = rules.linesOf(key);
            if (winner != null && lines > 1) {
                meetings.add(winner.sort, winner.name, rules.agreementOf(key), lines);
            }
        }
        return meetings.size;
    }

    public int met(int k, int what) {
        return (int) meetings.cell(k, what);
    }

    public int count(int what) {
        switch (what) {
            case 0: return today;
            case 1: return agreements.size();
            case 2: return postCount;
            case 3: return notes.size();
            case 4: return lineCount;
            case 5: return payments.size;
            case 6: return runCount;
            default: return NONE;
        }
    }

    private boolean isPost(int post) {
        return post >= 0 && post < postCount;
    }

    private static boolean isDay(int day) {
        return day >= 0 && day < DAYS;
    }

    private static boolean isMonth(int month) {
        return month >= 0 && month < MONTHS;
    }

    private boolean isKnown(int known) {
        return known >= 0 && known <= today;
    }

    private void feedNumber(int number) {
        for (int shift = 24; shift >= 0; shift -= 8) {
            if (tapeLength < MOST_BYTES) {
                tape[tapeLength] = (byte) (number >> shift);
                tapeLength++;
            }
        }
    }

    private static boolean canBecome(int what, int v) {
        if (what < 0 || what >= TOLD_THINGS) {
            return false;
        }
        if (what < FACTS) {
            return v >= -MOST_NUMBER && v <= MOST_NUMBER;
        }
        return what == PART ? isPart(v) : v == 0 || v == 1;
    }

    private static boolean isPart(int v) {
        int p = v / 10;
        int q = v % 10;
        return v >= 0 && q >= 1 && q <= 8 && p <= q;
    }

    /** Behind all of the same day, so that along the list the one that counts comes last. */
    private int placeOfAgreement(int from) {
        for (int i = 0; i < agreements.size(); i++) {
            if (agreements.get(i).from > from) {
                return i;
            }
        }
        return agreements.size();
    }

    private int placeOfNote(int from) {
        for (int i = 0; i < notes.size(); i++) {
            if (notes.get(i).from > from) {
                return i;
            }
        }
        return notes.size();
    }

    private long dueOfMonths(int post, int first, int last, int known) {
        walk.begin(post, known);
        walk.goTo(first * DAYS_OF_MONTH);
        return walk.payOfDays((last - first + 1) * DAYS_OF_MONTH);
    }

    private void settle(int post, int month, long sum) {
        int cell = post * MONTHS + month;
        if (cell < 0 || cell >= paidSums.length) {
            return;
        }
        long difference = sum - paidSums[cell];
        if (difference != 0) {
            paidSums[cell] = sum;
            payments.add(post, month, difference, 0);
        }
    }

    private boolean areLike(int lesser, int greater, int span) {
        int a = pointsOfPosts[lesser];
        int b = pointsOfPosts[greater];
        boolean bothHeld = a != NONE && b != NONE;
        return bothHeld && Math.abs(a - b) <= span && amountsOfPosts[lesser] != amountsOfPosts[greater];
    }

    private void addPair(int lesser, int greater) {
        int a = amountsOfPosts[lesser];
        int b = amountsOfPosts[greater];
        int divisor = commonDivisor(a, b);
        if (divisor > 0) {
            pairs.add(lesser, greater, a / divisor, b / divisor);
        }
    }

    /** Of two numbers that are not below 0; fewer than 50 turns end it for any two ints. */
    private static int commonDivisor(int a, int b) {
        int x = a;
        int y = b;
        for (int turn = 0; turn < 64 && y != 0; turn++) {
            int rest = x % y;
            x = y;
            y = rest;
        }
        return x;
    }

    /** What was told of a post, on a day, from another day on. */
    private static final class Note {
        final int post;
        final int what;
        final int from;
        final int told;
        final int value;

        Note(int post, int what, int from, int told, int value) {
            this.post = post;
            this.what = what;
            this.from = from;
            this.told = told;
            this.value = value;
        }
    }

    private static final class Agreement {
        final int number;
        final int from;
        final int told;
        final ArrayList<Line> lines;

        Agreement(int number, int from, int told, ArrayList<Line> lines) {
            this.number = number;
            this.from = from;
            this.told = told;
            this.lines = lines;
        }
    }

    private static final class Line {
        final int sort;
        final boolean ends;
        final int[] scaleNumbers;
        int scaleLength;
        int name;
        /** The fact that must hold; NONE if the line asks for none. */
        int fact = NONE;
        int sign;
        int bound;
        int number;
        boolean percent;

        Line(int sort, boolean ends) {
            this.sort = sort;
            this.ends = ends;
            scaleNumbers = new int[sort == SCALE && !ends ? MOST_STEPS : 0];
        }

        int key() {
            return sort * NAMES + name;
        }

        boolean holds(int[] facts) {
            if (fact < 0 || fact >= facts.length) {
                return true;
            }
            int value = facts[fact];
            if (sign == '<') {
                return value < bound;
            }
            return sign == '>' ? value > bound : value == bound;
        }

        void addToScale(int value) {
            if (scaleLength < scaleNumbers.length) {
                scaleNumbers[scaleLength] = value;
                scaleLength++;
            }
        }

        int scaleNumber(int step) {
            return step >= 0 && step < scaleLength && step < scaleNumbers.length ? scaleNumbers[step] : 0;
        }
    }

    /** Rows of an answer, kept as they were then. */
    private static final class Rows {
        private final int width;
        private final long[] cells;
        int size;

        Rows(int width, int most) {
            this.width = width;
            cells = new long[Math.max(0, width * most)];
        }

        void clear() {
            size = 0;
        }

        void add(long a, long b, long c, long d) {
            if ((size + 1) * width > cells.length) {
                return;
            }
            put(0, a);
            put(1, b);
            put(2, c);
            put(3, d);
            size++;
        }

        long cell(int row, int column) {
            if (row < 0 || row >= size || column < 0 || column >= width) {
                return NONE;
            }
            int at = row * width + column;
            return at < cells.length ? cells[at] : NONE;
        }

        private void put(int column, long value) {
            int at = size * width + column;
            if (column < width && at < cells.length) {
                cells[at] = value;
            }
        }
    }

    /** Reads a text up to its first fault: of all that it refuses, only the first is kept. */
    private static final class Reader {
        private static final int MISPLACED = 1;
        private static final int TOO_MUCH = 2;
        private static final int TWICE = 3;
        /** Kinds of tokens lie above all bytes: a sign's kind is its byte. */
        private static final int BLANK = 256;
        private static final int LETTERS = 257;
        private static final int DIGITS = 258;
        private static final int TEXT_END = 259;

        private final byte[] text;
        private final boolean[] seenKeys = new boolean[KEYS];
        private int length;
        private int start;
        private int behind;
        private int kind;
        int fault;
        int place = NONE;

        Reader(byte[] text) {
            this.text = text;
        }

        ArrayList<Line> read(int textLength) {
            ArrayList<Line> lines = new ArrayList<>();
            begin(textLength);
            for (int i = 0; i <= MOST_LINES && fault == 0 && kind != TEXT_END; i++) {
                int first = start;
                int word = takeFirstWord(lines.size());
                if (word != NONE) {
                    Line line = word == END ? readEnd() : readBody(word);
                    checkKey(line.key(), first);
                    takeSign(';');
                    lines.add(line);
                }
            }
            return lines;
        }

        private void begin(int textLength) {
            length = textLength;
            behind = 0;
            fault = 0;
            place = NONE;
            for (int key = 0; key < seenKeys.length; key++) {
                seenKeys[key] = false;
            }
            advance();
        }

        /** A word that begins no line is misplaced even where no line may begin any more. */
        private int takeFirstWord(int lineCount) {
            int word = wordOfToken();
            if (word == NONE) {
                refuse(MISPLACED, start);
                return NONE;
            }
            if (lineCount >= MOST_LINES) {
                refuse(TOO_MUCH, start);
                return NONE;
            }
            advance();
            return word;
        }

        private Line readEnd() {
            int sort = wordOfToken();
            if (sort != TEST && sort != GRADE && sort != SCALE && sort != PLUS) {
                refuse(MISPLACED, start);
                sort = TEST;
            }
            advance();
            Line line = new Line(sort, true);
            line.name = takeLetter('a', 'z');
            return line;
        }

        private Line readBody(int sort) {
            Line line = new Line(sort, false);
            if (sort != STEP && sort != GAP) {
                line.name = takeLetter('a', 'z');
            }
            switch (sort) {
                case TEST:
                    readCondition(line);
                    takeSign('=');
                    line.number = takeNumber();
                    break;
                case GRADE:
                    takeFrom();
                    line.number = takeNumber();
                    break;
                case SCALE:
                    takeSign(':');
                    readScale(line);
                    break;
                case STEP:
                    readStepDays(line);
                    break;
                case GAP:
                    line.number = takeNumber();
                    break;
                default:
                    if (kind == LETTERS) {
                        readCondition(line);
                    }
                    takeSign('=');
                    readPlusNumber(line);
                    break;
            }
            return line;
        }

        private void readCondition(Line line) {
            line.fact = takeLetter('A', 'F');
            line.sign = takeRelation();
            line.bound = takeNumber();
        }

        private void readScale(Line line) {
            boolean more = true;
            for (int i = 0; i < MOST_BYTES && more && fault == 0; i++) {
                if (kind == DIGITS && line.scaleLength >= MOST_STEPS) {
                    refuse(TOO_MUCH, start);
                }
                line.addToScale(takeNumber());
                more = kind == ',';
                if (more) {
                    advance();
                }
            }
        }

        private void readStepDays(Line line) {
            int at = start;
            line.number = takeNumber();
            if (line.number == 0) {
                refuse(TOO_MUCH, at);
            }
        }

        private void readPlusNumber(Line line) {
            line.number = takeNumber();
            if (kind == '%') {
                if (line.number > MOST_PERCENT) {
                    refuse(TOO_MUCH, start);
                }
                line.percent = true;
                advance();
            }
        }

        private void checkKey(int key, int first) {
            if (key < 0 || key >= seenKeys.length) {
                return;
            }
            if (seenKeys[key]) {
                refuse(TWICE, first);
            }
            seenKeys[key] = true;
        }

        private void refuse(int what, int where) {
            if (fault == 0) {
                fault = what;
                place = where;
            }
        }

        private int takeLetter(int least, int greatest) {
            int letter = byteAt(start);
            if (kind != LETTERS || behind - start != 1 || letter < least || letter > greatest) {
                refuse(MISPLACED, start);
                return 0;
            }
            advance();
            return letter - least;
        }

        private int takeRelation() {
            int sign = kind;
            if (sign != '<' && sign != '>' && sign != '=') {
                refuse(MISPLACED, start);
                return '=';
            }
            advance();
            return sign;
        }

        private int takeNumber() {
            if (kind != DIGITS) {
                refuse(MISPLACED, start);
                return 0;
            }
            int number = numberOfToken();
            if (number > MOST_NUMBER) {
                refuse(TOO_MUCH, start);
            }
            advance();
            return number;
        }

        private void takeSign(int sign) {
            if (kind != sign) {
                refuse(MISPLACED, start);
                return;
            }
            advance();
        }

        private void takeFrom() {
            if (!tokenIs("from")) {
                refuse(MISPLACED, start);
                return;
            }
            advance();
        }

        /** The sort of line that the token begins, END for an end, or NONE. */
        private int wordOfToken() {
            for (int word = TEST; word <= END; word++) {
                if (tokenIs(spelling(word))) {
                    return word;
                }
            }
            return NONE;
        }

        private static String spelling(int word) {
            switch (word) {
                case TEST: return "test";
                case GRADE: return "grade";
                case SCALE: return "scale";
                case STEP: return "step";
                case GAP: return "gap";
                case PLUS: return "plus";
                default: return "end";
            }
        }

        private boolean tokenIs(String word) {
            if (kind != LETTERS || behind - start != word.length()) {
                return false;
            }
            for (int i = 0; i < word.length(); i++) {
                if (byteAt(start + i) != word.charAt(i)) {
                    return false;
                }
            }
            return true;
        }

        /** Held just above the limit, so that no row of digits overflows. */
        private int numberOfToken() {
            int number = 0;
            for (int at = start; at < behind; at++) {
                number = Math.min(MOST_NUMBER + 1, number * 10 + byteAt(at) - '0');
            }
            return number;
        }

        private void advance() {
            int at = behind;
            while (at < length && kindAt(at) == BLANK) {
                at++;
            }
            start = at;
            kind = kindAt(at);
            if (kind == LETTERS || kind == DIGITS) {
                while (at < length && kindAt(at) == kind) {
                    at++;
                }
            } else if (at < length) {
                at++;
            }
            behind = at;
        }

        private int kindAt(int at) {
            if (at >= length) {
                return TEXT_END;
            }
            int b = byteAt(at);
            if (b == 10 || b == 32) {
                return BLANK;
            }
            if (b >= 'a' && b <= 'z' || b >= 'A' && b <= 'Z') {
                return LETTERS;
            }
            return b >= '0' && b <= '9' ? DIGITS : b;
        }

        private int byteAt(int at) {
            return at >= 0 && at < length && at < text.length ? text[at] & 255 : 0;
        }
    }

    /** The lines that win, by key. Agreements are taken in the order in which they overrule. */
    private static final class Rules {
        private final Line[] winners = new Line[KEYS];
        private final int[] winnerAgreements = new int[KEYS];
        private final int[] lineCounts = new int[KEYS];

        void clear() {
            for (int key = 0; key < winners.length; key++) {
                winners[key] = null;
            }
            Arrays.fill(lineCounts, 0);
        }

        void take(Agreement agreement) {
            for (int i = 0; i < agreement.lines.size(); i++) {
                Line line = agreement.lines.get(i);
                int key = line.key();
                if (key >= 0 && key < KEYS) {
                    winners[key] = line;
                    winnerAgreements[key] = agreement.number;
                    lineCounts[key]++;
                }
            }
        }

        Line winnerOf(int key) {
            return key >= 0 && key < winners.length ? winners[key] : null;
        }

        int agreementOf(int key) {
            return key >= 0 && key < winnerAgreements.length ? winnerAgreements[key] : NONE;
        }

        int linesOf(int key) {
            return key >= 0 && key < lineCounts.length ? lineCounts[key] : 0;
        }

        /** Null where there is none, or an end wins. */
        Line lineOf(int sort, int name) {
            if (name < 0 || name >= NAMES) {
                return null;
            }
            int key = sort * NAMES + name;
            Line line = key >= 0 && key < winners.length ? winners[key] : null;
            return line == null || line.ends ? null : line;
        }

        int numberOf(int sort, int otherwise) {
            Line line = lineOf(sort, 0);
            return line == null ? otherwise : line.number;
        }

        int pointsBy(int[] facts) {
            int sum = 0;
            for (int name = 0; name < NAMES; name++) {
                Line test = lineOf(TEST, name);
                if (test != null && test.holds(facts)) {
                    sum += test.number;
                }
            }
            return sum;
        }

        int gradeBy(int points) {
            int best = NONE;
            int bestFrom = NONE;
            for (int name = 0; name < NAMES; name++) {
                Line grade = lineOf(GRADE, name);
                if (grade != null && grade.number <= points && grade.number > bestFrom) {
                    best = name;
                    bestFrom = grade.number;
                }
            }
            return best;
        }

        int amountBy(int base, int[] facts) {
            int sum = 100 * base;
            for (int name = 0; name < NAMES; name++) {
                Line plus = lineOf(PLUS, name);
                if (plus != null && plus.holds(facts)) {
                    sum += plus.number * (plus.percent ? base : 100);
                }
            }
            return sum;
        }
    }

    /** What a post is worth on a day, held or not. */
    private static final class Appraisal {
        private static final int STEP_DAYS = 360;

        private Line scale;
        private int stepDays;
        int points;
        int grade;
        int step;
        int base;
        int amount;

        void renew(Rules rules, int[] facts, int service) {
            points = rules.pointsBy(facts);
            grade = rules.gradeBy(points);
            scale = rules.lineOf(SCALE, grade);
            stepDays = rules.numberOf(STEP, STEP_DAYS);
            moveStep(rules, facts, stepAfter(service));
        }

        void follow(Rules rules, int[] facts, int service) {
            int now = stepAfter(service);
            if (now != step) {
                moveStep(rules, facts, now);
            }
        }

        /** How many days of service more leave the step as it is, and one. */
        int daysToNextStep(int service) {
            boolean moves = scale != null && stepDays > 0 && step < scale.scaleLength - 1;
            return moves ? stepDays - service % stepDays : DAYS;
        }

        private int stepAfter(int service) {
            if (scale == null || stepDays <= 0) {
                return NONE;
            }
            return Math.min(service / stepDays, scale.scaleLength - 1);
        }

        private void moveStep(Rules rules, int[] facts, int to) {
            step = to;
            base = scale == null ? 0 : scale.scaleNumber(to);
            amount = rules.amountBy(base, facts);
        }
    }

    /**
     * Goes through the days of one post, as known on one day. Days on which nothing comes into force
     * and no step is reached are passed together.
     */
    private static final class Walk {
        private final ArrayList<Agreement> agreements;
        private final ArrayList<Note> notes;
        private final int[] persons;
        private final Rules rules;
        final Appraisal appraisal = new Appraisal();
        private final int[] values = new int[TOLD_THINGS];
        /** Of every post, since service is the person's. */
        private final int[] heldPosts = new int[MOST_POSTS];
        private int post;
        private int known;
        private int day;
        private int agreementsPassed;
        private int notesPassed;
        private boolean changed;
        private boolean protectBegins;
        private int service;
        private int daysWithout;
        private int floor;
        private int given;

        Walk(ArrayList<Agreement> agreements, ArrayList<Note> notes, int[] persons, Rules rules) {
            this.agreements = agreements;
            this.notes = notes;
            this.persons = persons;
            this.rules = rules;
        }

        void begin(int ofPost, int asKnown) {
            post = ofPost;
            known = asKnown;
            day = 0;
            agreementsPassed = 0;
            notesPassed = 0;
            service = 0;
            daysWithout = 0;
            floor = 0;
            given = 0;
            rules.clear();
            Arrays.fill(values, 0);
            values[PART] = WHOLE_PART;
            Arrays.fill(heldPosts, 0);
            changed = true;
            openDay();
        }

        void goTo(int target) {
            for (int i = 0; i < DAYS && day < target; i++) {
                passDays(daysAlike(target - day));
                openDay();
            }
        }

        long payOfDays(int days) {
            long sum = 0;
            int end = day + days;
            for (int i = 0; i < DAYS && day < end; i++) {
                int alike = daysAlike(end - day);
                sum += alike * payOfDay();
                passDays(alike);
                openDay();
            }
            return sum;
        }

        long payOfDay() {
            int p = values[PART] / 10;
            int q = values[PART] % 10;
            return q > 0 ? (long) DAY_UNITS * given * p / q : 0;
        }

        boolean isHeld() {
            return values[HELD] == 1;
        }

        int tell(int what) {
            if (what >= 0 && what < values.length) {
                return values[what];
            }
            switch (what) {
                case 9: return appraisal.points;
                case 10: return appraisal.grade;
                case 11: return service;
                case 12: return appraisal.step;
                case 13: return appraisal.base;
                case 14: return appraisal.amount;
                default: return given;
            }
        }

        /** How many days from this one on, at most so many, have the same pay for certain. */
        private int daysAlike(int most) {
            int alike = most;
            if (agreementsPassed < agreements.size()) {
                alike = Math.min(alike, agreements.get(agreementsPassed).from - day);
            }
            if (notesPassed < notes.size()) {
                alike = Math.min(alike, notes.get(notesPassed).from - day);
            }
            return Math.max(1, Math.min(alike, appraisal.daysToNextStep(service)));
        }

        /** Service and days without a post grow behind days that are alike in all else. */
        private void passDays(int days) {
            day += days;
            if (isServing()) {
                service += days;
                daysWithout = 0;
                return;
            }
            daysWithout += days;
            if (daysWithout > rules.numberOf(GAP, 0)) {
                service = 0;
            }
        }

        private boolean isServing() {
            if (post < 0 || post >= persons.length) {
                return false;
            }
            int person = persons[post];
            for (int i = 0; i < heldPosts.length && i < persons.length; i++) {
                if (heldPosts[i] == 1 && persons[i] == person) {
                    return true;
                }
            }
            return false;
        }

        private void openDay() {
            takeAgreements();
            takeNotes();
            if (changed) {
                appraisal.renew(rules, values, service);
            } else {
                appraisal.follow(rules, values, service);
            }
            changed = false;
            give();
        }

        private void takeAgreements() {
            for (int i = agreementsPassed; i < agreements.size(); i++) {
                Agreement agreement = agreements.get(i);
                if (agreement.from > day) {
                    return;
                }
                if (agreement.told <= known) {
                    rules.take(agreement);
                    changed = true;
                }
                agreementsPassed++;
            }
        }

        private void takeNotes() {
            protectBegins = false;
            for (int i = notesPassed; i < notes.size(); i++) {
                Note note = notes.get(i);
                if (note.from > day) {
                    return;
                }
                if (note.told <= known) {
                    takeNote(note);
                }
                notesPassed++;
            }
        }

        private void takeNote(Note note) {
            if (note.what == HELD && note.post >= 0 && note.post < heldPosts.length) {
                heldPosts[note.post] = note.value;
            }
            if (note.post != post || note.what < 0 || note.what >= values.length) {
                return;
            }
            values[note.what] = note.value;
            if (note.what < FACTS) {
                changed = true;
            }
            if (note.what == PROTECT) {
                protectBegins = true;
            }
        }

        private void give() {
            if (protectBegins) {
                // given is still that of the day ahead, and 0 if the post was not held then
                floor = values[PROTECT] == 1 ? given : 0;
            }
            if (!isHeld()) {
                given = 0;
            } else if (appraisal.amount >= floor) {
                floor = 0;
                given = appraisal.amount;
            } else {
                given = floor;
            }
        }
    }
}
