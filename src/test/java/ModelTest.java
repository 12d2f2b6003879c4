import java.util.Random;

/** Random runs of all calls, the program's answers against the model's; and random texts. */
public final class ModelTest {
    private static final int[] ODD = {Integer.MIN_VALUE, -10000, -1, 8, 9, 12, 40, 41, 1200, 10000, Integer.MAX_VALUE};
    private static final String[] BITS = {"test", "grade", "scale", "step", "gap", "plus", "end", "from", "a", "b", "A",
        "F", "G", "<", ">", "=", ":", ",", ";", "%", "0", "7", "999", "1000", "9999", "10000", "00012", "Test", "ab", "#", "\t",
        "\u00e4", "\u0000", "\u0001", "99999999999999999999"};

    /** An office answers 512 calls; behind these there is room for one more text of 100 feeds. */
    private static final int BUSY_CALLS = 400;

    private final Check check;
    private final Random random;
    private final String run;
    private final PayScales office = new PayScales();
    private final Model model = new Model();
    /** Up to which day most things happen: few days make things meet. */
    private final int busyDays;
    private int calls;

    private ModelTest(Check check, long seed) {
        this.check = check;
        random = new Random(seed);
        run = "run " + seed + ", ";
        busyDays = random.nextInt(4) == 0 ? 1200 : 20 + random.nextInt(150);
    }

    public static void main(String[] args) {
        Check check = new Check("ModelTest");
        int runs = args.length > 0 ? Integer.parseInt(args[0]) : 500;
        for (int seed = 1; seed <= runs && !check.failed(); seed++) {
            new ModelTest(check, seed).randomRun();
            new ModelTest(check, seed).randomTexts();
        }
        check.end();
    }

    private void randomRun() {
        tellFirst();
        while (calls < BUSY_CALLS && !check.failed()) {
            randomCall();
        }
    }

    private void tellFirst() {
        agree(text());
        for (int i = below(9); i >= 0; i--) {
            int person = below(3);
            due("post(" + person + ")", office.post(person), model.post(person));
        }
        for (int i = below(40); i >= 0; i--) {
            note();
        }
    }

    private void randomCall() {
        int kind = below(100);
        if (kind < 3) {
            agree(text());
        } else if (kind < 20) {
            note();
        } else if (kind < 30) {
            int days = oneIn(20) ? odd() : below(oneIn(9) ? 200 : 25);
            due("pass(" + days + ")", office.pass(days), model.pass(days));
        } else if (kind < 60) {
            look();
        } else if (kind < 66) {
            int post = post();
            int day = day();
            int known = known();
            due("pay(" + post + ", " + day + ", " + known + ")", office.pay(post, day, known), model.pay(post, day, known));
        } else if (kind < 72) {
            int post = post();
            int month = month();
            int known = known();
            due("due(" + post + ", " + month + ", " + known + ")", office.due(post, month, known),
                model.due(post, month, known));
        } else if (kind < 76) {
            runOffice();
        } else if (kind < 80) {
            int post = post();
            int month = month();
            due("paid(" + post + ", " + month + ")", office.paid(post, month), model.paid(post, month));
        } else if (kind < 82) {
            int a = month();
            int b = oneIn(6) ? month() : Math.max(a, a + below(3));
            int known = known();
            due("cost(" + a + ", " + b + ", " + known + ")", office.cost(a, b, known), model.cost(a, b, known));
        } else if (kind < 88) {
            like();
        } else if (kind < 96) {
            meet();
        } else {
            rest();
        }
    }

    private void rest() {
        int what = oneIn(10) ? odd() : below(8);
        due("count(" + what + ")", office.count(what), model.count(what));
        due("fault(" + what + ")", office.fault(what), model.fault(what));
        int person = oneIn(5) ? odd() : below(4);
        due("post(" + person + ")", office.post(person), model.post(person));
    }

    private void note() {
        int post = post();
        int what = oneIn(30) ? odd() : oneIn(3) ? 6 : oneIn(3) ? 8 : below(9);
        int from = day();
        int v = oneIn(30) ? odd() : what < 6 ? below(9) - 2 : what == 7 ? below(90) : below(2);
        due("note(" + post + ", " + what + ", " + from + ", " + v + ")", office.note(post, what, from, v),
            model.note(post, what, from, v));
    }

    private void look() {
        int post = post();
        int day = day();
        int known = known();
        int first = oneIn(3) ? 9 : below(16);
        int last = oneIn(20) ? first : 15;
        for (int what = first; what <= last; what++) {
            due("look(" + post + ", " + day + ", " + known + ", " + what + ")", office.look(post, day, known, what),
                model.look(post, day, known, what));
        }
        int what = odd();
        due("look(" + post + ", " + day + ", " + known + ", " + what + ")", office.look(post, day, known, what),
            model.look(post, day, known, what));
    }

    private void runOffice() {
        due("run()", office.run(), model.run());
        for (int i = 0; i < 4; i++) {
            int k = oneIn(10) ? odd() : below(Math.max(1, model.count(5) + 1));
            int what = oneIn(10) ? odd() : below(4);
            due("payment(" + k + ", " + what + ")", office.payment(k, what), model.payment(k, what));
        }
    }

    private void like() {
        int day = day();
        int known = known();
        int span = oneIn(10) ? odd() : oneIn(4) ? 99999 + below(2) : below(20);
        int pairs = office.like(day, known, span);
        due("like(" + day + ", " + known + ", " + span + ")", pairs, model.like(day, known, span));
        int k = oneIn(10) ? odd() : below(Math.max(1, pairs + 1));
        for (int what = -1; what <= 4; what++) {
            due("pair(" + k + ", " + what + ")", office.pair(k, what), model.pair(k, what));
        }
    }

    private void meet() {
        int day = day();
        int known = known();
        int keys = office.meet(day, known);
        due("meet(" + day + ", " + known + ")", keys, model.meet(day, known));
        int k = oneIn(10) ? odd() : below(Math.max(1, keys + 1));
        for (int what = -1; what <= 4; what++) {
            due("met(" + k + ", " + what + ")", office.met(k, what), model.met(k, what));
        }
    }

    private void randomTexts() {
        while (calls < BUSY_CALLS && model.count(1) < 12 && !check.failed()) {
            StringBuilder text = new StringBuilder(oneIn(3) ? "" : text());
            for (int i = below(4); i > 0; i--) {
                int at = below(text.length() + 1);
                int kind = below(3);
                if (kind == 0) {
                    text.insert(at, BITS[below(BITS.length)]);
                } else if (kind == 1 && at < text.length()) {
                    text.deleteCharAt(at);
                } else if (at < text.length()) {
                    text.setCharAt(at, oneIn(9) ? (char) below(256) : BITS[below(BITS.length)].charAt(0));
                }
            }
            agree(text.toString());
            due("count(4)", office.count(4), model.count(4));
        }
    }

    private void agree(String text) {
        String whole = text.length() > 2000 ? text.substring(0, 2000) : text;
        for (int at = 0; at < whole.length(); at += 20) {
            int[] words = new int[5];
            for (int i = 0; i < 20; i++) {
                words[i / 4] = words[i / 4] << 8 | (at + i < whole.length() ? whole.charAt(at + i) : ' ');
            }
            due("feed(..)", office.feed(words[0], words[1], words[2], words[3], words[4]), model.feed(words));
        }
        int n = oneIn(20) ? below(whole.length() + 1) : oneIn(40) ? odd() : whole.length();
        int from = day();
        String call = "agree(" + n + ", " + from + ") of " + whole;
        due(call, office.agree(n, from), model.agree(n, from));
        due("fault(0) of " + call, office.fault(0), model.fault(0));
        due("fault(1) of " + call, office.fault(1), model.fault(1));
    }

    private String text() {
        StringBuilder text = new StringBuilder();
        int lines = oneIn(12) ? 41 : 1 + below(14);
        boolean twice = oneIn(15);
        java.util.Set<String> keys = new java.util.HashSet<>();
        for (int i = 0; i < lines; i++) {
            String line = line(lines == 41 ? 26 : 5);
            String[] words = line.trim().split("[^A-Za-z]+");
            int sort = words[0].equals("end") ? 1 : 0;
            boolean named = !words[0].equals("step") && !words[0].equals("gap");
            if (keys.add(words[sort] + (named ? words[sort + 1] : "")) || twice) {
                text.append(line).append(oneIn(3) ? " ;\n" : ";");
            }
        }
        return text.toString();
    }

    private String line(int names) {
        String name = " " + (char) ('a' + below(names)) + " ";
        switch (below(12)) {
            case 0: case 1: case 2:
                return "test" + name + condition() + "=" + below(12);
            case 3: case 4:
                return "grade" + name + "from " + (oneIn(3) ? 0 : below(30));
            case 5: case 6: {
                StringBuilder scale = new StringBuilder("scale" + name + ":" + below(60));
                for (int i = below(8); i > 0; i--) {
                    scale.append(oneIn(2) ? "," : " , ").append(oneIn(9) ? 9999 : below(60));
                }
                return scale.toString();
            }
            case 7:
                return oneIn(2) ? "step" + (1 + below(40)) : "gap " + below(12);
            case 8:
                return "end " + new String[] {"test", "grade", "scale", "plus"}[below(4)] + name;
            default:
                return "plus" + name + (oneIn(2) ? "" : condition()) + "=" + (oneIn(2) ? below(1000) + "%" : below(50));
        }
    }

    private String condition() {
        return "" + (char) ('A' + below(6)) + "<>=".charAt(below(3)) + below(5);
    }

    private int post() {
        return oneIn(40) ? odd() : below(Math.max(1, model.count(2)));
    }

    private int day() {
        return oneIn(40) ? odd() : oneIn(10) ? below(1200) : below(busyDays);
    }

    private int month() {
        return oneIn(30) ? odd() : oneIn(5) ? below(40) : below(busyDays / 30 + 1);
    }

    private int known() {
        int today = model.count(0);
        return oneIn(40) ? odd() : oneIn(3) ? below(today + 1) : oneIn(30) ? today + 1 : today;
    }

    private int odd() {
        return ODD[below(ODD.length)];
    }

    private boolean oneIn(int n) {
        return below(n) == 0;
    }

    private int below(int n) {
        return random.nextInt(n);
    }

    private void due(String call, long got, long want) {
        calls++;
        check.due(run + "call " + calls + ", " + call, got, want);
    }
}
