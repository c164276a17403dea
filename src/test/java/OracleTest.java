import java.util.List;
import java.util.Random;

/** Runs of calls, always the same ones, each answer compared with that of the oracle. */
public final class OracleTest {
    private static final int RUNS = 1500;
    private static final String[] NAMES = {"a", "b", "c", "x", "ab", "aa", "n", "y", "z", "nn", "abcd", "zzzz", "new",
        "int"};
    private static final String[] SMALL = {"int", "long", "bool"};
    private static final String[] PIECES = {"private ", "static ", "new(", "new ", "A", "B", "J", "K", "a", "abcd", "abcde",
        "int", "long", "bool", ".", ",", ":", ";", "(", ")", "()", "{", "}", "A{", "x:int;", "m():A;", "a.", "A.", " ", "~"};
    private static final String MARKS = " .,:;(){}abxzABJKnew";

    private final Verdict verdict;
    private final Random random;
    private final int classes;
    private final Desk x = new Desk();
    private final Oracle oracle = new Oracle();
    private final StringBuilder log = new StringBuilder();
    private static int deepOnes;
    private static int goodChecks;
    private static int fullCompletions;

    private OracleTest(Verdict verdict, long seed) {
        this.verdict = verdict;
        random = new Random(seed);
        classes = 2 + random.nextInt(random.nextBoolean() ? 3 : 9);
    }

    public static void main(String[] args) {
        Verdict verdict = new Verdict();
        for (int run = 0; run < RUNS; run++) {
            new OracleTest(verdict, run).run();
        }
        System.out.println(goodChecks + " good checks, " + deepOnes + " deep ones refused, " + fullCompletions
                + " completions of ten");
        // Runs that met with nothing of interest would prove nothing.
        verdict.due("good checks", goodChecks > RUNS, true);
        verdict.due("deep checks", deepOnes > 20, true);
        verdict.due("full completions", fullCompletions > RUNS / 3, true);
        verdict.end();
    }

    private void run() {
        for (int i = 0; i < classes * 3; i++) {
            declare();
        }
        for (int i = 0; i < 3; i++) {
            variable();
        }
        for (int step = 0; step < 40; step++) {
            switch (random.nextInt(10)) {
                case 0:
                    declare();
                    break;
                case 1:
                case 2:
                    variable();
                    break;
                case 3:
                    enter();
                    break;
                case 4:
                case 5:
                    check();
                    break;
                case 6:
                    look();
                    break;
                case 7:
                    useAnything();
                    break;
                default:
                    complete();
            }
        }
    }

    private void due(String call, Object got, Object want) {
        log.append(call).append(" ");
        if (!got.equals(want)) {
            verdict.due(log.toString(), got, want);
        } else {
            verdict.due(call, got, want);
        }
    }

    private void declare() {
        String text = spoiled(declaration());
        if (text.length() <= 120) {
            due(text, x.declare(text), oracle.declare(text));
        }
    }

    private void variable() {
        if (random.nextInt(8) == 0) {
            x.desk.forget();
            oracle.forget();
            log.append("forget ");
        }
        String text = spoiled(name() + ":" + type());
        due(text, x.variable(text), oracle.variable(text));
    }

    private void enter() {
        int c = random.nextInt(14) - 2;
        due("enter " + c, x.enter(c), oracle.enter(c));
    }

    private void check() {
        String text = spoiled(oracle.someExpression(random));
        int want = oracle.check(text);
        due("check " + text, x.check(text), want);
        due("checkedCost", x.desk.checkedCost(), oracle.checkedCost);
        if (want >= 0) {
            goodChecks++;
        } else if (text.matches("(.*\\(){7}.*")) {
            deepOnes++;
        }
    }

    /** Pieces of texts in any order, now and then up to the end of the buffer. */
    private void useAnything() {
        StringBuilder pieces = new StringBuilder();
        int length = random.nextInt(4) == 0 ? 120 : random.nextInt(30);
        while (pieces.length() < length) {
            pieces.append(PIECES[random.nextInt(PIECES.length)]);
        }
        String text = pieces.substring(0, length);
        due("declare " + text, x.declare(text), oracle.declare(text));
        due("variable " + text, x.variable(text), oracle.variable(text));
        due("check " + text, x.check(text), oracle.check(text));
    }

    private void look() {
        for (int c = -1; c < 11; c++) {
            due("members " + c, x.desk.members(c), oracle.members(c));
            for (int what = -1; what < 3; what++) {
                due("seen " + c + " " + what, x.desk.seen(c, what), oracle.seen(c, what));
            }
        }
        for (int a = -1; a < 14; a++) {
            int b = random.nextInt(13);
            due("fits " + a + " " + b, x.desk.fits(a, b), oracle.fits(a, b));
        }
    }

    private void complete() {
        int type = random.nextInt(20) == 0 ? 13 : random.nextInt(4) == 0 ? random.nextInt(13) : random.nextInt(3 + classes);
        int most = random.nextInt(20) == 0 ? 4 : random.nextInt(6) == 0 ? random.nextInt(4) : 3;
        List<String> before = x.proposals();
        List<String> want = oracle.complete(type, most);
        int count = x.complete(type, most);
        due("complete " + type + " " + most, count, want == null ? Desk.ILLEGAL_ARGUMENT : want.size());
        due("proposals", x.proposals(), want == null ? before : want);
        if (want != null && want.size() == 10) {
            fullCompletions++;
        }
    }

    private String name() {
        return NAMES[random.nextInt(random.nextInt(12) == 0 ? NAMES.length : 12)];
    }

    private String someClass() {
        return String.valueOf((char) ('A' + random.nextInt(classes)));
    }

    private String type() {
        return random.nextInt(4) == 0 ? SMALL[random.nextInt(3)] : someClass();
    }

    private String types() {
        String[] forms = {"", "", type(), type(), type() + "," + type()};
        return forms[random.nextInt(forms.length)];
    }

    private String declaration() {
        StringBuilder text = new StringBuilder(someClass());
        String parent = someClass();
        boolean known = oracle.members(parent.charAt(0) - 'A') >= 0;
        if (random.nextInt(known ? 2 : 12) == 0) {
            text.append(':').append(parent);
        }
        text.append('{');
        int count = random.nextInt(30) == 0 ? 7 : random.nextInt(7);
        for (int i = 0; i < count; i++) {
            text.append(i == 0 ? "" : ";").append(member());
        }
        return text.append('}').toString();
    }

    private String member() {
        String start = random.nextInt(5) == 0 ? "private " : "";
        int form = random.nextInt(9);
        if (form == 0) {
            return start + "new(" + types() + ")";
        }
        start += random.nextInt(4) == 0 ? "static " : "";
        return form < 4 ? start + name() + ":" + type() : start + name() + "(" + types() + "):" + type();
    }

    /** Now and then one character is gone, is another one, or is too many. */
    private String spoiled(String text) {
        if (text.isEmpty() || random.nextInt(6) != 0) {
            return text;
        }
        int at = random.nextInt(text.length());
        String mark = String.valueOf(MARKS.charAt(random.nextInt(MARKS.length())));
        switch (random.nextInt(3)) {
            case 0:
                return text.substring(0, at) + text.substring(at + 1);
            case 1:
                return text.substring(0, at) + mark + text.substring(at + 1);
            default:
                return text.length() == 120 ? text : text.substring(0, at) + mark + text.substring(at);
        }
    }
}
