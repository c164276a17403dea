/** What the tests of answers share: the numbers of types, the refusals, and the count of wrong answers. */
abstract class DeskCase {
    static final int BAD = Desk.ILLEGAL_ARGUMENT;
    static final int STATE = Desk.ILLEGAL_STATE;
    static final int NONE = ChainDesk.NONE;
    static final int LOWEST = Integer.MIN_VALUE;
    static final int HIGHEST = Integer.MAX_VALUE;

    static final int INT = 0;
    static final int LONG = 1;
    static final int BOOL = 2;
    static final int A = 3;
    static final int B = 4;
    static final int C = 5;
    static final int D = 6;
    static final int E = 7;
    static final int F = 8;
    static final int G = 9;
    static final int J = 12;

    static final Verdict VERDICT = new Verdict();

    static void due(String call, Object got, Object want) {
        VERDICT.due(call, got, want);
    }

    /** The opening so often, then the core, then as many closing parentheses. */
    static String nested(String opening, String core, int times) {
        return opening.repeat(times) + core + ")".repeat(times);
    }
}
