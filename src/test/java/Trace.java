/** All that can be asked of a desk, in one text: what a refused call has changed shows in it. */
final class Trace {
    private static final String[] TEXTS = {
        "a", "b", "i", "q", "r", "s", "a.x", "a.p", "a.m(i)", "b.y", "b.x", "b.p", "A.s()", "A.t", "B.t", "new A()",
        "new B(a)", "new C()", "a.n(b,i)", "b.m(a.x).y", "C.k",
    };

    private Trace() {
    }

    /** A desk with something of everything: classes, variables, a place, a checked cost, proposals. */
    static Desk furnished() {
        Desk x = new Desk();
        x.declare("A{x:int;private p:bool;m(int):B;static s():A;private static t:long;private new()}");
        x.declare("B:A{y:long;new(A);static t:B;private p:int}");
        x.variable("a:A");
        x.variable("b:B");
        x.variable("i:int");
        x.enter(0);
        x.check("b.m(a.x).y");
        x.complete(1, 2);
        return x;
    }

    static Desk furnishedWithFive() {
        Desk x = furnished();
        x.variable("j:long");
        x.variable("k:C");
        return x;
    }

    /** The desk is of no use afterwards; the rest is put behind what the buffer holds, then used. */
    static String of(Desk x, String rest) {
        StringBuilder text = new StringBuilder();
        text.append(x.put(rest)).append(x.variable()).append('\n');
        text.append(x.proposals()).append(x.desk.checkedCost()).append('\n');
        addAnswers(text, x);
        addChecks(text, x);
        for (int type = 0; type < 13; type++) {
            text.append(x.proposals(type, 3)).append('\n');
        }
        for (String variable : new String[] {"r:A", "s:J", "t:int"}) {
            text.append(x.variable(variable)).append(' ');
        }
        text.append(x.declare("C:B{z:int}")).append(x.declare("A{}")).append(x.desk.members(0));
        return text.toString();
    }

    private static void addAnswers(StringBuilder text, Desk x) {
        for (int c = 0; c < 10; c++) {
            text.append(x.desk.members(c)).append(' ').append(x.desk.seen(c, 0)).append(x.desk.seen(c, 1)).append(' ');
        }
        for (int type = 3; type < 13; type++) {
            for (int other = 3; other < 13; other++) {
                text.append(x.desk.fits(type, other) ? '+' : '-');
            }
        }
        text.append('\n');
    }

    private static void addChecks(StringBuilder text, Desk x) {
        for (String expression : TEXTS) {
            text.append(expression).append(' ').append(x.check(expression)).append(' ').append(x.desk.checkedCost())
                    .append('\n');
        }
    }
}
