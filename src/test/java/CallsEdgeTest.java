import java.util.List;
import java.util.function.Consumer;

/** "An object is used for at most 512 calls": the last ones answer like the first, whatever came before. */
public final class CallsEdgeTest extends DeskCase {
    private static final int CALLS = 512;

    public static void main(String[] args) {
        everyKindOfCall();
        allInTheBuffer();
        manyDeclarationsRefused();
        manyVariables();
        VERDICT.end();
    }

    /** Seven calls come before, five behind: between them one call as often as is left. */
    private static void everyKindOfCall() {
        List<Consumer<Desk>> calls = List.of(x -> x.desk.put(31, 1), x -> x.desk.put(0x61, 9), Desk::declare, Desk::variable,
                x -> x.enter(10), x -> x.enter(NONE), x -> x.complete(INT, 3), x -> x.complete(13, 3), Desk::check,
                x -> x.desk.checkedCost(), x -> x.desk.fits(3, 3), x -> x.desk.proposal(0, 0), x -> x.desk.letter(0, 0),
                x -> x.desk.members(0), x -> x.desk.seen(0, 0));
        for (int i = 0; i < calls.size(); i++) {
            Desk x = new Desk();
            x.declare("A{x:int;b:A}");
            x.variable("a:A");
            x.complete(INT, 3);
            for (int n = 0; n < CALLS - 7 - 5; n++) {
                calls.get(i).accept(x);
            }
            String call = "after call " + i + ": ";
            due(call + "complete", x.complete(INT, 3), 3);
            due(call + "the first", x.desk.proposal(0, 0), 3);
            due(call + "the last", x.desk.proposal(2, 0), 7);
            due(call + "seen", x.desk.seen(0, 0), 2);
            due(call + "call 512", x.desk.members(0), 2);
        }
    }

    private static void allInTheBuffer() {
        Desk x = new Desk();
        for (int n = 0; n < CALLS - 4; n++) {
            due("put " + n, x.desk.put(0x61616161, 1), n < 120);
        }
        due("check", x.check(), BAD);
        due("put", x.desk.put('a' << 16 | ':' << 8 | 'A', 3), true);
        due("variable", x.variable(), 1);
        due("call 512", x.complete(A, 3), 1);
    }

    private static void manyDeclarationsRefused() {
        Desk x = new Desk();
        // Two puts and a declare each: 169 times, then once more, make 510 calls.
        for (int n = 0; n < 169; n++) {
            due("declare", x.declare("A{x:in}"), BAD);
        }
        due("declare", x.declare("A{x:int}"), 1);
        due("call 511", x.desk.seen(0, 0), 1);
        due("call 512", x.desk.members(0), 1);
    }

    private static void manyVariables() {
        Desk x = new Desk();
        int calls = 0;
        int count = 0;
        while (calls + 3 <= CALLS) {
            if (count == 5) {
                x.desk.forget();
                calls++;
                count = 0;
            } else {
                due("variable", x.variable((char) ('a' + count) + ":A"), count + 1);
                calls += 2;
                count++;
            }
        }
        due("call 512 at the latest", x.complete(A, 0), count);
    }
}
