import java.util.List;
import java.util.function.Supplier;
import java.util.function.ToIntFunction;

/** The promises' refusals, a sentence each: the last that is taken, the first that is refused, what it leaves. */
public final class PromiseEdgeTest extends DeskCase {
    public static void main(String[] args) {
        newObjectHasNothing();
        newObjectHasAnEmptyBuffer();
        newObjectIsAtNoPlace();
        putTakesOneToFour();
        putTakesTheLowestBytes();
        putRefusedChangesNothing();
        declareEmptiesTheBuffer();
        declareRefusedChangesNothing();
        declareAsksForTheTextFirst();
        declareOfADeclaredClass();
        variableEmptiesTheBuffer();
        variableRefusedChangesNothing();
        variableAsksForFiveFirst();
        forgetMakesRoomForFive();
        forgetOfNothing();
        enterTakesTenClassesAndNone();
        enterRefusedChangesNothing();
        completeTakesThirteenTypes();
        completeTakesCostsUpToThree();
        completeRefusedChangesNothing();
        completeInPlaceOfTheProposals();
        checkEmptiesTheBuffer();
        checkRefusedChangesNothing();
        checkGoesSixDeep();
        checkGoesSixDeepEverywhere();
        checkOfAnyLengthAndCost();
        checkWithScopeAndPlaceAsTheyAre();
        checkedCostOfTheLatestThatThrewNothing();
        fitsOfOtherNumbers();
        proposalOfOtherNumbers();
        letterOfOtherNumbers();
        letterOfAShorterText();
        membersOfOtherNumbers();
        seenOfOtherNumbers();
        seenUpToSixty();
        VERDICT.end();
    }

    /** The call answers as wanted and leaves a desk that answers like one that was never asked. */
    private static void dueUnchanged(String call, Supplier<Desk> made, ToIntFunction<Desk> refused, int want) {
        Desk tried = made.get();
        tried.put("q:bo");
        due(call, refused.applyAsInt(tried), want);
        Desk spared = made.get();
        spared.put("q:bo");
        due("what follows " + call, Trace.of(tried, "ol"), Trace.of(spared, "ol"));
    }

    /** Likewise, of a call that empties the buffer. */
    private static void dueEmptied(String call, Supplier<Desk> made, ToIntFunction<Desk> refused, int want) {
        Desk tried = made.get();
        due(call, refused.applyAsInt(tried), want);
        due("what follows " + call, Trace.of(tried, "q:bool"), Trace.of(made.get(), "q:bool"));
    }

    private static void dueEmptyBuffer(String after, Desk x) {
        due("room for 120 after " + after, x.put(" ".repeat(120)), true);
        due("and no more after " + after, x.desk.put(' ', 1), false);
        due("120 spaces after " + after, x.check(), BAD);
    }

    // Promise 1: "No declarations, no variables, no proposals"
    private static void newObjectHasNothing() {
        Desk x = new Desk();
        for (int c = 0; c < 10; c++) {
            due("members " + c, x.desk.members(c), NONE);
            due("seen " + c, x.desk.seen(c, 0), 0);
            due("seen " + c, x.desk.seen(c, 1), 0);
        }
        for (int i = 0; i < 10; i++) {
            for (int what = 0; what < 3; what++) {
                due("proposal " + i, x.desk.proposal(i, what), NONE);
            }
            due("letter " + i, x.desk.letter(i, 0), 0);
        }
        due("checkedCost", x.desk.checkedCost(), 0);
        for (int type = 0; type < 13; type++) {
            for (int other = 0; other < 13; other++) {
                due("fits", x.desk.fits(type, other), type == other || type == INT && other == LONG);
            }
            due("complete", x.complete(type, 3), 0);
        }
        due("the first variable", x.variable("a:int"), 1);
    }

    // Promise 1: "an empty buffer"
    private static void newObjectHasAnEmptyBuffer() {
        due("declare", new Desk().declare(), BAD);
        due("variable", new Desk().variable(), BAD);
        due("check", new Desk().check(), BAD);
        dueEmptyBuffer("a new object", new Desk());
    }

    // Promise 1: "The place is none."
    private static void newObjectIsAtNoPlace() {
        for (char c = 'A'; c <= 'J'; c++) {
            Desk x = new Desk();
            x.declare(c + "{private x:int;private m():int;private static s:int;private new()}");
            due("fields of " + c, x.desk.seen(c - 'A', 0), 0);
            due("methods of " + c, x.desk.seen(c - 'A', 1), 0);
            due("static of " + c, x.check(c + ".s"), BAD);
            due("completed", x.complete(INT, 3), 0);
        }
    }

    // Promise 2: "(n is 1 .. 4)"
    private static void putTakesOneToFour() {
        int[] ns = {LOWEST, -4, -1, 0, 1, 2, 3, 4, 5, 8, 32, 33, HIGHEST};
        for (int n : ns) {
            due("put n " + n, new Desk().desk.put(0x61616161, n), n >= 1 && n <= 4);
        }
        String name = "abcd";
        for (int n = 1; n <= 4; n++) {
            Desk x = new Desk();
            x.variable(name.substring(4 - n) + ":int");
            due("put " + n, x.desk.put(Desk.word(name), n), true);
            due("it put so many, the highest first", x.check(), INT);
        }
    }

    // Promise 2: "the n lowest bytes of word"
    private static void putTakesTheLowestBytes() {
        int[] above = {0, 0x01000000, 0x7f000000, 0x80000000, 0xff000000};
        for (int high : above) {
            Desk x = new Desk();
            x.variable("abc:int");
            due("put 3 below " + high, x.desk.put(high | Desk.word("abc"), 3), true);
            due("those three", x.check(), INT);
            due("put 4 with " + high, x.desk.put(high | Desk.word("abc"), 4), false);
            due("put 1 below all", x.desk.put(high | 0x00ff1f00 | 'c', 1), true);
            due("put 2 with one too low", x.desk.put(high | 0x00ff1f00 | 'c', 2), false);
        }
        due("a sign in the highest byte", new Desk().desk.put(0x80616161, 4), false);
        due("a sign in every byte", new Desk().desk.put(-1, 1), false);
    }

    // Promise 2: "False, changing nothing"
    private static void putRefusedChangesNothing() {
        int[][] refused = {{0x61616161, 0}, {0x61616161, 5}, {0x61616161, -1}, {31, 1}, {127, 1}, {0x61611f, 3},
            {0x7f616161, 4}, {0x611f6161, 4}, {0, 4}, {-1, 4}, {0x6f6c1f, 3}, {LOWEST, LOWEST}};
        for (int[] pair : refused) {
            dueUnchanged("put " + pair[0] + " " + pair[1], Trace::furnished, x -> x.desk.put(pair[0], pair[1]) ? 1 : 0, 0);
        }
        Desk x = new Desk();
        x.put("a:int" + " ".repeat(113));
        due("put three to 121", x.desk.put(0x616161, 3), false);
        due("put two to 120", x.desk.put(0x6161, 2), true);
        due("spaces and all", x.variable(), BAD);
    }

    // Promise 3: "(it is empty afterwards, always)"
    private static void declareEmptiesTheBuffer() {
        Desk x = new Desk();
        due("declared", x.declare("A{x:int}"), 1);
        dueEmptyBuffer("a declaration", x);
        due("declared already", x.declare("A{x:int}"), STATE);
        dueEmptyBuffer("one of a declared class", x);
        String[] wrong = {"", "B", "B{", "B{x:int}}", "B{x:int} ", "B{x:int;y}", "B:C{}", "B{x:int;x:int}", "~".repeat(120)};
        for (String text : wrong) {
            due("declare " + text, x.declare(text), BAD);
            dueEmptyBuffer("declare " + text, x);
        }
        due("declared", x.declare("B{x:int}"), 1);
    }

    // Promise 3: a refused declaration declares nothing
    private static void declareRefusedChangesNothing() {
        String[] wrong = {"", "C", "C{", "C{x:int", "C{x:int;y:int;z:in}", "C{a:A;b:A;c:A;d:A;e:A;f:A;g:A}", "C:D{x:int}",
            "C:C{x:int}", "C:B{m():int}", "C:B{x:int;static m(int):B}", "C{x:int;x:int}", "C{x():A;x():A}", "C{new();new()}",
            "K{x:int}", "C:A{x:int}.", "A{x:int;}", "B:A{m():int}"};
        for (String text : wrong) {
            dueEmptied("declare " + text, Trace::furnished, x -> x.declare(text), BAD);
        }
        String[] known = {"A{}", "B{}", "A:B{}", "A:A{}", "B:A{a:A;b:A;c:A;d:A;e:A;f:A}", "A{private y:int}"};
        for (String text : known) {
            dueEmptied("declare " + text, Trace::furnished, x -> x.declare(text), STATE);
        }
    }

    // Promise 3: "IllegalArgumentException when it is none; IllegalStateException when it is one, but ..."
    private static void declareAsksForTheTextFirst() {
        Desk x = new Desk();
        x.declare("A{x:int}");
        x.declare("B:A{m():int}");
        for (String text : new String[] {"A", "A{", "A{}}", "A{x}", "A{x:int;x:int}", "A:C{}", "A{new():A}", "A{y:int;}",
            "A{a:A;b:A;c:A;d:A;e:A;f:A;g:A}", "A:B{m():long}", "A:B{static m():int}"}) {
            due("no declaration of a declared class: " + text, x.declare(text), BAD);
        }
        for (String text : new String[] {"A{}", "A{x:int}", "A{a:A;b:A;c:A;d:A;e:A;f:A}", "A:B{}", "A:B{m():int}", "B{}"}) {
            due("a declaration of a declared class: " + text, x.declare(text), STATE);
        }
    }

    // Promise 3: "of a class that is declared"
    private static void declareOfADeclaredClass() {
        for (char c = 'A'; c <= 'J'; c++) {
            Desk x = new Desk();
            due("declare " + c, x.declare(c + "{x:int}"), 1);
            due("once more", x.declare(c + "{y:int;z:int}"), STATE);
            due("its members", x.desk.members(c - 'A'), 1);
            x.variable("v:" + c);
            due("those of the first", x.check("v.x"), INT);
            due("none of the second", x.check("v.y"), BAD);
            due("nor another superclass", x.declare(c + ":" + c + "{}"), STATE);
        }
    }

    // Promise 4: "Uses the buffer likewise"
    private static void variableEmptiesTheBuffer() {
        Desk x = new Desk();
        for (String text : new String[] {"", "a", "a:", ":int", "a:int ", "a:in", "new:int", "a:int:int", "~".repeat(120)}) {
            due("variable " + text, x.variable(text), BAD);
            dueEmptyBuffer("variable " + text, x);
        }
        due("taken", x.variable("a:int"), 1);
        dueEmptyBuffer("a variable", x);
        due("there already", x.variable("a:int"), BAD);
        dueEmptyBuffer("one of that name", x);
        for (String name : new String[] {"b", "c", "d", "e"}) {
            x.variable(name + ":int");
        }
        for (String text : new String[] {"f:int", "a:int", "f", "", "~".repeat(120)}) {
            due("a sixth " + text, x.variable(text), STATE);
            dueEmptyBuffer("a sixth " + text, x);
        }
    }

    // Promise 4: a refused one is no variable
    private static void variableRefusedChangesNothing() {
        String[] wrong = {"", "r", "r:", "r:K", "r:ints", "r:int;", "rrrrr:int", "int:int", "a:A", "a:long", "i:B"};
        for (String text : wrong) {
            dueEmptied("variable " + text, Trace::furnished, x -> x.variable(text), BAD);
        }
        for (String text : new String[] {"", "r", "r:int", "a:A", "a:long", "k:C"}) {
            dueEmptied("variable " + text, Trace::furnishedWithFive, x -> x.variable(text), STATE);
        }
    }

    // Promise 4: "IllegalStateException when there are five (asked first)"
    private static void variableAsksForFiveFirst() {
        String[] wrong = {"", "?", "a", "a:int", "a:bool", "a:K", "f:", "new:int", "abcde:int"};
        Desk x = new Desk();
        x.variable("a:int");
        for (int count = 1; count <= 5; count++) {
            for (String text : wrong) {
                due(count + " and " + text, x.variable(text), count == 5 ? STATE : BAD);
            }
            due("one more", x.variable((char) ('a' + count) + ":int"), count == 5 ? STATE : count + 1);
        }
    }

    // Promise 5: "There are no variables."
    private static void forgetMakesRoomForFive() {
        Desk x = new Desk();
        for (int round = 0; round < 3; round++) {
            for (int i = 1; i <= 5; i++) {
                due("variable " + i, x.variable((char) ('a' + i) + (round == 1 ? ":long" : ":int")), i);
            }
            due("a sixth", x.variable("z:int"), STATE);
            due("of the latest round", x.check("b"), round == 1 ? LONG : INT);
            x.desk.forget();
            due("none", x.check("b"), BAD);
            due("none to complete", x.complete(INT, 3) + x.complete(LONG, 3), 0);
        }
    }

    private static void forgetOfNothing() {
        Supplier<Desk> forgotten = () -> {
            Desk x = Trace.furnished();
            x.desk.forget();
            return x;
        };
        dueUnchanged("forget again", forgotten, x -> {
            x.desk.forget();
            return 0;
        }, 0);
        Desk x = new Desk();
        x.desk.forget();
        due("the first", x.variable("a:int"), 1);
    }

    // Promise 6: "class c (0 .. 9), or none (NONE)"
    private static void enterTakesTenClassesAndNone() {
        for (int c : new int[] {LOWEST, -10, -3, -2, 10, 11, 12, 65, HIGHEST}) {
            due("enter " + c, Trace.furnished().enter(c), BAD);
        }
        for (int c = NONE; c <= 9; c++) {
            Desk x = new Desk();
            due("enter " + c, x.enter(c), 0);
            for (int other = 0; other < 10; other++) {
                x.declare((char) ('A' + other) + "{private x:int;private m():int}");
                due("fields of " + other + " at " + c, x.desk.seen(other, 0), c == other ? 1 : 0);
                due("methods of " + other + " at " + c, x.desk.seen(other, 1), c == other ? 1 : 0);
            }
            due("enter none", x.enter(NONE), 0);
            due("nothing", x.desk.seen(Math.max(c, 0), 0), 0);
        }
    }

    // Promise 6: "IllegalArgumentException, changing nothing, for others."
    private static void enterRefusedChangesNothing() {
        for (int c : new int[] {LOWEST, -2, 10, HIGHEST}) {
            dueUnchanged("enter " + c, Trace::furnished, x -> x.enter(c), BAD);
        }
    }

    // Promise 7: "the type (0 .. 12)"
    private static void completeTakesThirteenTypes() {
        String[] types = {"int", "long", "bool", "A", "B", "C", "D", "E", "F", "G", "H", "I", "J"};
        for (int type = 0; type < types.length; type++) {
            Desk x = new Desk();
            x.variable("v:" + types[type]);
            due("complete " + types[type], x.proposals(type, 0), List.of("v:" + type + ":0"));
        }
        for (int type : new int[] {LOWEST, -3, -2, -1, 13, 14, 32, HIGHEST}) {
            for (int most = 0; most <= 3; most++) {
                due("complete " + type + " " + most, Trace.furnished().complete(type, most), BAD);
            }
        }
    }

    // Promise 7: "of cost at most so much (0 .. 3)"
    private static void completeTakesCostsUpToThree() {
        Desk x = new Desk();
        x.declare("A{x:A}");
        x.variable("a:A");
        List<String> all = List.of("a:3:0", "a.x:3:1", "a.x.x:3:2", "a.x.x.x:3:3");
        for (int most = 0; most <= 3; most++) {
            due("most " + most, x.proposals(A, most), all.subList(0, most + 1));
        }
        for (int most = 3; most >= 0; most--) {
            due("most " + most, x.proposals(A, most), all.subList(0, most + 1));
        }
        for (int most : new int[] {LOWEST, -2, -1, 4, 5, HIGHEST}) {
            due("most " + most, x.complete(A, most), BAD);
            due("the proposals before", x.proposals(), List.of("a:3:0"));
        }
    }

    // Promise 7: "IllegalArgumentException, changing nothing, when they are not as said."
    private static void completeRefusedChangesNothing() {
        int[][] refused = {{-1, 0}, {13, 3}, {0, -1}, {12, 4}, {-1, -1}, {13, 4}, {LOWEST, LOWEST}, {HIGHEST, HIGHEST}};
        for (int[] pair : refused) {
            String call = "complete " + pair[0] + " " + pair[1];
            dueUnchanged(call, Trace::furnished, x -> x.complete(pair[0], pair[1]), BAD);
        }
    }

    // Promise 7: "in place of the proposals before"
    private static void completeInPlaceOfTheProposals() {
        Desk x = new Desk();
        x.declare("A{a:A;b:A}");
        x.variable("x:A");
        due("ten", x.complete(A, 3), 10);
        due("the tenth", x.desk.proposal(9, 0), 7);
        due("one", x.complete(A, 0), 1);
        for (int i = 1; i < 10; i++) {
            due("proposal " + i, x.desk.proposal(i, 0), NONE);
            due("letter " + i, x.desk.letter(i, 0), 0);
        }
        due("the only one", x.proposals(), List.of("x:3:0"));
        due("none", x.complete(INT, 3), 0);
        due("not even one", x.desk.proposal(0, 0), NONE);
        due("ten again", x.complete(A, 3), 10);
    }

    // Promise 8: "Uses the buffer likewise"
    private static void checkEmptiesTheBuffer() {
        Desk x = new Desk();
        x.declare("A{x:A;m(A):A}");
        x.variable("a:A");
        for (String text : new String[] {"", "b", "a.", "a.y", "a.m(", "a.m(a", "a ", "a.m(b)", "~".repeat(120)}) {
            due("check " + text, x.check(text), BAD);
            dueEmptyBuffer("check " + text, x);
        }
        String deep = "a.m(".repeat(7) + "a" + ")".repeat(7);
        due("deep", x.check(deep), BAD);
        dueEmptyBuffer("a deep one", x);
        due("check", x.check("a.x"), A);
        dueEmptyBuffer("an expression", x);
    }

    // Promise 8: a refused one changes nothing else
    private static void checkRefusedChangesNothing() {
        String[] wrong = {"", "a.", "a.x.", "b.m(a.x).y.", "b.m(a.x", "C.k", "new C()", "b.m(a)", "a.y", "q"};
        for (String text : wrong) {
            dueEmptied("check " + text, Trace::furnished, x -> x.check(text), BAD);
        }
    }

    // Promise 8: "arguments lie more than 6 deep in one another"
    private static void checkGoesSixDeep() {
        Desk x = new Desk();
        x.declare("A{m(A):A;static s(A):A;new(A);static o:A;static n():A;x:A}");
        x.declare("B{static t(A,A):A}");
        x.variable("a:A");
        String[] openings = {"a.m(", "A.s(", "new A(", "A.o.m(", "a.x.m("};
        for (String opening : openings) {
            for (int times = 0; times <= 9; times++) {
                String text = nested(opening, "a", times);
                if (text.length() <= 120) {
                    due(times + " deep " + opening, x.check(text), times <= 6 ? A : BAD);
                }
            }
        }
        String[] cores = {"a", "A.o", "A.n()", "a.x", "A.n().x"};
        for (String core : cores) {
            due("6 deep " + core, x.check(nested("A.s(", core, 6)), A);
            due("7 deep " + core, x.check(nested("A.s(", core, 7)), BAD);
        }
    }

    private static void checkGoesSixDeepEverywhere() {
        Desk x = new Desk();
        x.declare("A{m(A):A;static s(A):A;static t(A,A):A}");
        x.variable("a:A");
        String five = nested("A.s(", "a", 5);
        String six = nested("A.s(", "a", 6);
        due("first argument", x.check("A.t(" + five + ",a)"), A);
        due("second argument", x.check("A.t(a," + five + ")"), A);
        due("both", x.check("A.t(" + five + "," + five + ")"), A);
        due("first argument", x.check("A.t(" + six + ",a)"), BAD);
        due("second argument", x.check("A.t(a," + six + ")"), BAD);
        due("behind a deep one", x.check(six + ".m(" + five + ")"), A);
        due("its cost", x.desk.checkedCost(), 12);
        due("behind a deep one, too deep", x.check(six + ".m(" + six + ")"), BAD);
        due("the cost before", x.desk.checkedCost(), 12);
        due("behind one another", x.check("a" + ".m(a)".repeat(23)), A);
    }

    // Promise 8: "(the length and cost do not matter)"
    private static void checkOfAnyLengthAndCost() {
        Desk x = new Desk();
        x.declare("A{x:A}");
        x.variable("a:A");
        x.variable("aa:A");
        for (int cost = 0; cost <= 59; cost++) {
            due("cost " + cost, x.check((cost % 2 == 0 ? "a" : "aa") + ".x".repeat(cost)), A);
            due("cost " + cost, x.desk.checkedCost(), cost);
        }
    }

    // Promise 8: "with the scope and place as they are"
    private static void checkWithScopeAndPlaceAsTheyAre() {
        Desk x = new Desk();
        x.declare("A{private x:int}");
        x.variable("a:A");
        x.put("a.");
        x.enter(0);
        x.put("x");
        due("in A", x.check(), INT);
        x.enter(1);
        due("in B", x.check("a.x"), BAD);
        x.enter(0);
        x.desk.forget();
        due("no variable", x.check("a.x"), BAD);
        x.variable("a:B");
        due("of another type", x.check("a.x"), BAD);
        due("of another type", x.check("a"), B);
    }

    // Promise 9: "of the latest check that threw nothing; 0 before"
    private static void checkedCostOfTheLatestThatThrewNothing() {
        Desk x = new Desk();
        due("before", x.desk.checkedCost(), 0);
        x.declare("A{x:A;m(A):A}");
        x.variable("a:A");
        due("none", x.check("a.x.x."), BAD);
        due("still before", x.desk.checkedCost(), 0);
        due("cost 2", x.check("a.x.x"), A);
        for (String text : new String[] {"", "a.x.x.x.", "a.m(a.x", "b", nested("a.m(", "a", 7)}) {
            due("none " + text, x.check(text), BAD);
            due("after " + text, x.desk.checkedCost(), 2);
        }
        x.complete(A, 3);
        x.complete(A, 4);
        x.variable("b:A");
        x.variable("b:A");
        x.declare("B{}");
        x.declare("B{}");
        x.enter(3);
        x.enter(10);
        x.desk.forget();
        due("after other calls", x.desk.checkedCost(), 2);
        x.variable("a:A");
        due("cost 0", x.check("a"), A);
        due("0 again", x.desk.checkedCost(), 0);
    }

    // Promise 10: "(of 0 .. 12; otherwise false)"
    private static void fitsOfOtherNumbers() {
        Desk x = Trace.furnished();
        int[] others = {LOWEST, -32, -3, -2, -1, 13, 14, 32, 35, 64, HIGHEST};
        for (int other : others) {
            due("fits itself " + other, x.desk.fits(other, other), false);
            for (int type = 0; type < 13; type++) {
                due("fits " + other + " " + type, x.desk.fits(other, type), false);
                due("fits " + type + " " + other, x.desk.fits(type, other), false);
            }
        }
        due("0", x.desk.fits(0, 0), true);
        due("12", x.desk.fits(12, 12), true);
    }

    // Promise 11: "NONE when there is none, or for another what"
    private static void proposalOfOtherNumbers() {
        Desk x = new Desk();
        x.declare("A{a:A;b:A}");
        x.variable("x:A");
        for (int most = 0; most <= 3; most++) {
            int count = x.complete(A, most);
            due("count", count, new int[] {1, 3, 7, 10}[most]);
            for (int i : new int[] {LOWEST, -1, 0, count - 1, count, 9, 10, 11, HIGHEST}) {
                boolean there = i >= 0 && i < count;
                for (int what : new int[] {LOWEST, -1, 0, 1, 2, 3, HIGHEST}) {
                    boolean asked = there && what >= 0 && what <= 2;
                    due("proposal " + i + " " + what, x.desk.proposal(i, what) != NONE, asked);
                }
            }
            due("the last one's type", x.desk.proposal(count - 1, 2), A);
            due("the last one's cost", x.desk.proposal(count - 1, 1), most);
            due("the last one's length", x.desk.proposal(count - 1, 0), 1 + 2 * most);
        }
        x.complete(J, 3);
        due("none at all", x.desk.proposal(0, 0), NONE);
        due("type int and cost 0 are no NONE", zeroes(), "1 0 0");
    }

    private static String zeroes() {
        Desk x = new Desk();
        x.variable("i:int");
        x.complete(INT, 0);
        return x.desk.proposal(0, 0) + " " + x.desk.proposal(0, 1) + " " + x.desk.proposal(0, 2);
    }

    // Promise 12: "0 when there is none"
    private static void letterOfOtherNumbers() {
        Desk x = new Desk();
        x.declare("A{new(B,B);bbbb:B;bbb:B}");
        x.variable("aaaa:A");
        String text = "new A(aaaa.bbb,aaaa.bbb)";
        due("the longest", x.proposals(A, 3), List.of("aaaa:3:0", text + ":3:3"));
        for (int k = 0; k < 24; k++) {
            due("letter " + k, x.desk.letter(1, k), (int) text.charAt(k));
        }
        for (int k : new int[] {LOWEST, -24, -1, 24, 25, 26, 119, 120, HIGHEST}) {
            due("letter 1 " + k, x.desk.letter(1, k), 0);
        }
        for (int i : new int[] {LOWEST, -1, 2, 3, 9, 10, HIGHEST}) {
            for (int k : new int[] {LOWEST, -1, 0, 1, 23, 24, HIGHEST}) {
                due("letter " + i + " " + k, x.desk.letter(i, k), 0);
            }
        }
    }

    private static void letterOfAShorterText() {
        Desk x = new Desk();
        x.declare("A{new(B,B);bbb:B}");
        x.variable("aaaa:A");
        x.complete(A, 3);
        due("the first of two", x.desk.letter(0, 3), (int) 'a');
        due("behind it", x.desk.letter(0, 4), 0);
        x.desk.forget();
        x.variable("b:A");
        x.complete(A, 3);
        due("a shorter one in its place", x.text(0), "b");
        for (int k = 1; k < 26; k++) {
            due("behind it", x.desk.letter(0, k), 0);
        }
        due("the second", x.text(1), "new A(b.bbb,b.bbb)");
        for (int k = 18; k < 26; k++) {
            due("behind the second", x.desk.letter(1, k), 0);
        }
    }

    // Promise 13: "NONE when it is not declared (also for others)"
    private static void membersOfOtherNumbers() {
        Desk x = new Desk();
        due("declare A", x.declare("A{}"), 0);
        due("declare J", x.declare("J{a:A;b:A;c:A;d:A;e:A;f:A}"), 6);
        due("0 of A, not NONE", x.desk.members(0), 0);
        due("6 of J", x.desk.members(9), 6);
        for (int c : new int[] {LOWEST, -2, -1, 1, 8, 10, 11, 12, HIGHEST}) {
            due("members " + c, x.desk.members(c), NONE);
        }
    }

    // Promise 14: "NONE when it is not 0 .. 9, or for another what"
    private static void seenOfOtherNumbers() {
        Desk x = new Desk();
        x.declare("A{a:A;b():A;c():A}");
        x.declare("J{a:A;b:A;c():A}");
        for (int c : new int[] {LOWEST, -2, -1, 0, 1, 8, 9, 10, 11, HIGHEST}) {
            boolean known = c >= 0 && c <= 9;
            due("fields of " + c, x.desk.seen(c, 0), !known ? NONE : c == 0 ? 1 : c == 9 ? 2 : 0);
            due("methods of " + c, x.desk.seen(c, 1), !known ? NONE : c == 0 ? 2 : c == 9 ? 1 : 0);
            for (int what : new int[] {LOWEST, -2, -1, 2, 3, HIGHEST}) {
                due("seen " + c + " " + what, x.desk.seen(c, what), NONE);
            }
        }
    }

    // Promise 14: of ten classes below one another, six members each
    private static void seenUpToSixty() {
        Desk x = new Desk();
        Desk y = new Desk();
        for (char c = 'A'; c <= 'J'; c++) {
            StringBuilder fields = new StringBuilder();
            StringBuilder methods = new StringBuilder();
            for (char n = 'a'; n <= 'f'; n++) {
                String name = "" + n + Character.toLowerCase(c);
                fields.append(n == 'a' ? "" : ";").append(name).append(":int");
                methods.append(n == 'a' ? "" : ";").append(name).append("():int");
            }
            String start = c == 'A' ? "A{" : c + ":" + (char) (c - 1) + "{";
            due("fields of " + c, x.declare(start + fields + "}"), 6);
            due("methods of " + c, y.declare(start + methods + "}"), 6);
            due("seen of " + c, x.desk.seen(c - 'A', 0), 6 * (c - 'A' + 1));
            due("seen of " + c, y.desk.seen(c - 'A', 1), 6 * (c - 'A' + 1));
            due("no methods of " + c, x.desk.seen(c - 'A', 1), 0);
            due("no fields of " + c, y.desk.seen(c - 'A', 0), 0);
        }
    }
}
