import java.util.List;

/** The promises of the document one by one: ordinary inputs, the edges it names, wrong inputs. */
public final class PromiseTest extends DeskCase {
    public static void main(String[] args) {
        newObject();
        put();
        putAtTheLimit();
        declareForms();
        declareWrongForms();
        declareTwice();
        declareSuperclasses();
        declareOverrides();
        variable();
        variablesAreFive();
        forget();
        enter();
        completeKinds();
        completePrivate();
        completeOrder();
        completeKeepsEight();
        completeKeptOfKept();
        completeLongTexts();
        completeTenProposals();
        completeArguments();
        completeWrong();
        check();
        checkWrong();
        checkSeen();
        checkDepth();
        checkLong();
        checkedCost();
        fits();
        proposalAndLetter();
        proposalsStay();
        members();
        seen();
        VERDICT.end();
    }

    // Promise 1

    private static void newObject() {
        Desk x = new Desk();
        for (int c = 0; c < 10; c++) {
            due("members of a new object", x.desk.members(c), NONE);
            due("seen of a new object", x.desk.seen(c, 0) + x.desk.seen(c, 1), 0);
        }
        due("proposal of a new object", x.desk.proposal(0, 0), NONE);
        due("letter of a new object", x.desk.letter(0, 0), 0);
        due("checkedCost of a new object", x.desk.checkedCost(), 0);
        due("declare with an empty buffer", x.declare(), BAD);
        due("variable with an empty buffer", x.variable(), BAD);
        due("check with an empty buffer", x.check(), BAD);
        for (int type = 0; type < 13; type++) {
            due("complete of a new object", x.complete(type, 3), 0);
        }
        due("first variable", x.variable("a:int"), 1);
        due("first declaration", x.declare("A{private x:int}"), 1);
        due("the place is none", x.desk.seen(0, 0), 0);
        due("two objects share nothing", new Desk().desk.members(0), NONE);
    }

    // Promise 2

    private static void put() {
        Desk x = new Desk();
        due("put n 0", x.desk.put(0x61626364, 0), false);
        due("put n 5", x.desk.put(0x61626364, 5), false);
        due("put n -1", x.desk.put(0x61626364, -1), false);
        due("put n highest", x.desk.put(0x61626364, Integer.MAX_VALUE), false);
        due("put n lowest", x.desk.put(0x61626364, Integer.MIN_VALUE), false);
        due("put byte 31", x.desk.put(31, 1), false);
        due("put byte 127", x.desk.put(127, 1), false);
        due("put byte 0", x.desk.put(0, 1), false);
        due("put byte 255", x.desk.put(-1, 4), false);
        due("put bad last byte", x.desk.put(0x61621f, 3), false);
        due("put bad first byte", x.desk.put(0x7f626161, 4), false);
        due("put nothing so far", x.variable(), BAD);

        due("put highest first", x.desk.put('a' << 16 | ':' << 8 | 'i', 3), true);
        due("put refused between", x.desk.put('x' << 8 | 9, 2), false);
        due("put lowest bytes alone", x.desk.put(0xff000000 | 'n' << 8 | 't', 2), true);
        due("put gave a:int", x.variable(), 1);
        due("put gave a", x.check("a"), INT);

        due("put byte 32", x.desk.put(32, 1), true);
        due("put byte 126", x.desk.put(126, 1), true);
        due("a space counts", x.check(), BAD);
    }

    private static void putAtTheLimit() {
        Desk x = new Desk();
        String declaration = "A{aaaa(long,long):long;bbbb(long,long):long;cccc(long,long):long;"
                + "dddd(long,long):long;eeee(long,long):long;f:int}";
        String filler = " ".repeat(117);
        due("declaration's length", declaration.length(), 113);
        due("declaration of 113", x.declare(declaration), 6);
        due("put 117", x.put(filler), true);
        due("put 4 to 121", x.desk.put(0x61616161, 4), false);
        due("put 3 to 120", x.desk.put(0x616161, 3), true);
        due("put 1 to 121", x.desk.put(0x61, 1), false);
        due("120 spaces", x.check(), BAD);
        due("emptied", x.put(" ".repeat(120)), true);
        due("120 once more", x.variable(), BAD);

        String longest = "B{private static aa(long,long):long;private static bb(long,bool):bool;"
                + "static cc(long,long):bool;d(long,long):bool;new()}";
        due("declaration's length", longest.length(), 120);
        due("declaration of 120", x.declare(longest), 5);
        due("a refused put changes nothing", x.put("C{" + " ".repeat(118)), true);
        due("it is full", x.desk.put('}', 1), false);
        due("it is none", x.declare(), BAD);
        due("members of C", x.desk.members(2), NONE);
    }

    // Promise 3

    private static void declareForms() {
        Desk x = new Desk();
        due("no member", x.declare("A{}"), 0);
        due("each kind", x.declare("B{x:int;static y:long;m():bool;static n(A):B;new(int,J)}"), 5);
        due("private ones", x.declare(
                "C{private x:J;private static y:J;private m():J;private static n():J;private new()}"), 5);
        due("six members", x.declare("D{a:A;b:B;c:C;d:D;e:E;f:F}"), 6);
        due("field and method of a name", x.declare("E{a:int;a():int}"), 2);
        due("names of four letters", x.declare("F{news:int;ints:int;inta:int;boo:int;lon:int;ne:int}"), 6);
        due("names z and a", x.declare("J:A{z:int;azaz:int}"), 2);
        due("two parameters", x.declare("G{m(int,long):bool;n(bool):A}"), 2);
        due("members of B", x.desk.members(1), 5);
        due("members of J", x.desk.members(9), 2);
    }

    private static void declareWrongForms() {
        Desk x = new Desk();
        String[] wrong = {
            "", "A", "{}", "A{", "A}", "A{}}", "A{} ", " A{}", "A {}", "A{ }", "a{}", "K{}", "AB{}", "A{};",
            "A:{}", "A:int{}", "A:A{}", "A:B{}", "A::B{}", "A:k{}",
            "A{;}", "A{x:int;}", "A{;x:int}", "A{x:int,y:int}", "A{x:int;;y:int}", "A{x:int y:int}",
            "A{x}", "A{x:}", "A{:int}", "A{x:Int}", "A{x:K}", "A{x:AB}", "A{x:intx}", "A{x:in}", "A{x:longs}",
            "A{x:new}", "A{x: int}", "A{x :int}", "A{x:int }", "A{xyzab:int}", "A{X:int}", "A{x1:int}",
            "A{new:int}", "A{int:int}", "A{long:int}", "A{bool:int}", "A{int():int}", "A{long():A}", "A{bool():A}",
            "A{private:int}", "A{static:int}", "A{static private x:int}", "A{private private x:int}",
            "A{static static x:int}", "A{private  x:int}", "A{static  x:int}", "A{privatex:int}", "A{staticx:int}",
            "A{private }", "A{static }", "A{private}", "A{static new()}", "A{private static new()}", "A{new():A}",
            "A{new}", "A{new(}", "A{new (A)}", "A{new(A,A,A)}", "A{new(A,)}", "A{new(,A)}", "A{new(,)}", "A{new(A}",
            "A{m()}", "A{m():}", "A{m:():int}", "A{m(:int}", "A{m):int}", "A{m(A,A,A):int}", "A{m(int,):int}",
            "A{m(int;):int}", "A{m(int, int):int}", "A{m(x):int}", "A{m(x:int):int}", "A{m(intlong):int}",
            "A{m()():int}", "A{a:A;b:A;c:A;d:A;e:A;f:A;g:A}",
            "A{a:A;b:A;c:A;d:A;e:A;f:A;", "A{a:A;b:A;c:A;d:A;e:A;f:A", "A{m(A,A,:int}", "A{m(A,A:int}", "A{new(A,A,}",
            "A{x:int;x:long}", "A{x:int;static x:int}", "A{private x:int;x:int}",
            "A{m():int;m(A):int}", "A{m():int;static m():int}", "A{new();new()}", "A{new();private new(A)}",
        };
        for (String text : wrong) {
            due("declare " + text, x.declare(text), BAD);
            due("the buffer is empty after " + text, x.check(), BAD);
            due("nothing is declared by " + text, x.desk.members(0), NONE);
        }
        due("declare after all these", x.declare("A{}"), 0);
    }

    private static void declareTwice() {
        Desk x = new Desk();
        due("declare", x.declare("A{x:int}"), 1);
        due("declare once more", x.declare("A{x:int;y:int}"), STATE);
        due("what was declared stays", x.desk.members(0), 1);
        due("none, of a declared class", x.declare("A{x:int;x:int}"), BAD);
        due("none, of a declared class", x.declare("A"), BAD);
        due("superclass not declared", x.declare("A:B{}"), BAD);
        due("declare below", x.declare("B:A{}"), 0);
        due("superclass declared", x.declare("A:B{}"), STATE);
        due("superclass itself, declared before", x.declare("A:A{}"), STATE);
        due("no ring has come of it", x.desk.fits(A, B), false);
        x.put("A{x:int}");
        x.declare();
        due("the buffer is empty after a throw", x.check(), BAD);
        due("the buffer is empty after a throw", x.declare("C{}"), 0);
    }

    private static void declareSuperclasses() {
        Desk x = new Desk();
        x.declare("A{x:int}");
        for (char c = 'B'; c <= 'J'; c++) {
            due("declare below", x.declare(c + ":" + (char) (c - 1) + "{}"), 0);
        }
        due("a chain of ten fits", x.desk.fits(J, A), true);
        due("a chain of ten sees", x.desk.seen(9, 0), 1);
    }

    private static void declareOverrides() {
        Desk x = new Desk();
        x.declare("A{m(int,A):B;static s():int;private p():int;f:int;private static q():int}");
        due("other result", x.declare("B:A{m(int,A):A}"), BAD);
        due("other parameter", x.declare("B:A{m(long,A):B}"), BAD);
        due("other second parameter", x.declare("B:A{m(int,B):B}"), BAD);
        due("fewer parameters", x.declare("B:A{m(int):B}"), BAD);
        due("static for one that is not", x.declare("B:A{static m(int,A):B}"), BAD);
        due("private static", x.declare("B:A{private static m(int,A):B}"), BAD);
        due("private with other types", x.declare("B:A{private m():B}"), BAD);
        due("one for a static one", x.declare("B:A{s():int}"), BAD);
        due("static for a static one", x.declare("B:A{static s():int}"), BAD);
        due("like private ones, and a field", x.declare("B:A{p(A):A;f:bool;q():A;m:int;static s:int}"), 5);
        due("of a superclass's superclass", x.declare("C:B{m():int}"), BAD);
        due("of a superclass's superclass", x.declare("C:B{static s():int}"), BAD);
        due("not like the nearest", x.declare("C:B{p():int}"), BAD);
        due("the same types", x.declare("C:B{m(int,A):B;p(A):A;private q():A}"), 3);
        due("behind a private one", x.declare("D:C{q():int}"), BAD);
        due("behind a private one", x.declare("D:C{q():A}"), 1);
        due("not below", x.declare("E{m():int;s():int}"), 2);
        due("types are those declared, not those that fit", x.declare("F:E{m():long}"), BAD);
    }

    // Promise 4

    private static void variable() {
        Desk x = new Desk();
        String[] wrong = {
            "", "a", ":int", "a:", "a:Int", "a:K", "a:int ", " a:int", "a :int", "a: int", "abcde:int", "A:int",
            "new:int", "int:int", "long:long", "bool:bool", "a1:int", "a:a", "a:AB", "a:ints", "a:int:int", "a.int",
        };
        for (String text : wrong) {
            due("variable " + text, x.variable(text), BAD);
            due("the buffer is empty after " + text, x.check(), BAD);
        }
        due("variable int", x.variable("a:int"), 1);
        due("variable again", x.variable("a:int"), BAD);
        due("variable again, other type", x.variable("a:A"), BAD);
        due("variable long", x.variable("aa:long"), 2);
        due("variable bool", x.variable("zzzz:bool"), 3);
        due("variable of a class that is not declared", x.variable("abcd:J"), 4);
        due("type of a", x.check("a"), INT);
        due("type of aa", x.check("aa"), LONG);
        due("type of zzzz", x.check("zzzz"), BOOL);
        due("type of abcd", x.check("abcd"), J);
        due("the wrong one is no variable", x.check("abc"), BAD);
    }

    private static void variablesAreFive() {
        Desk x = new Desk();
        for (int i = 0; i < 5; i++) {
            due("variable", x.variable((char) ('a' + i) + ":int"), i + 1);
        }
        due("a sixth", x.variable("f:int"), STATE);
        due("a sixth of a name that is there", x.variable("a:int"), STATE);
        due("a sixth that is none", x.variable("?"), STATE);
        due("a sixth from an empty buffer", x.variable(), STATE);
        due("the buffer is empty", x.check(), BAD);
        due("no sixth", x.check("f"), BAD);
        due("the fifth", x.check("e"), INT);
    }

    // Promise 5

    private static void forget() {
        Desk x = new Desk();
        x.desk.forget();
        x.declare("A{x:int}");
        x.variable("a:A");
        x.variable("b:int");
        x.complete(INT, 1);
        x.put("c:bo");
        x.desk.forget();
        due("the buffer stays", x.desk.put('o' << 8 | 'l', 2), true);
        due("variable", x.variable(), 1);
        due("proposals stay", x.proposals(), List.of("b:0:0", "a.x:0:1"));
        due("forgotten", x.check("a"), BAD);
        due("complete", x.proposals(INT, 3), List.of());
        due("declarations stay", x.desk.members(0), 1);
        due("a forgotten name anew", x.variable("a:long"), 2);
        due("with another type", x.check("a"), LONG);
    }

    // Promise 6

    private static void enter() {
        Desk x = new Desk();
        x.declare("A{private x:int}");
        due("enter A", x.enter(0), 0);
        due("seen in A", x.desk.seen(0, 0), 1);
        due("enter 10", x.enter(10), BAD);
        due("enter -2", x.enter(-2), BAD);
        due("enter lowest", x.enter(Integer.MIN_VALUE), BAD);
        due("enter highest", x.enter(Integer.MAX_VALUE), BAD);
        due("still in A", x.desk.seen(0, 0), 1);
        due("enter J, not declared", x.enter(9), 0);
        due("not in A", x.desk.seen(0, 0), 0);
        x.declare("J{private x:int}");
        due("in J, declared later", x.desk.seen(9, 0), 1);
        due("enter none", x.enter(NONE), 0);
        due("in none", x.desk.seen(9, 0), 0);
    }

    // Promise 7

    private static void completeKinds() {
        Desk x = new Desk();
        x.declare("A{f:int;m():long;static g:bool;static s(A):B;new(int)}");
        x.variable("a:A");
        due("int", x.proposals(INT, 1), List.of("a.f:0:1"));
        due("long", x.proposals(LONG, 1), List.of("a.f:0:1", "a.m():1:1"));
        due("bool", x.proposals(BOOL, 1), List.of("A.g:2:1"));
        due("A", x.proposals(A, 1), List.of("a:3:0"));
        due("A from int", x.proposals(A, 2), List.of("a:3:0", "new A(a.f):3:2"));
        due("B", x.proposals(B, 1), List.of("A.s(a):4:1"));
        due("B of cost 3", x.proposals(B, 3), List.of("A.s(a):4:1", "A.s(new A(a.f)):4:3"));
        due("C", x.proposals(C, 3), List.of());
        due("cost 0 alone", x.proposals(INT, 0), List.of());
    }

    private static void completePrivate() {
        Desk x = new Desk();
        x.declare("A{private f:int;private new();private static s:long;m():int}");
        x.declare("B:A{private m():int;f:bool;new(A)}");
        x.variable("b:B");
        due("int at none", x.proposals(INT, 1), List.of("b.m():0:1"));
        due("A at none", x.proposals(A, 1), List.of("b:4:0", "new B(b):4:1"));
        due("bool at none", x.proposals(BOOL, 1), List.of("b.f:2:1"));
        due("long at none", x.proposals(LONG, 1), List.of("b.m():0:1"));
        x.enter(0);
        due("long in A", x.proposals(LONG, 1), List.of("A.s:1:1", "b.m():0:1"));
        due("A in A", x.proposals(A, 1), List.of("b:4:0", "new A():3:1", "new B(b):4:1"));
        due("f of A in A is behind that of B", x.proposals(BOOL, 1), List.of("b.f:2:1"));
        due("f of an A in A", x.proposals(INT, 2), List.of("b.m():0:1", "new A().f:0:2", "new A().m():0:2",
                "new B(b).m():0:2"));
        x.enter(1);
        due("long in B", x.proposals(LONG, 1), List.of("b.m():0:1"));
    }

    private static void completeOrder() {
        Desk x = new Desk();
        x.declare("A{ab:A;a:A;a():A;static b:A;new()}");
        x.variable("b:A");
        x.variable("ab:A");
        x.variable("a:A");
        x.variable("aa:A");
        due("by cost, then by text", x.proposals(A, 1), List.of("a:3:0", "aa:3:0", "ab:3:0", "b:3:0",
                "A.b:3:1", "a.a:3:1", "a.a():3:1", "a.ab:3:1", "aa.a:3:1", "aa.a():3:1"));
    }

    private static void completeKeepsEight() {
        Desk x = new Desk();
        x.declare("A{a:A;b:A;c:A;d:A;e:bool;f:int}");
        x.variable("v:A");
        x.variable("w:A");
        due("eight of twelve, whatever their types", x.proposals(A, 1), List.of("v:3:0", "w:3:0", "v.a:3:1",
                "v.b:3:1", "v.c:3:1", "v.d:3:1", "w.a:3:1", "w.b:3:1"));
        due("w.e is not among them", x.proposals(BOOL, 1), List.of("v.e:2:1"));
        due("w.f is not among them", x.proposals(INT, 1), List.of("v.f:0:1"));
        x.desk.forget();
        x.variable("v:A");
        due("eight of each cost", x.proposals(BOOL, 2), List.of("v.e:2:1", "v.a.e:2:2"));
    }

    private static void completeKeptOfKept() {
        Desk x = new Desk();
        x.declare("A{a:int;b:int;c:int;d:int;e:int;f:int}");
        x.declare("B:A{g:int;h:int;z:C}");
        x.declare("C{static s(C):bool;k:bool}");
        x.variable("v:B");
        due("v.z is the ninth, and leads to nothing", x.proposals(BOOL, 3), List.of());
        due("nor is it proposed", x.proposals(C, 3), List.of());
        due("though it is an expression", x.check("C.s(v.z)"), BOOL);
        x.desk.forget();
        x.variable("v:C");
        due("kept ones lead on", x.proposals(BOOL, 3), List.of("C.s(v):2:1", "v.k:2:1"));
    }

    private static void completeLongTexts() {
        Desk x = new Desk();
        x.declare("A{bbbb:B;cc:C;new(B,C);static sss(B,C):D;static ssss(B,C):E}");
        x.variable("aaaa:A");
        due("24 characters", x.proposals(A, 3), List.of("aaaa:3:0", "new A(aaaa.bbbb,aaaa.cc):3:3"));
        due("24 characters", x.proposals(D, 3), List.of("A.sss(aaaa.bbbb,aaaa.cc):6:3"));
        due("25 characters", x.proposals(E, 3), List.of());
        due("25 characters are an expression to check", x.check("A.ssss(aaaa.bbbb,aaaa.cc)"), E);

        Desk y = new Desk();
        y.declare("A{static ssss(A,A):A;x:A;y:A;a:bool}");
        y.variable("aaaa:A");
        due("texts too long take no place: the last one is the eighth", y.proposals(BOOL, 2),
                List.of("aaaa.a:2:1", "A.ssss(aaaa,aaaa).a:2:2", "aaaa.x.a:2:2"));
    }

    private static void completeTenProposals() {
        Desk x = new Desk();
        x.declare("A{a:A;b:A}");
        x.variable("x:A");
        due("the first ten", x.proposals(A, 3), List.of("x:3:0", "x.a:3:1", "x.b:3:1", "x.a.a:3:2", "x.a.b:3:2",
                "x.b.a:3:2", "x.b.b:3:2", "x.a.a.a:3:3", "x.a.a.b:3:3", "x.a.b.a:3:3"));
        due("seven", x.complete(A, 2), 7);
        due("the eighth of seven", x.desk.proposal(7, 0), NONE);
        due("its letters", x.desk.letter(7, 0), 0);
    }

    private static void completeArguments() {
        Desk x = new Desk();
        x.declare("A{}");
        x.declare("B:A{new()}");
        x.declare("C{static s(A,long):D;static t(int):D;static u(long):E}");
        x.variable("a:A");
        x.variable("b:B");
        x.variable("i:int");
        x.variable("l:long");
        x.variable("o:bool");
        due("arguments fit", x.proposals(D, 1), List.of("C.s(a,i):6:1", "C.s(a,l):6:1", "C.s(b,i):6:1",
                "C.s(b,l):6:1", "C.t(i):6:1"));
        due("costs together", x.proposals(D, 2), List.of("C.s(a,i):6:1", "C.s(a,l):6:1", "C.s(b,i):6:1",
                "C.s(b,l):6:1", "C.t(i):6:1", "C.s(new B(),i):6:2", "C.s(new B(),l):6:2"));
        due("what fits is proposed", x.proposals(A, 1), List.of("a:3:0", "b:4:0", "new B():4:1"));
        due("what does not fit is not", x.proposals(B, 1), List.of("b:4:0", "new B():4:1"));
        due("int for long", x.proposals(LONG, 0), List.of("i:0:0", "l:1:0"));
        due("no long for int", x.proposals(INT, 0), List.of("i:0:0"));
    }

    private static void completeWrong() {
        Desk x = new Desk();
        x.variable("a:int");
        due("complete", x.complete(INT, 0), 1);
        int[][] wrong = {{-1, 0}, {13, 0}, {0, -1}, {0, 4}, {Integer.MIN_VALUE, 0}, {0, Integer.MAX_VALUE}, {13, 4}};
        for (int[] pair : wrong) {
            due("complete " + pair[0] + " " + pair[1], x.complete(pair[0], pair[1]), BAD);
            due("the proposals stay", x.proposals(), List.of("a:0:0"));
        }
        due("none instead", x.complete(J, 3), 0);
        due("the proposals have gone", x.proposals(), List.of());
    }

    // Promise 8

    private static Desk deskToCheck() {
        Desk x = new Desk();
        x.declare("A{x:int;m(int):B;static s():A;private p:bool;n(A,long):C}");
        x.declare("B:A{y:long;new(A);static t:B;static u(B,int):C}");
        x.declare("C{new();private static v:int;z:A;x():A;x:B}");
        x.variable("a:A");
        x.variable("b:B");
        x.variable("i:int");
        x.variable("c:C");
        x.variable("newx:D");
        return x;
    }

    private static void check() {
        Desk x = deskToCheck();
        due("variable", x.check("newx"), D);
        due("field", x.check("a.x"), INT);
        due("field of a superclass", x.check("b.x"), INT);
        due("method", x.check("a.m(i)"), B);
        due("method of two", x.check("b.n(b,i)"), C);
        due("static field", x.check("B.t"), B);
        due("static method", x.check("A.s()"), A);
        due("static method of two", x.check("B.u(B.t,i)"), C);
        due("maker", x.check("new C()"), C);
        due("maker with an argument", x.check("new B(b)"), B);
        due("field behind a maker", x.check("new C().z.x"), INT);
        due("method and field of a name", x.check("c.x().x"), INT);
        due("field of that name", x.check("c.x.y"), LONG);
        due("chain", x.check("A.s().m(a.x).n(new B(A.s()),B.t.x).z.m(i).y"), LONG);
        x.put("a.x");
        x.check();
        due("the buffer is empty afterwards", x.check(), BAD);
    }

    private static void checkWrong() {
        Desk x = deskToCheck();
        String[] wrong = {
            "", " ", "z", "1", "A", "new", "new ", "new C", "new C(", "new C)", "newC()", "new  C()", "new new C()",
            "new c()", "new D()", "new A()", "new C(a)", "new B()", "new B(i)", "new B(a,a)", "new C() ", " a", "a ",
            "a.", ".a", "a..x", "a.x.", "a .x", "a. x", "a.z", "a.x()", "a.m", "a.m(", "a.m()", "a.m(i", "a.m(i))",
            "a.m(a)", "a.m(i,i)", "a.m(i)(i)", "a.m (i)", "a.m( i)", "a.m(i )", "a.m(,)", "a.m(i,)", "a.m(,i)",
            "a.n(a,)", "a.n(a)", "a.n(a;i)", "a.n(a, i)", "a.n(i,i)", "a.n(c,i)", "i.x", "newx.x", "a.x.x", "a.s()",
            "b.t", "b.s()", "A.x", "A.m(i)", "A.t", "B.s()", "B.x", "A.s", "A.s(i)", "B.t()", "D.x", "K.x", "A.", "A..s()",
            "a.p", "C.v", "a,b", "(a)", "a()", "i()", "new C().", "new C()()", "a.new", "a.int", "A.new", "new B(new C())",
            "a.abcde", "A.abcde", "a.A", "A.B.t", "a.X", "a.m(i).", "c.x.y.y", "B.u(a,i)", "B.u(b,b.y)", "newy",
            "a.n(", "a.n(a", "a.n(a,", "a.n(a,i", "a.n(i", "a.n(z", "a.n(a,c", "new B(", "new B(b", "new B(i", "B.u(b",
        };
        for (String text : wrong) {
            due("check " + text, x.check(text), BAD);
            due("the buffer is empty after " + text, x.check(), BAD);
        }
        due("check after all these", x.check("a"), A);
    }

    private static void checkSeen() {
        Desk x = new Desk();
        x.declare("A{private x:int;private m():int;private static s():A;private static t:A;private new()}");
        x.declare("B:A{x:bool;private y:long}");
        x.declare("C:B{private x:C;static y:A;z:int}");
        x.variable("a:A");
        x.variable("b:B");
        x.variable("c:C");
        String[] insideA = {"a.x", "a.m()", "b.m()", "c.m()", "A.s()", "A.t", "new A()"};
        int[] types = {INT, INT, INT, INT, A, A, A};
        for (int i = 0; i < insideA.length; i++) {
            x.enter(0);
            due("in A " + insideA[i], x.check(insideA[i]), types[i]);
            x.enter(1);
            due("in B " + insideA[i], x.check(insideA[i]), BAD);
            x.enter(NONE);
            due("at none " + insideA[i], x.check(insideA[i]), BAD);
        }
        due("a private one is passed over", x.check("c.x"), BOOL);
        x.enter(2);
        due("in its class it is the first", x.check("c.x"), C);
        due("in another class it is passed over", x.check("b.x"), BOOL);
        due("static ones hide nothing, but private stays private", x.check("c.y"), BAD);
        x.enter(1);
        due("static ones hide nothing", x.check("c.y"), LONG);
        x.enter(0);
        due("the nearest that may be used", x.check("b.x"), BOOL);
        x.desk.forget();
        due("with the scope as it is", x.check("b.x"), BAD);
    }

    private static void checkDepth() {
        Desk x = new Desk();
        x.declare("A{m(A):A;static s(A):A;static n():A;static t(A,A):A;new(A)}");
        x.declare("B{static i(int):int}");
        x.variable("a:A");
        due("7 deep, nothing within", x.check(nested("B.i(", "", 7)), BAD);
        due("6 deep", x.check(nested("A.s(", "a", 6)), A);
        due("its cost", x.desk.checkedCost(), 6);
        due("7 deep", x.check(nested("A.s(", "a", 7)), BAD);
        due("the cost before", x.desk.checkedCost(), 6);
        due("8 deep", x.check(nested("a.m(", "a", 8)), BAD);
        due("6 deep, methods", x.check(nested("a.m(", "a", 6)), A);
        due("7 deep, methods", x.check(nested("a.m(", "a", 7)), BAD);
        due("6 deep, makers", x.check(nested("new A(", "a", 6)), A);
        due("7 deep, makers", x.check(nested("new A(", "a", 7)), BAD);
        due("20 deep", x.check(nested("A.s(", "a", 20)), BAD);
        due("6 deep, no arguments within", x.check(nested("A.s(", "A.n()", 6)), A);
        due("6 deep in a second argument", x.check("A.t(a," + nested("A.s(", "a", 5) + ")"), A);
        due("7 deep in a second argument", x.check("A.t(a," + nested("A.s(", "a", 6) + ")"), BAD);
        due("behind one another is not deep", x.check("a" + ".m(a)".repeat(20)), A);
        due("its cost", x.desk.checkedCost(), 20);
    }

    private static void checkLong() {
        Desk x = new Desk();
        x.declare("A{x:A}");
        x.variable("aa:A");
        String text = "aa" + ".x".repeat(59);
        due("120 characters", text.length(), 120);
        due("length and cost do not matter", x.check(text), A);
        due("cost 59", x.desk.checkedCost(), 59);
    }

    // Promise 9

    private static void checkedCost() {
        Desk x = deskToCheck();
        due("before", x.desk.checkedCost(), 0);
        x.check("nope");
        due("after one that threw", x.desk.checkedCost(), 0);
        x.check("a.m(a.x).n(new B(A.s()),B.t.x)");
        due("the sum", x.desk.checkedCost(), 7);
        x.check("a.m(a.x).n(new B(A.s()),B.t.x).");
        due("of the latest that threw nothing", x.desk.checkedCost(), 7);
        x.complete(A, 3);
        x.desk.forget();
        x.enter(0);
        due("other calls change nothing", x.desk.checkedCost(), 7);
        x.variable("a:A");
        x.check("a");
        due("a variable", x.desk.checkedCost(), 0);
        x.check("A.s()");
        due("a static method", x.desk.checkedCost(), 1);
    }

    // Promise 10

    private static void fits() {
        Desk x = new Desk();
        x.declare("B{}");
        x.declare("A:B{}");
        x.declare("C:A{}");
        x.declare("D:B{}");
        String[] pairs = {"0,1", "3,4", "5,3", "5,4", "6,4"};
        for (int a = -2; a < 16; a++) {
            for (int b = -2; b < 16; b++) {
                boolean same = a == b && a >= 0 && a < 13;
                boolean want = same || List.of(pairs).contains(a + "," + b);
                due("fits " + a + " " + b, x.desk.fits(a, b), want);
            }
        }
        due("fits lowest", x.desk.fits(Integer.MIN_VALUE, Integer.MIN_VALUE), false);
        due("fits highest", x.desk.fits(Integer.MAX_VALUE, Integer.MAX_VALUE), false);
    }

    // Promises 11 and 12

    private static void proposalAndLetter() {
        Desk x = new Desk();
        x.declare("A{new()}");
        x.variable("abcd:int");
        x.complete(A, 1);
        due("length", x.desk.proposal(0, 0), 7);
        due("cost", x.desk.proposal(0, 1), 1);
        due("type", x.desk.proposal(0, 2), A);
        due("text", x.text(0), "new A()");
        for (int what : new int[] {-1, 3, Integer.MIN_VALUE, Integer.MAX_VALUE}) {
            due("proposal 0 " + what, x.desk.proposal(0, what), NONE);
        }
        for (int i : new int[] {-1, 1, 9, 10, Integer.MIN_VALUE, Integer.MAX_VALUE}) {
            for (int what = 0; what < 3; what++) {
                due("proposal " + i + " " + what, x.desk.proposal(i, what), NONE);
            }
            due("letter " + i, x.desk.letter(i, 0), 0);
        }
        due("letter 0 3, a space", x.desk.letter(0, 3), (int) ' ');
        due("letter 0 6", x.desk.letter(0, 6), (int) ')');
        for (int k : new int[] {-1, 7, 23, 24, 25, 120, Integer.MIN_VALUE, Integer.MAX_VALUE}) {
            due("letter 0 " + k, x.desk.letter(0, k), 0);
        }
        x.variable("a:A");
        x.complete(A, 0);
        due("letters of a short text", x.text(0) + x.desk.letter(0, 1), "a0");
        due("its own type, not the one wanted", x.proposals(LONG, 0), List.of("abcd:0:0"));
        x.desk.forget();
        x.variable("b:int");
        x.complete(LONG, 0);
        due("nothing is left of a longer text", x.desk.letter(0, 1), 0);
    }

    private static void proposalsStay() {
        Desk x = new Desk();
        x.declare("A{private x:int}");
        x.enter(0);
        x.variable("a:A");
        x.complete(INT, 2);
        List<String> due = List.of("a.x:0:1");
        x.desk.forget();
        x.enter(NONE);
        x.declare("B{static i:int}");
        x.variable("b:int");
        x.check("b");
        due("proposals are those of the latest completion", x.proposals(), due);
        due("and of the next one", x.proposals(INT, 1), List.of("b:0:0", "B.i:0:1"));
    }

    // Promise 13

    private static void members() {
        Desk x = new Desk();
        x.declare("A{x:int;private static s():A;new()}");
        x.declare("J:A{}");
        due("members of A", x.desk.members(0), 3);
        due("those of superclasses do not count", x.desk.members(9), 0);
        for (int c : new int[] {-1, 1, 8, 10, Integer.MIN_VALUE, Integer.MAX_VALUE}) {
            due("members of " + c, x.desk.members(c), NONE);
        }
    }

    // Promise 14

    private static void seen() {
        Desk x = new Desk();
        x.declare("A{x:int;private y:int;static z:int;m():int;private n():int;new()}");
        x.declare("B:A{x:long;y:bool;m():int;static n():int;o():int;private z:int}");
        due("fields of A", x.desk.seen(0, 0), 1);
        due("methods of A", x.desk.seen(0, 1), 1);
        due("fields of B", x.desk.seen(1, 0), 2);
        due("methods of B", x.desk.seen(1, 1), 2);
        x.enter(0);
        due("fields of A in A", x.desk.seen(0, 0), 2);
        due("methods of A in A", x.desk.seen(0, 1), 2);
        due("fields of B in A", x.desk.seen(1, 0), 2);
        due("methods of B in A", x.desk.seen(1, 1), 3);
        x.enter(1);
        due("fields of A in B", x.desk.seen(0, 0), 1);
        due("fields of B in B", x.desk.seen(1, 0), 3);
        due("methods of B in B", x.desk.seen(1, 1), 2);
        due("of a class that is not declared", x.desk.seen(9, 0) + x.desk.seen(9, 1), 0);
        for (int what : new int[] {-1, 2, Integer.MIN_VALUE, Integer.MAX_VALUE}) {
            due("seen 0 " + what, x.desk.seen(0, what), NONE);
        }
        for (int c : new int[] {-1, 10, Integer.MIN_VALUE, Integer.MAX_VALUE}) {
            due("seen " + c, x.desk.seen(c, 0), NONE);
            due("seen " + c, x.desk.seen(c, 1), NONE);
        }
    }
}
