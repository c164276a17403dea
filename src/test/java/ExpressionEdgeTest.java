import java.util.ArrayList;
import java.util.List;

/** 'Terms' from what fits to the proposals, a sentence each: the last that is taken, the first that is not. */
public final class ExpressionEdgeTest extends DeskCase {
    public static void main(String[] args) {
        whatFits();
        whatIsUsed();
        whatIsSeen();
        whatHidesNothing();
        argumentsAreAsMany();
        argumentsFit();
        expressionsAreWithoutSpaces();
        costsAreSums();
        textsOf24();
        textsOfFarMore();
        textsOf25TakeNoPlace();
        keptAreEight();
        keptInWhateverOrderTheyCome();
        keptLeadOn();
        textsByTheirCharacters();
        textsBeforeLongerOnes();
        textsAfterLongerOnes();
        argumentsByTheirCharacters();
        variablesByTheirCharacters();
        proposalsAreTen();
        proposalsByCostThenText();
        VERDICT.end();
    }

    // "A type FITS another one if they are the same, if they are int and long, or ... one of its superclasses."
    private static void whatFits() {
        Desk x = new Desk();
        x.declare("A{}");
        x.declare("B:A{}");
        x.declare("C:B{}");
        x.declare("D:A{}");
        List<String> pairs = List.of("0 1", "4 3", "5 4", "5 3", "6 3");
        for (int a = 0; a < 13; a++) {
            for (int b = 0; b < 13; b++) {
                due("fits " + a + " " + b, x.desk.fits(a, b), a == b || pairs.contains(a + " " + b));
            }
        }
    }

    // "A member may be USED at a place if it is not private, or if the place is the class that declares it."
    private static void whatIsUsed() {
        Desk x = new Desk();
        x.declare("A{m():int}");
        x.declare("B:A{private f:int;private n():int;private static s:int;private static t():int;private new()}");
        x.declare("C:B{g:int}");
        x.variable("b:B");
        x.variable("c:C");
        String[] texts = {"b.f", "c.f", "b.n()", "c.n()", "B.s", "B.t()", "new B().f", "b.m()", "c.g", "c.m()"};
        for (int place = NONE; place < 10; place++) {
            x.enter(place);
            for (int i = 0; i < texts.length; i++) {
                due(texts[i] + " at " + place, x.check(texts[i]), place == 1 || i >= 7 ? INT : BAD);
            }
            due("maker at " + place, x.check("new B()"), place == 1 ? B : BAD);
            due("proposed at " + place, x.proposals(INT, 1).contains("B.s:0:1"), place == 1);
            due("proposed at " + place, x.proposals(INT, 1).contains("b.f:0:1"), place == 1);
            due("fields at " + place, x.desk.seen(1, 0), place == 1 ? 1 : 0);
            due("methods at " + place, x.desk.seen(1, 1), place == 1 ? 2 : 1);
        }
        x.desk.forget();
        x.enter(2);
        due("a maker in a subclass", x.proposals(B, 1), List.of());
        x.enter(1);
        due("a maker in its class", x.proposals(B, 1), List.of("new B():4:1"));
    }

    // "going from it to its superclasses, ... of several with the same name the first one"
    private static void whatIsSeen() {
        Desk x = new Desk();
        x.declare("A{x:int;y:int;m():A}");
        x.declare("B:A{x:long;m:B}");
        x.declare("C:B{x:bool;x():A;m():A}");
        x.variable("a:A");
        x.variable("b:B");
        x.variable("c:C");
        due("of A", x.check("a.x"), INT);
        due("of B", x.check("b.x"), LONG);
        due("of C", x.check("c.x"), BOOL);
        due("that of A", x.check("c.y"), INT);
        due("a method", x.check("c.x()"), A);
        due("fields of A, B, C", x.desk.seen(0, 0) * 100 + x.desk.seen(1, 0) * 10 + x.desk.seen(2, 0), 233);
        due("methods of A, B, C", x.desk.seen(0, 1) * 100 + x.desk.seen(1, 1) * 10 + x.desk.seen(2, 1), 112);
        x.desk.forget();
        x.variable("c:C");
        due("once among the proposals", x.proposals(A, 1), List.of("c:5:0", "c.m:4:1", "c.m():3:1", "c.x():3:1"));
    }

    // "those that are not static and may be used": others hide nothing
    private static void whatHidesNothing() {
        Desk x = new Desk();
        x.declare("A{x:int;y:int;private m():int}");
        x.declare("B:A{static x:long;private y:bool;static m():A;private static z:int}");
        x.variable("b:B");
        due("a static field does not hide", x.check("b.x"), INT);
        due("a private field does not hide", x.check("b.y"), INT);
        due("fields", x.desk.seen(1, 0), 2);
        due("methods", x.desk.seen(1, 1), 0);
        due("no method", x.check("b.m()"), BAD);
        x.enter(1);
        due("in its class it is the first", x.check("b.y"), BOOL);
        due("fields in B", x.desk.seen(1, 0), 2);
        x.enter(0);
        due("a static method does not hide", x.check("b.m()"), INT);
        due("methods in A", x.desk.seen(1, 1), 1);
    }

    // "ARGS are as many expressions as there are types, with , between"
    private static void argumentsAreAsMany() {
        Desk x = new Desk();
        x.declare("A{m():A;static n():A;new()}");
        x.declare("B{m(A):A;static n(A):A;new(A)}");
        x.declare("C{m(A,A):A;static n(A,A):A;new(A,A)}");
        x.variable("a:A");
        x.variable("b:B");
        x.variable("c:C");
        String[] given = {"", "a", "a,a", "a,a,a"};
        for (int takes = 0; takes < 3; takes++) {
            char type = (char) ('A' + takes);
            for (int gives = 0; gives < given.length; gives++) {
                String list = "(" + given[gives] + ")";
                boolean taken = takes == gives;
                due(takes + " wanted " + list, x.check((char) ('a' + takes) + ".m" + list), taken ? A : BAD);
                due(takes + " wanted " + list, x.check(type + ".n" + list), taken ? A : BAD);
                due(takes + " wanted " + list, x.check("new " + type + list), taken ? A + takes : BAD);
            }
        }
        String[] wrong = {"", "(", ")", "(a", "(a,", "(a,a", "(,)", "(a,)", "(,a)", "(a a)", "(a;a)", "(a,a,)", "((a,a))",
            "(a)(a)", "(a,,a)", "[a,a]"};
        for (String list : wrong) {
            due("c.m" + list, x.check("c.m" + list), BAD);
            due("C.n" + list, x.check("C.n" + list), BAD);
            due("new C" + list, x.check("new C" + list), BAD);
        }
    }

    // "each of which fits"
    private static void argumentsFit() {
        Desk x = new Desk();
        x.declare("A{}");
        x.declare("B:A{}");
        x.declare("C{static m(int,long):int;static n(A,B):int;static o(bool):int}");
        String[] names = {"i", "l", "o", "a", "b"};
        String[] types = {"int", "long", "bool", "A", "B"};
        for (int i = 0; i < names.length; i++) {
            x.variable(names[i] + ":" + types[i]);
        }
        List<String> right = List.of("m(i,i)", "m(i,l)", "n(a,b)", "n(b,b)");
        for (String method : new String[] {"m", "n"}) {
            for (String first : names) {
                for (String second : names) {
                    String use = method + "(" + first + "," + second + ")";
                    due("C." + use, x.check("C." + use), right.contains(use) ? INT : BAD);
                }
            }
        }
        for (String name : names) {
            due("C.o(" + name + ")", x.check("C.o(" + name + ")"), name.equals("o") ? INT : BAD);
        }
        List<String> want = List.of("i:0:0", "C.m(i,i):0:1", "C.m(i,l):0:1", "C.n(a,b):0:1", "C.n(b,b):0:1", "C.o(o):0:1");
        due("those that fit are completed", x.proposals(INT, 1), want);
    }

    // "(Texts are without spaces, but behind new.)"
    private static void expressionsAreWithoutSpaces() {
        Desk x = new Desk();
        x.declare("A{x:A;m(A,A):A;new(A,A);static s:A}");
        x.variable("a:A");
        String text = "new A(a.x,A.s.m(a,new A(a,a))).m(a,a).x";
        due(text, x.check(text), A);
        for (int at = 0; at <= text.length(); at++) {
            due("a space at " + at, x.check(text.substring(0, at) + " " + text.substring(at)), BAD);
            if (at < text.length() && text.charAt(at) == ' ') {
                due("no space at " + at, x.check(text.substring(0, at) + text.substring(at + 1)), BAD);
            }
        }
        x.desk.forget();
        due("rendered likewise", x.proposals(A, 3), List.of("A.s:3:1", "A.s.x:3:2", "A.s.x.x:3:3", "new A(A.s,A.s):3:3"));
    }

    // "a variable, cost 0"; "The cost is 1 more than those of E and the arguments together."
    private static void costsAreSums() {
        Desk x = new Desk();
        x.declare("A{x:A;m(A,A):A;n():A;new(A);static s:A;static t(A,A):A}");
        x.variable("a:A");
        String[] texts = {"a", "a.x", "a.n()", "A.s", "new A(a)", "a.m(a,a)", "A.t(a,a)", "a.x.x", "new A(a.x)",
            "new A(a).x", "A.t(a.x,a)", "A.t(a,a.x)", "A.t(a.x,a.x)", "a.x.m(a,a)", "a.x.m(a.x,A.s).x",
            "A.t(A.t(a,a),A.t(A.s,a.n()))"};
        int[] costs = {0, 1, 1, 1, 1, 1, 1, 2, 2, 2, 2, 2, 3, 2, 5, 5};
        for (int i = 0; i < texts.length; i++) {
            due(texts[i], x.check(texts[i]), A);
            due("cost of " + texts[i], x.desk.checkedCost(), costs[i]);
        }
    }

    /** A desk with these declarations (they have braces) and variables, all of which it takes. */
    private static Desk deskOf(String... texts) {
        Desk x = new Desk();
        for (String text : texts) {
            due(text, (text.endsWith("}") ? x.declare(text) : x.variable(text)) >= 0, true);
        }
        return x;
    }

    // "A text has at most 24 characters." (to check, "the length and cost do not matter")
    private static void textsOf24() {
        dueUpTo24(deskOf("A{bbbb(B,C):B}", "B{eeee:D}", "aaa:A", "aaaa:A", "cccc:B", "dddd:C"),
                "aaa.bbbb(cccc,dddd).eeee", "aaaa.bbbb(cccc,dddd).eeee", 2);
        dueUpTo24(deskOf("A{bbbb:B}", "B{cccc(C,C):D}", "aaa:A", "aaaa:A", "dddd:C"),
                "aaa.bbbb.cccc(dddd,dddd)", "aaaa.bbbb.cccc(dddd,dddd)", 2);
        dueUpTo24(deskOf("A{bbbb():B}", "B{cccc():C}", "C{dddd():D}", "aaa:A", "aaaa:A"),
                "aaa.bbbb().cccc().dddd()", "aaaa.bbbb().cccc().dddd()", 3);
        dueUpTo24(deskOf("A{bbb():B;static ssss(C):D}", "B{cccc():C}", "aaa:A", "aaaa:A"),
                "A.ssss(aaa.bbb().cccc())", "A.ssss(aaaa.bbb().cccc())", 3);
        dueUpTo24(deskOf("A{static ssss(B,C):D;bb:B}", "E{dddd:C}", "aaa:A", "aaaa:A", "cccc:E"),
                "A.ssss(aaa.bb,cccc.dddd)", "A.ssss(aaaa.bb,cccc.dddd)", 3);
        dueUpTo24(deskOf("A{bbbb:B}", "D{new(B,C)}", "E{ccc:C}", "aaa:A", "aaaa:A", "eeee:E"),
                "new D(aaa.bbbb,eeee.ccc)", "new D(aaaa.bbbb,eeee.ccc)", 3);
        dueUpTo24(deskOf("A{new(B,C);ffff:F}", "F{ddd:D}", "bbb:B", "bbbb:B", "cccc:C"),
                "new A(bbb,cccc).ffff.ddd", "new A(bbbb,cccc).ffff.ddd", 3);
        dueUpTo24(deskOf("A{bbbb:B}", "B{cccc():C}", "D{new(C,E)}", "aaa:A", "aaaa:A", "e:E"),
                "new D(aaa.bbbb.cccc(),e)", "new D(aaaa.bbbb.cccc(),e)", 3);
        dueUpTo24(deskOf("A{bbbb:B}", "B{cccc():C}", "D{new(E,C)}", "aaa:A", "aaaa:A", "e:E"),
                "new D(e,aaa.bbbb.cccc())", "new D(e,aaaa.bbbb.cccc())", 3);
    }

    // "A text has at most 24 characters.": up to 31 of them, behind an E of 19 .. 24
    private static void textsOfFarMore() {
        for (int length = 19; length <= 24; length++) {
            String argument = "dddd".substring(0, Math.min(4, length - 18));
            String field = "eee".substring(0, length - 17 - argument.length());
            String e = "aaaa.bbbb(cccc," + argument + ")." + field;
            due("length of " + e, e.length(), length);
            for (int letters = 1; letters <= 4; letters++) {
                String last = "." + "ffff".substring(0, letters);
                Desk x = deskOf("A{bbbb(B,C):D}", "D{" + field + ":E}", "aaaa:A", "cccc:B", argument + ":C");
                x.declare("E{" + last.substring(1) + ":F;" + last.substring(1) + "():G}");
                due(e, x.proposals(E, 2), List.of(e + ":7:2"));
                boolean taken = length + 1 + letters <= 24;
                due(e + last, x.proposals(F, 3), taken ? List.of(e + last + ":8:3") : List.of());
                taken = length + 3 + letters <= 24;
                due(e + last + "()", x.proposals(G, 3), taken ? List.of(e + last + "():9:3") : List.of());
                due("to check", x.check(e + last + "()"), G);
            }
        }
    }

    /** Both texts are of type D; the second one, of 25 characters, is for check alone. */
    private static void dueUpTo24(Desk x, String taken, String tooLong, int cost) {
        due("length of " + taken, taken.length(), 24);
        due("length of " + tooLong, tooLong.length(), 25);
        List<String> dearest = new ArrayList<>(x.proposals(D, cost));
        dearest.removeIf(t -> !t.endsWith(":" + cost));
        due("of 24 and of 25 characters", dearest, List.of(taken + ":6:" + cost));
        due("check " + taken, x.check(taken), D);
        due("its cost", x.desk.checkedCost(), cost);
        due("check " + tooLong, x.check(tooLong), D);
        due("its cost", x.desk.checkedCost(), cost);
    }

    // "A text has at most 24 characters.": a longer one is none of the first eight
    private static void textsOf25TakeNoPlace() {
        String[] classes = {"I{a:int;b:int;c:int;d:int;e:int;f:int}", "H:I{g:int;h:J}", "G{g:H}", "F{f:G}", "aaaa:A", "v:F"};
        Desk x = deskOf("A{static ssss(B,C):D;bbbb:B;cc:C}");
        Desk y = deskOf("A{static sss(B,C):D;bbbb:B;cc:C}");
        for (String text : classes) {
            due(text, text.endsWith("}") ? x.declare(text) == y.declare(text) : x.variable(text) == y.variable(text), true);
        }
        due("25 characters before eight others", x.proposals(D, 3), List.of());
        due("the last of the eight", x.proposals(J, 3), List.of("v.f.g.h:12:3"));
        due("24 characters before eight others", y.proposals(D, 3), List.of("A.sss(aaaa.bbbb,aaaa.cc):6:3"));
        due("the last of the eight is the ninth now", y.proposals(J, 3), List.of());
    }

    // "the first eight by their texts of all expressions of cost c", for each cost
    private static void keptAreEight() {
        String six = "I{a:int;b:int;c:int;d:int;e:int;f:int}";
        String[] starts = {"v", "v.g", "v.f.g"};
        for (int cost = 1; cost <= 3; cost++) {
            String variable = "v:" + "HGF".charAt(cost - 1);
            String start = starts[cost - 1];
            Desk eight = deskOf(six, "H:I{g:int;h:J}", "G{g:H}", "F{f:G}", variable);
            due("the eighth of cost " + cost, eight.proposals(J, cost), List.of(start + ".h:12:" + cost));
            due("seven beside it", eight.complete(INT, cost), 7);
            Desk nine = deskOf(six, "H:I{g:int;h:int;i:J}", "G{g:H}", "F{f:G}", variable);
            due("the ninth of cost " + cost, nine.proposals(J, cost), List.of());
            due("eight without it", nine.complete(INT, cost), 8);
            due("the last of them", nine.text(7), start + ".h");
            due("it is an expression for all that", nine.check(start + ".i"), J);
            Desk before = deskOf(six, "H:I{g:int;h:J;aa:int}", "G{g:H}", "F{f:G}", variable);
            due("the eighth becomes the ninth", before.proposals(J, cost), List.of());
            due("one comes before it", before.complete(INT, cost), 8);
            due("the second of them", before.text(1), start + ".aa");
        }
    }

    // "the first eight by their texts", not by their declarations
    private static void keptInWhateverOrderTheyCome() {
        String[][] orders = {
            {"abc", "defghi"}, {"abc", "defgih"}, {"abc", "ihgfed"}, {"ghi", "abcdef"}, {"ghi", "fedcba"}, {"ihg", "fedcba"},
            {"iab", "cdefgh"}, {"aib", "hcgdfe"}, {"hia", "bcdefg"}, {"bcd", "efghia"}, {"bcd", "efghai"}, {"cba", "ihgfed"},
        };
        for (String[] order : orders) {
            Desk x = deskOf("I{" + fields(order[1]) + "}", "H:I{" + fields(order[0]) + "}", "v:H");
            due("eight of nine", x.proposals(INT, 1), List.of("v.a:0:1", "v.b:0:1", "v.c:0:1", "v.d:0:1", "v.e:0:1",
                    "v.f:0:1", "v.g:0:1", "v.h:0:1"));
        }
    }

    /** A field of type int for each letter. */
    private static String fields(String letters) {
        return String.join(":int;", letters.split("")) + ":int";
    }

    // "whose E and arguments are kept ones"
    private static void keptLeadOn() {
        String[] six = {"I{a:int;b:int;c:int;d:int;e:int;f:int}", "J{x:D;static s(J):C;m(J):B}"};
        Desk eight = deskOf(six[0], six[1], "H:I{g:int;h:J}", "v:H");
        due("E is the eighth", eight.proposals(D, 2), List.of("v.h.x:6:2"));
        due("the argument is the eighth", eight.proposals(C, 2), List.of("J.s(v.h):5:2"));
        due("both cost together", eight.proposals(B, 2), List.of());
        Desk nine = deskOf(six[0], six[1], "H:I{g:int;h:int;i:J}", "v:H");
        due("E is the ninth", nine.proposals(D, 3), List.of());
        due("the argument is the ninth", nine.proposals(C, 3), List.of());
        due("the ninth to check", nine.check("J.s(v.i)"), C);
        due("the ninth to check", nine.check("v.i.m(v.i)"), B);
        due("at its cost", nine.desk.checkedCost(), 3);
    }

    // "(Texts by the numbers of their characters, from the first on; a text before those that begin with it.)"
    private static void textsByTheirCharacters() {
        Desk x = deskOf("A{xa:A;x():A;x:A;new();static n:A}", "newa:A", "ne:A");
        due("space, ( , . , capitals, letters", x.proposals(A, 1), List.of("ne:3:0", "newa:3:0", "A.n:3:1", "ne.x:3:1",
                "ne.x():3:1", "ne.xa:3:1", "new A():3:1", "newa.x:3:1", "newa.x():3:1", "newa.xa:3:1"));
    }

    // "a text before those that begin with it", whichever came first
    private static void textsBeforeLongerOnes() {
        String[] members = {"x:int", "x():int", "xa:int", "xz():int", "xzz:int"};
        for (int first = 0; first < members.length; first++) {
            for (int step = 1; step < members.length; step++) {
                List<String> order = new ArrayList<>();
                for (int i = 0; i < members.length; i++) {
                    order.add(members[(first + i * step) % members.length]);
                }
                Desk x = deskOf("A{" + String.join(";", order) + "}", "v:A");
                due("declared as " + order, x.proposals(INT, 1),
                        List.of("v.x:0:1", "v.x():0:1", "v.xa:0:1", "v.xz():0:1", "v.xzz:0:1"));
            }
        }
    }

    // likewise, whatever an earlier completion left behind
    private static void textsAfterLongerOnes() {
        Desk x = deskOf("zzza:int", "zzzb:int", "zzzc:int", "zzzd:int", "zzze:int");
        due("five of four letters", x.complete(INT, 0), 5);
        x.desk.forget();
        for (String name : new String[] {"b", "a", "ab", "aba", "abab"}) {
            x.variable(name + ":int");
        }
        due("shorter ones", x.proposals(INT, 0), List.of("a:0:0", "ab:0:0", "aba:0:0", "abab:0:0", "b:0:0"));
    }

    private static void argumentsByTheirCharacters() {
        Desk x = deskOf("A{static s(A,A):A;x:A}", "a:A");
        due(") before , before .", x.proposals(A, 2), List.of("a:3:0", "A.s(a,a):3:1", "a.x:3:1", "A.s(A.s(a,a),a):3:2",
                "A.s(a,A.s(a,a)):3:2", "A.s(a,a).x:3:2", "A.s(a,a.x):3:2", "A.s(a.x,a):3:2", "a.x.x:3:2"));
    }

    private static void variablesByTheirCharacters() {
        Desk x = deskOf("z:int", "b:int", "aa:int", "a:int", "aaaa:int");
        due("not as they were put in", x.proposals(INT, 0), List.of("a:0:0", "aa:0:0", "aaaa:0:0", "b:0:0", "z:0:0"));
    }

    // "the first ten"
    private static void proposalsAreTen() {
        String[] lists = {"x:int;y:int", "x:int;y:int;z:int", "w:int;x:int;y:int;z:int"};
        for (int i = 0; i < lists.length; i++) {
            Desk x = deskOf("I{a:int;b:int;c:int;d:int;e:int;f:int}", "H:I{g:int;h:G}", "G{" + lists[i] + "}", "v:H");
            int want = Math.min(9 + i, 10);
            due("seven, and " + (2 + i), x.complete(INT, 2), want);
            due("the last one", x.text(want - 1), i == 0 ? "v.h.y" : i == 1 ? "v.h.z" : "v.h.y");
            due("behind it", x.desk.proposal(want, 0), NONE);
            due("letters behind it", x.desk.letter(want, 0), 0);
        }
    }

    // "PROPOSALS are those kept whose types fit the one wanted, by cost, then by text"
    private static void proposalsByCostThenText() {
        Desk x = deskOf("A{}", "B:A{x:A;new();static s:int}", "z:B", "y:A", "i:int", "l:long");
        due("A", x.proposals(A, 2), List.of("y:3:0", "z:4:0", "new B():4:1", "z.x:3:1", "new B().x:3:2"));
        due("B", x.proposals(B, 2), List.of("z:4:0", "new B():4:1"));
        due("long", x.proposals(LONG, 3), List.of("i:0:0", "l:1:0", "B.s:0:1"));
        due("int", x.proposals(INT, 3), List.of("i:0:0", "B.s:0:1"));
        due("bool", x.proposals(BOOL, 3), List.of());
    }
}
