import java.util.ArrayList;
import java.util.List;

/** 'Terms' up to SCOPE, a sentence each: the last that is taken, the first that is refused, what follows. */
public final class TermsEdgeTest extends DeskCase {
    private static final String[] NAMES = {
        "a", "z", "m", "az", "za", "zzz", "aaaa", "zzzz", "n", "ne", "nev", "nex", "mew", "neww", "newa", "anew", "news",
        "in", "inu", "ins", "hint", "ints", "lon", "lonf", "lonh", "kong", "boo", "boom", "cool", "bol", "abcd",
    };
    private static final String[] NO_NAMES = {
        "", "aaaaa", "zzzzz", "abcda", "xabcd", "aaaaaaaa", "new", "int", "long", "bool", "aaaaint", "xlong",
        "A", "Aa", "aA", "a1", "1", "1a", "_", "a_", "`", "a`", "{", "a{", "@", "[", "a a", " a", "a ", "a-b", "a:",
        "private", "static", "a.a", "a,a", "~",
    };

    public static void main(String[] args) {
        bufferHolds120();
        bufferEndsWhereItsTextDoes();
        bufferFullWithinAWord();
        bufferTakes32To126();
        typesAreThirteen();
        namesAreTaken();
        otherWordsAreNoNames();
        declarationsAreOfTenClasses();
        declarationsAreWithoutSpaces();
        superclassesAreDeclaredBefore();
        membersAreSixAtMost();
        membersStandApart();
        typesAreTwoAtMost();
        wordsBeforeMembers();
        noTwoFields();
        noTwoMethods();
        noTwoMakers();
        classesNotDeclared();
        superclassesGoOn();
        methodsOfSuperclasses();
        methodsOfPrivateSuperclassMethods();
        variablesAreFive();
        variablesHaveNamesOfTheirOwn();
        VERDICT.end();
    }

    // "THE BUFFER holds at most 120 characters"
    private static void bufferHolds120() {
        for (int n = 1; n <= 4; n++) {
            Desk x = new Desk();
            due("fill", x.put(" ".repeat(120 - n)), true);
            due(n + " to 120", x.desk.put(0x61616161, n), true);
            for (int more = 1; more <= 4; more++) {
                due("120 and " + more, x.desk.put(0x61616161, more), false);
            }
            Desk y = new Desk();
            due("fill", y.put(" ".repeat(121 - n)), true);
            due(n + " to 121", y.desk.put(0x61616161, n), false);
            due("the room is still there for " + (n - 1), n == 1 || y.desk.put(0x61616161, n - 1), true);
            due("now it is full", y.desk.put(0x61, 1), false);
        }
        Desk x = new Desk();
        x.declare("A{x:A;y:int}");
        x.variable("abcd:A");
        String text = "abcd" + ".x".repeat(58);
        due("120 characters", x.put(text), true);
        due("one more", x.desk.put('.', 1), false);
        due("all 120 are used, and no more", x.check(), A);
        due("119 characters", x.put(text.substring(0, 118) + "."), true);
        due("two more", x.desk.put('y' << 8 | 'y', 2), false);
        due("one more", x.desk.put('y', 1), true);
        due("nothing of the two was put", x.check(), INT);
    }

    // "its text is a declaration": what earlier texts left behind the end is no part of it
    private static void bufferEndsWhereItsTextDoes() {
        String declaration = "B{private static aa(long,long):long;private static bb(long,bool):bool;"
                + "static cc(long,long):bool;d(long,long):bool;new()}";
        for (int end = 0; end < declaration.length(); end++) {
            Desk x = new Desk();
            due("whole", x.declare(declaration), 5);
            due("cut off at " + end, x.declare(declaration.substring(0, end)), BAD);
        }
        String expression = "new A(a,new A(a,b.x)).m(a,a).x.m(b,A.s())";
        for (int end = 0; end < expression.length(); end++) {
            Desk fresh = deskWithMaker();
            Desk x = deskWithMaker();
            due("whole", x.check(expression), A);
            String part = expression.substring(0, end);
            due("cut off at " + end, x.check(part), fresh.check(part));
        }
    }

    private static Desk deskWithMaker() {
        Desk x = new Desk();
        x.declare("A{x:A;m(A,A):A;new(A,A);static s():A}");
        x.variable("a:A");
        x.variable("b:A");
        return x;
    }

    // "at most 120 characters": a word that is cut off by the end of a full buffer
    private static void bufferFullWithinAWord() {
        String start = "A{aaaa(long,long):long;bbbb(long,long):long;cccc(long,long):long;dddd(long,long):long;";
        for (String word : new String[] {"private ", "static ", "new("}) {
            for (int length = 1; length <= word.length(); length++) {
                String text = start + method(119 - start.length() - length) + ";" + word.substring(0, length);
                due("120 characters", text.length(), 120);
                due("declare " + text, new Desk().declare(text), BAD);
            }
        }
        for (int length = 1; length <= 4; length++) {
            int rest = 116 - length;
            String middle = rest % 2 == 0 ? ".x".repeat(rest / 2) : ".m(a)" + ".x".repeat((rest - 5) / 2);
            String text = "a" + middle + ".m(" + "new ".substring(0, length);
            Desk x = new Desk();
            x.declare("A{x:A;m(A):A;new()}");
            x.variable("a:A");
            due("120 characters", text.length(), 120);
            due("check " + text, x.check(text), BAD);
        }
    }

    /** A method whose declaration has so many characters (25 .. 32). */
    private static String method(int length) {
        String start = length <= 28 ? "private " : "private static ";
        int left = length - start.length() - "(long,long):".length();
        String type = left <= 5 ? "A" : left <= 7 ? "int" : "long";
        return start + "eeee".substring(0, left - type.length()) + "(long,long):" + type;
    }

    // "32 .. 126"
    private static void bufferTakes32To126() {
        for (int c = 0; c < 256; c++) {
            Desk x = new Desk();
            boolean want = c >= 32 && c <= 126;
            for (int n = 1; n <= 4; n++) {
                for (int at = 0; at < n; at++) {
                    int others = 0x61616161 & ~(255 << 8 * at);
                    due("put " + c + " at " + at + " of " + n, x.desk.put(others | c << 8 * at, n), want);
                }
            }
            if (!want) {
                due("nothing was put of " + c, x.variable("a:int"), 1);
            }
        }
    }

    // "TYPES are int, long, bool and the classes A .. J (numbers 0, 1, 2 and 3 .. 12)"
    private static void typesAreThirteen() {
        String[] types = {"int", "long", "bool", "A", "B", "C", "D", "E", "F", "G", "H", "I", "J"};
        for (int type = 0; type < types.length; type++) {
            Desk x = new Desk();
            due("variable of " + types[type], x.variable("v:" + types[type]), 1);
            due("its number", x.check("v"), type);
            due("field of it", x.declare("A{static f:" + types[type] + ";static m():" + types[type] + "}"), 2);
            due("its number", x.check("A.f"), type);
            due("method of it", x.check("A.m()"), type);
            due("taking it", x.declare("B{static m(" + types[type] + "):bool;new(" + types[type] + ")}"), 2);
            due("taking it", x.check("B.m(v)"), BOOL);
            due("making with it", x.check("new B(v)"), B);
        }
        String[] none = {"", "K", "@", "Z", "a", "j", "in", "inta", "intt", "lon", "longs", "boo", "bools", "boolean",
            "new", "Int", "AA", "A A", "int ", " int", "short", "0", "3"};
        for (String type : none) {
            Desk x = new Desk();
            due("variable of " + type, x.variable("v:" + type), BAD);
            due("field of " + type, x.declare("A{v:" + type + "}"), BAD);
            due("method of " + type, x.declare("A{v():" + type + "}"), BAD);
            due("second type " + type, x.declare("A{v(int," + type + "):int}"), BAD);
            due("maker of " + type, x.declare("A{new(int," + type + ")}"), BAD);
            due("none of them is declared", x.desk.members(0), NONE);
            due("there is no variable", x.variable("v:int"), 1);
        }
    }

    // "NAMES are 1 to 4 letters a .. z"
    private static void namesAreTaken() {
        for (String name : NAMES) {
            Desk x = new Desk();
            due("variable " + name, x.variable(name + ":int"), 1);
            due("check " + name, x.check(name), INT);
            due("field " + name, x.declare("A{" + name + ":int;static " + name + "():bool;new()}"), 3);
            due("method " + name, x.declare("B{" + name + "():int;private static " + name + ":int;new()}"), 3);
            due("static field " + name, x.declare("C{static " + name + ":long}"), 1);
            due("check field " + name, x.check("new A()." + name), INT);
            due("check method " + name, x.check("new B()." + name + "()"), INT);
            due("check static field " + name, x.check("C." + name), LONG);
            due("check static method " + name, x.check("A." + name + "()"), BOOL);
        }
    }

    // "but not new, int, long, bool", and nothing longer, shorter or of other characters
    private static void otherWordsAreNoNames() {
        for (String name : NO_NAMES) {
            Desk x = new Desk();
            due("variable " + name, x.variable(name + ":int"), BAD);
            due("field " + name, x.declare("A{" + name + ":int}"), BAD);
            due("static field " + name, x.declare("A{static " + name + ":int}"), BAD);
            due("private field " + name, x.declare("A{private " + name + ":int}"), BAD);
            due("method " + name, x.declare("A{" + name + "():int}"), BAD);
            due("nothing is declared", x.desk.members(0), NONE);
            x.declare("A{a:int;aaaa:int;abcd:int;aaaa():int}");
            x.variable("v:A");
            due("field " + name, x.check("v." + name), BAD);
            due("method " + name, x.check("v." + name + "()"), BAD);
            due("static field " + name, x.check("A." + name), BAD);
            due("expression " + name, x.check(name), BAD);
            due("the names that are there", x.check("v.aaaa()"), INT);
        }
    }

    // "A DECLARATION: the class": A .. J
    private static void declarationsAreOfTenClasses() {
        Desk x = new Desk();
        for (char c = 'A'; c <= 'J'; c++) {
            due("declare " + c, x.declare(c + "{}"), 0);
            due("members of " + c, x.desk.members(c - 'A'), 0);
        }
        for (String c : new String[] {"@", "K", "a", "j", "", "AB", "int", "I{}J", "*"}) {
            due("declare " + c, x.declare(c + "{}"), BAD);
        }
    }

    // "(without spaces, but those said)"
    private static void declarationsAreWithoutSpaces() {
        String text = "B:A{private x:int;private static y:A;static m(int,B):long;private new(A);n():J;private o():A}";
        Desk x = new Desk();
        x.declare("A{}");
        for (int at = 0; at <= text.length(); at++) {
            due("a space at " + at, x.declare(text.substring(0, at) + " " + text.substring(at)), BAD);
            if (at < text.length() && text.charAt(at) == ' ') {
                due("no space at " + at, x.declare(text.substring(0, at) + text.substring(at + 1)), BAD);
            }
        }
        due("not declared so far", x.desk.members(1), NONE);
        due("those said", x.declare(text), 6);
        Desk y = new Desk();
        for (int at = 0; at <= 5; at++) {
            due("a space in a variable", y.variable("v:int".substring(0, at) + " " + "v:int".substring(at)), BAD);
        }
        due("none", y.variable("v:int"), 1);
    }

    // "perhaps : and its SUPERCLASS (a class declared before)"
    private static void superclassesAreDeclaredBefore() {
        Desk x = new Desk();
        due("itself", x.declare("A:A{}"), BAD);
        due("none there yet", x.declare("B:A{}"), BAD);
        due("still not declared", x.desk.members(0) + x.desk.members(1), 2 * NONE);
        due("a refused one does not count", x.declare("A{a}"), BAD);
        due("so it is not there yet", x.declare("B:A{}"), BAD);
        due("declared", x.declare("A{x:int}"), 1);
        due("now it is there", x.declare("B:A{}"), 0);
        due("a later letter", x.declare("D{}"), 0);
        due("before an earlier one", x.declare("C:D{}"), 0);
        due("no class", x.declare("E:{}"), BAD);
        due("no class", x.declare("E:K{}"), BAD);
        due("a type that is no class", x.declare("E:int{}"), BAD);
        due("two superclasses", x.declare("E:A:B{}"), BAD);
        due("two superclasses", x.declare("E:A,B{}"), BAD);
        due("two letters", x.declare("E:AB{}"), BAD);
        due("not declared", x.desk.members(4), NONE);
        due("what is declared later is no superclass of it", x.desk.fits(B, D), false);
        due("the superclass", x.desk.fits(B, A), true);
    }

    // "0 to 6 MEMBERS"
    private static void membersAreSixAtMost() {
        String[] kinds = {"%s:int", "private static %s:int", "%s():int", "static %s(A,A):A"};
        for (int kind = 0; kind < kinds.length; kind++) {
            for (int count = 0; count <= 8; count++) {
                Desk x = new Desk();
                List<String> members = new ArrayList<>();
                for (int i = 0; i < count; i++) {
                    members.add(kinds[kind].replace("%s", String.valueOf((char) ('a' + i))));
                }
                String text = "A{" + String.join(";", members) + "}";
                if (text.length() > 120) {
                    continue;
                }
                boolean taken = count <= 6;
                due("declare " + text, x.declare(text), taken ? count : BAD);
                due("its members", x.desk.members(0), taken ? count : NONE);
                due("declare once more", x.declare("A{}"), taken ? STATE : 0);
            }
        }
        Desk x = new Desk();
        due("a maker is a member: seven", x.declare("A{a:A;b:A;c:A;d:A;e:A;f:A;new()}"), BAD);
        due("six", x.declare("A{a:A;b:A;c:A;d:A;e:A;new()}"), 6);
        due("those of a superclass do not count", x.declare("B:A{a:A;b:A;c:A;d:A;e:A;f:A}"), 6);
        due("seven below it", x.declare("C:B{a:A;b:A;c:A;d:A;e:A;f:A;g:A}"), BAD);
        due("six fields and a method", x.declare("C{a:A;b:A;c:A;d:A;e:A;f:A;a():A}"), BAD);
        due("an empty seventh", x.declare("C{a:A;b:A;c:A;d:A;e:A;f:A;}"), BAD);
        due("the seventh is not there", x.declare("C{a:A;b:A;c:A;d:A;e:A;f:A;"), BAD);
        due("no brace", x.declare("C{a:A;b:A;c:A;d:A;e:A;f:A"), BAD);
        due("not declared", x.desk.members(2), NONE);
    }

    // "with ; between, }"
    private static void membersStandApart() {
        String[] wrong = {"A{;}", "A{a:A;}", "A{;a:A}", "A{a:A;;b:A}", "A{a:Ab:A}", "A{a:A,b:A}", "A{a:A b:A}", "A{a:A",
            "A{a:A;", "A{", "A{}}", "A{}A{}", "A{}B{}", "A{}a", "{}", "A}", "A(a:A)", "A[a:A]", "A{new()new()}", "A"};
        Desk x = new Desk();
        for (String text : wrong) {
            due("declare " + text, x.declare(text), BAD);
            due("not declared", x.desk.members(0), NONE);
        }
        due("two", x.declare("A{a:A;b:A}"), 2);
    }

    // "0 to 2 types with , between"
    private static void typesAreTwoAtMost() {
        String[] lists = {"", "int", "int,long", "int,long,bool", "int,long,bool,A"};
        for (int count = 0; count < lists.length; count++) {
            boolean taken = count <= 2;
            for (String start : new String[] {"", "private ", "static ", "private static "}) {
                Desk x = new Desk();
                due("method of " + count, x.declare("A{" + start + "m(" + lists[count] + "):int}"), taken ? 1 : BAD);
                due("its members", x.desk.members(0), taken ? 1 : NONE);
            }
            for (String start : new String[] {"", "private "}) {
                Desk x = new Desk();
                due("maker of " + count, x.declare("A{" + start + "new(" + lists[count] + ")}"), taken ? 1 : BAD);
                due("its members", x.desk.members(0), taken ? 1 : NONE);
            }
        }
        String[] wrong = {",", "int,", ",int", "int,,int", "int;int", "int int", "intint", "AB", "int,long,"};
        for (String list : wrong) {
            Desk x = new Desk();
            due("method of " + list, x.declare("A{m(" + list + "):int}"), BAD);
            due("maker of " + list, x.declare("A{new(" + list + ")}"), BAD);
        }
        for (String list : new String[] {"", "int", "int,", "int,long", "int,long,", "int,long,bool"}) {
            Desk x = new Desk();
            due("method of (" + list, x.declare("A{m(" + list + ":int}"), BAD);
            due("maker of (" + list, x.declare("A{new(" + list + "}"), BAD);
        }
    }

    // "perhaps private and a space, then a FIELD: perhaps static and a space"; a maker has no static and no type
    private static void wordsBeforeMembers() {
        String[] right = {"x:A", "private x:A", "static x:A", "private static x:A", "x():A", "private x():A", "static x():A",
            "private static x():A", "new()", "private new()"};
        String[] wrong = {"static private x:A", "private private x:A", "static static x:A", "private  x:A", "static  x:A",
            " private x:A", "privatex:A", "staticx:A", "private", "static", "private ", "static ", "private static ",
            "static new()", "private static new()", "static private new()", "private private new()", "new():A", "new:A",
            "new", "new(", "new)", "new ()", "x()", "x():", "x(:A", "x):A", "x:", "x", ":A", "():A", "x:A()", "x::A",
            "public x:A", "Private x:A", "PRIVATE x:A", "Static x:A", "privat x:A", "stati x:A", "New()"};
        for (String member : right) {
            due("member " + member, new Desk().declare("A{" + member + "}"), 1);
        }
        for (String member : wrong) {
            Desk x = new Desk();
            due("member " + member, x.declare("A{" + member + "}"), BAD);
            due("second member " + member, x.declare("A{a:A;" + member + "}"), BAD);
            due("not declared", x.desk.members(0), NONE);
        }
    }

    // "no two fields of the same name"
    private static void noTwoFields() {
        for (String other : new String[] {"x:int", "x:A", "private x:int", "static x:int", "private static x:bool"}) {
            Desk x = new Desk();
            due("x and " + other, x.declare("A{x:int;" + other + "}"), BAD);
            due(other + " first", x.declare("A{" + other + ";y:int;x:int}"), BAD);
            due("not declared", x.desk.members(0), NONE);
            due("a field and a method", x.declare("A{" + other + ";x():int}"), 2);
            due("one of a superclass", x.declare("B:A{" + other + ";y:int}"), 2);
        }
        due("another name", new Desk().declare("A{x:int;xx:int;xxx:int;xxxx:int;y:int;yx:int}"), 6);
    }

    // "no two methods"
    private static void noTwoMethods() {
        for (String other : new String[] {"m():int", "m(int):int", "m():A", "private m():int", "static m():int"}) {
            Desk x = new Desk();
            due("m and " + other, x.declare("A{m():int;" + other + "}"), BAD);
            due(other + " first", x.declare("A{" + other + ";m:int;m():int}"), BAD);
            due("not declared", x.desk.members(0), NONE);
            due("a method and a field", x.declare("A{" + other + ";m:int}"), 2);
        }
        due("another name", new Desk().declare("A{m():int;mm():int;mmm():int;mmmm():int}"), 4);
    }

    // "no two makers"
    private static void noTwoMakers() {
        for (String other : new String[] {"new()", "new(int)", "new(A,A)", "private new()"}) {
            Desk x = new Desk();
            due("new and " + other, x.declare("A{new();" + other + "}"), BAD);
            due(other + " last", x.declare("A{" + other + ";x:int;new()}"), BAD);
            due("not declared", x.desk.members(0), NONE);
            due("one", x.declare("A{x:int;" + other + "}"), 2);
            due("one of a superclass", x.declare("B:A{" + other + "}"), 1);
        }
    }

    // "A class that is not declared has no superclass and no members."
    private static void classesNotDeclared() {
        Desk x = new Desk();
        x.declare("A{b:B;m(B):int;x:int}");
        x.variable("a:A");
        due("members", x.desk.members(1), NONE);
        due("seen", x.desk.seen(1, 0) + x.desk.seen(1, 1), 0);
        due("it is a type", x.check("a.b"), B);
        due("it has no field", x.check("a.b.x"), BAD);
        due("it has no method", x.check("a.b.m(a.b)"), BAD);
        due("it has no static field", x.check("B.x"), BAD);
        due("it has no static method", x.check("B.m()"), BAD);
        due("it has no maker", x.check("new B()"), BAD);
        due("it fits itself", x.desk.fits(B, B), true);
        due("it fits no other", x.desk.fits(B, A), false);
        due("it is an argument", x.check("a.m(a.b)"), INT);
        due("it is completed", x.proposals(B, 3), List.of("a.b:4:1"));
        due("declared", x.declare("B:A{new()}"), 1);
        due("now it fits", x.desk.fits(B, A), true);
        due("now it has a field", x.check("a.b.x"), INT);
        due("now it has a maker", x.check("new B().b.b.x"), INT);
        due("now it sees", x.desk.seen(1, 0) + x.desk.seen(1, 1), 3);
    }

    // "SUPERCLASSES of a class are its superclass, that one's, and so on."
    private static void superclassesGoOn() {
        Desk x = new Desk();
        due("the last letter", x.declare("J{x:int;m():J}"), 2);
        for (char c = 'I'; c >= 'A'; c--) {
            due("declare " + c, x.declare(c + ":" + (char) (c + 1) + "{}"), 0);
        }
        x.variable("a:A");
        for (int type = A; type <= J; type++) {
            due("A fits " + type, x.desk.fits(A, type), true);
            due(type + " fits A", x.desk.fits(type, A), type == A);
            due(type + " fits J", x.desk.fits(type, J), true);
            due("fields of it", x.desk.seen(type - A, 0), 1);
            due("methods of it", x.desk.seen(type - A, 1), 1);
        }
        due("a field ten classes up", x.check("a.x"), INT);
        due("a method ten classes up", x.check("a.m().m()"), J);
        due("proposed", x.proposals(J, 1), List.of("a:3:0", "a.m():12:1"));
    }

    // "only if neither is static and all their types are the same"
    private static void methodsOfSuperclasses() {
        String above = "m(int,A):B";
        String[] wrong = {"static m(int,A):B", "m(int,A):A", "m(int,A):int", "m(long,A):B", "m(int,B):B", "m(int):B",
            "m():B", "m(A,int):B", "m(int,int):B", "private m(int,A):A", "private static m(int,A):B", "private m():B"};
        for (String method : wrong) {
            Desk x = new Desk();
            x.declare("A{" + above + "}");
            due("below " + above + " " + method, x.declare("B:A{" + method + "}"), BAD);
            due("not declared", x.desk.members(1), NONE);
            x.declare("B:A{x:int}");
            due("two below", x.declare("C:B{y:int;" + method + "}"), BAD);
            due("not declared", x.desk.members(2), NONE);
            due("not below", x.declare("C{" + method + "}"), 1);
        }
        Desk x = new Desk();
        x.declare("A{" + above + ";static s():int}");
        due("static and not", x.declare("B:A{s():int}"), BAD);
        due("both static", x.declare("B:A{static s():int}"), BAD);
        due("fields do not matter", x.declare("B:A{s:int;static m:int}"), 2);
        due("the same", x.declare("C:B{" + above + "}"), 1);
        due("the same, private", x.declare("D:C{private " + above + "}"), 1);
        due("below a private one, which is not the only one", x.declare("E:D{m():int}"), BAD);
        due("the same", x.declare("E:D{" + above + "}"), 1);
    }

    // "(that is not private)"
    private static void methodsOfPrivateSuperclassMethods() {
        for (String above : new String[] {"private m(int):A", "private static m(int):A"}) {
            String[] right = {"m(int):A", "m():int", "static m(int):A", "private m(A,A):A", "private static m(int):A"};
            for (String method : right) {
                Desk x = new Desk();
                x.declare("A{" + above + "}");
                due("below " + above + " " + method, x.declare("B:A{" + method + "}"), 1);
            }
        }
    }

    // "at most 5 VARIABLES"
    private static void variablesAreFive() {
        Desk x = new Desk();
        for (int i = 1; i <= 5; i++) {
            due("variable " + i, x.variable((char) ('a' + i) + ":int"), i);
        }
        due("a sixth", x.variable("a:int"), STATE);
        due("it is none", x.check("a"), BAD);
        due("five are proposed", x.proposals(INT, 3), List.of("b:0:0", "c:0:0", "d:0:0", "e:0:0", "f:0:0"));
    }

    // "no two of the same name"
    private static void variablesHaveNamesOfTheirOwn() {
        Desk x = new Desk();
        due("a", x.variable("a:int"), 1);
        due("a again", x.variable("a:int"), BAD);
        due("a of another type", x.variable("a:long"), BAD);
        due("aa", x.variable("aa:long"), 2);
        due("aaa", x.variable("aaa:A"), 3);
        due("aaaa", x.variable("aaaa:B"), 4);
        due("aaaa again", x.variable("aaaa:B"), BAD);
        due("aaab", x.variable("aaab:C"), 5);
        String[] names = {"a", "aa", "aaa", "aaaa", "aaab"};
        int[] types = {INT, LONG, A, B, C};
        for (int i = 0; i < names.length; i++) {
            due("type of " + names[i], x.check(names[i]), types[i]);
        }
    }
}
