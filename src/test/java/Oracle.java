import java.util.ArrayList;
import java.util.Comparator;
import java.util.HashSet;
import java.util.LinkedHashMap;
import java.util.List;
import java.util.Map;
import java.util.Random;
import java.util.Set;
import java.util.TreeMap;
import java.util.regex.Matcher;
import java.util.regex.Pattern;

/** A second reading of the document, in texts and lists, to be slow and plain. */
final class Oracle {
    private static final String TYPE = "(?:int|long|bool|[A-J])";
    private static final String LIST = "((?:" + TYPE + "(?:," + TYPE + ")?)?)";
    private static final Pattern CLASS = Pattern.compile("([A-J])(?::([A-J]))?\\{(.*)\\}");
    private static final Pattern FIELD = Pattern.compile("(private )?(static )?([a-z]{1,4}):(" + TYPE + ")");
    private static final Pattern METHOD =
            Pattern.compile("(private )?(static )?([a-z]{1,4})\\(" + LIST + "\\):(" + TYPE + ")");
    private static final Pattern MAKER = Pattern.compile("(private )?new\\(" + LIST + "\\)");
    private static final Pattern VARIABLE = Pattern.compile("([a-z]{1,4}):(" + TYPE + ")");
    private static final Set<String> NO_NAMES = Set.of("new", "int", "long", "bool");

    private record Member(String owner, char kind, boolean hidden, boolean fixed, String name, List<String> takes,
            String gives) {
    }

    private record Expression(String text, String type, int cost) {
    }

    private final Map<String, List<Member>> classes = new TreeMap<>();
    private final Map<String, String> parents = new TreeMap<>();
    private final Map<String, String> variables = new LinkedHashMap<>();
    private String place = "";
    int checkedCost = 0;

    private static String typeName(int type) {
        return type < 3 ? List.of("int", "long", "bool").get(type) : String.valueOf((char) ('A' + type - 3));
    }

    private static int typeNumber(String type) {
        int small = List.of("int", "long", "bool").indexOf(type);
        return small >= 0 ? small : type.charAt(0) - 'A' + 3;
    }

    private static List<String> types(String list) {
        return list.isEmpty() ? List.of() : List.of(list.split(","));
    }

    int declare(String text) {
        Matcher whole = CLASS.matcher(text);
        if (!whole.matches()) {
            return Desk.ILLEGAL_ARGUMENT;
        }
        String name = whole.group(1);
        String parent = whole.group(2);
        if (parent != null && !classes.containsKey(parent)) {
            return Desk.ILLEGAL_ARGUMENT;
        }
        List<Member> read = new ArrayList<>();
        String[] parts = whole.group(3).isEmpty() ? new String[0] : whole.group(3).split(";", -1);
        Set<String> taken = new HashSet<>();
        for (String part : parts) {
            Member member = member(name, part);
            if (member == null || !taken.add(member.kind + member.name) || !overrides(parent, member)) {
                return Desk.ILLEGAL_ARGUMENT;
            }
            read.add(member);
        }
        if (parts.length > 6) {
            return Desk.ILLEGAL_ARGUMENT;
        }
        if (classes.containsKey(name)) {
            return Desk.ILLEGAL_STATE;
        }
        classes.put(name, read);
        if (parent != null) {
            parents.put(name, parent);
        }
        return read.size();
    }

    private static Member member(String owner, String text) {
        Matcher maker = MAKER.matcher(text);
        if (maker.matches()) {
            return new Member(owner, 'n', maker.group(1) != null, false, "new", types(maker.group(2)), owner);
        }
        Matcher field = FIELD.matcher(text);
        if (field.matches() && !NO_NAMES.contains(field.group(3))) {
            return new Member(owner, 'f', field.group(1) != null, field.group(2) != null, field.group(3), List.of(),
                    field.group(4));
        }
        Matcher method = METHOD.matcher(text);
        if (method.matches() && !NO_NAMES.contains(method.group(3))) {
            return new Member(owner, 'm', method.group(1) != null, method.group(2) != null, method.group(3),
                    types(method.group(4)), method.group(5));
        }
        return null;
    }

    private boolean overrides(String parent, Member method) {
        for (String above = parent; above != null; above = parents.get(above)) {
            for (Member other : classes.get(above)) {
                boolean meant = method.kind == 'm' && other.kind == 'm' && other.name.equals(method.name) && !other.hidden;
                boolean same = other.takes.equals(method.takes) && other.gives.equals(method.gives);
                if (meant && (other.fixed || method.fixed || !same)) {
                    return false;
                }
            }
        }
        return true;
    }

    int variable(String text) {
        if (variables.size() == 5) {
            return Desk.ILLEGAL_STATE;
        }
        Matcher whole = VARIABLE.matcher(text);
        if (!whole.matches() || NO_NAMES.contains(whole.group(1)) || variables.containsKey(whole.group(1))) {
            return Desk.ILLEGAL_ARGUMENT;
        }
        variables.put(whole.group(1), whole.group(2));
        return variables.size();
    }

    void forget() {
        variables.clear();
    }

    int enter(int c) {
        if (c < -1 || c > 9) {
            return Desk.ILLEGAL_ARGUMENT;
        }
        place = c < 0 ? "" : typeName(c + 3);
        return 0;
    }

    int members(int c) {
        boolean known = c >= 0 && c < 10 && classes.containsKey(typeName(c + 3));
        return known ? classes.get(typeName(c + 3)).size() : -1;
    }

    int seen(int c, int what) {
        return c < 0 || c > 9 || what < 0 || what > 1 ? -1 : seen(typeName(c + 3), what == 0 ? 'f' : 'm').size();
    }

    private Map<String, Member> seen(String type, char kind) {
        Map<String, Member> all = new TreeMap<>();
        for (String at = type; at != null; at = parents.get(at)) {
            for (Member member : classes.getOrDefault(at, List.of())) {
                if (member.kind == kind && !member.fixed && usable(member)) {
                    all.putIfAbsent(member.name, member);
                }
            }
        }
        return all;
    }

    private boolean usable(Member member) {
        return !member.hidden || member.owner.equals(place);
    }

    boolean fits(int a, int b) {
        return a >= 0 && a < 13 && b >= 0 && b < 13 && fits(typeName(a), typeName(b));
    }

    private boolean fits(String a, String b) {
        for (String at = a; at != null; at = parents.get(at)) {
            if (at.equals(b)) {
                return true;
            }
        }
        return a.equals("int") && b.equals("long");
    }

    /** The proposals, each as text:type:cost; null when type or most are not as said. */
    List<String> complete(int type, int most) {
        if (type < 0 || type > 12 || most < 0 || most > 3) {
            return null;
        }
        List<Expression> kept = new ArrayList<>();
        for (int cost = 0; cost <= most; cost++) {
            List<Expression> all = cost == 0 ? variableExpressions() : expressions(cost, kept);
            all.removeIf(e -> e.text.length() > 24);
            all.sort(Comparator.comparing(Expression::text));
            kept.addAll(all.subList(0, Math.min(8, all.size())));
        }
        List<String> proposals = new ArrayList<>();
        for (Expression e : kept) {
            if (proposals.size() < 10 && fits(e.type, typeName(type))) {
                proposals.add(e.text + ":" + typeNumber(e.type) + ":" + e.cost);
            }
        }
        return proposals;
    }

    private List<Expression> variableExpressions() {
        List<Expression> all = new ArrayList<>();
        variables.forEach((name, type) -> all.add(new Expression(name, type, 0)));
        return all;
    }

    private List<Expression> expressions(int cost, List<Expression> kept) {
        List<Expression> all = new ArrayList<>();
        for (List<Member> declared : classes.values()) {
            for (Member m : declared) {
                if (usable(m) && (m.fixed || m.kind == 'n')) {
                    String head = m.kind == 'n' ? "new " + m.owner : m.owner + "." + m.name;
                    addUses(all, head, 0, m, cost, kept);
                }
            }
        }
        for (Expression e : kept) {
            for (char kind : new char[] {'f', 'm'}) {
                for (Member m : seen(e.type, kind).values()) {
                    addUses(all, e.text + "." + m.name, e.cost, m, cost, kept);
                }
            }
        }
        return all;
    }

    /** Adds every use of the member that costs exactly so much; spent is the cost of the head. */
    private void addUses(List<Expression> all, String head, int spent, Member m, int cost, List<Expression> kept) {
        List<Expression> lists = List.of(new Expression("", "", spent + 1));
        for (int i = 0; i < m.takes.size(); i++) {
            List<Expression> longer = new ArrayList<>();
            for (Expression list : lists) {
                for (Expression e : kept) {
                    if (fits(e.type, m.takes.get(i)) && list.cost + e.cost <= cost) {
                        longer.add(new Expression(list.text + (i > 0 ? "," : "") + e.text, "", list.cost + e.cost));
                    }
                }
            }
            lists = longer;
        }
        for (Expression list : lists) {
            if (list.cost == cost) {
                all.add(new Expression(m.kind == 'f' ? head : head + "(" + list.text + ")", m.gives, cost));
            }
        }
    }

    /** The text of some expression of at most 120 characters, grown from smaller ones. */
    String someExpression(Random random) {
        List<Expression> pool = variableExpressions();
        List<Member> all = new ArrayList<>();
        classes.values().forEach(all::addAll);
        for (int step = 0; step < 60 && !all.isEmpty(); step++) {
            Member m = all.get(random.nextInt(all.size()));
            Expression e = m.fixed || m.kind == 'n' ? null : some(pool, m.owner, random);
            if (e == null && !m.fixed && m.kind != 'n') {
                continue;
            }
            String head = e != null ? e.text + "." + m.name : m.kind == 'n' ? "new " + m.owner : m.owner + "." + m.name;
            List<String> given = new ArrayList<>();
            for (String type : m.takes) {
                Expression argument = some(pool, type, random);
                given.add(argument == null ? "z" : argument.text);
            }
            String text = m.kind == 'f' ? head : head + "(" + String.join(",", given) + ")";
            if (text.length() <= 120 && !given.contains("z")) {
                pool.add(new Expression(text, m.gives, 0));
            }
        }
        return pool.isEmpty() ? "" : pool.get(Math.max(random.nextInt(pool.size()), random.nextInt(pool.size()))).text;
    }

    /** One of the pool that fits, rather a late one; null when none was met with. */
    private Expression some(List<Expression> pool, String type, Random random) {
        for (int tries = 0; tries < 20 && !pool.isEmpty(); tries++) {
            int one = random.nextInt(pool.size());
            Expression e = pool.get(random.nextBoolean() ? one : Math.max(one, random.nextInt(pool.size())));
            if (fits(e.type, type)) {
                return e;
            }
        }
        return null;
    }

    int check(String text) {
        Expression e = expression(text, 0);
        if (e == null) {
            return Desk.ILLEGAL_ARGUMENT;
        }
        checkedCost = e.cost;
        return typeNumber(e.type);
    }

    /** Takes the text apart from behind: its last part at no parenthesis, then what stands before. */
    private Expression expression(String text, int depth) {
        if (depth > 6) {
            return null;
        }
        if (variables.containsKey(text)) {
            return new Expression(text, variables.get(text), 0);
        }
        int open = text.endsWith(")") ? opening(text) : text.length();
        if (open < 0) {
            return null;
        }
        String head = text.substring(0, open);
        boolean call = open < text.length();
        String inside = call ? text.substring(open + 1, text.length() - 1) : "";
        if (call && head.matches("new [A-J]")) {
            return use(own(head.substring(4), 'n', "new"), inside, 0, depth);
        }
        int dot = head.lastIndexOf('.');
        if (dot < 0) {
            return null;
        }
        String before = head.substring(0, dot);
        String name = head.substring(dot + 1);
        char kind = call ? 'm' : 'f';
        if (before.matches("[A-J]")) {
            Member member = own(before, kind, name);
            return member == null || !member.fixed ? null : use(member, inside, 0, depth);
        }
        Expression e = expression(before, depth);
        return e == null ? null : use(seen(e.type, kind).get(name), inside, e.cost, depth);
    }

    private Member own(String owner, char kind, String name) {
        for (Member member : classes.getOrDefault(owner, List.of())) {
            if (member.kind == kind && member.name.equals(name) && usable(member)) {
                return member;
            }
        }
        return null;
    }

    private static int opening(String text) {
        int open = 0;
        for (int i = text.length() - 1; i >= 0; i--) {
            open += text.charAt(i) == ')' ? 1 : text.charAt(i) == '(' ? -1 : 0;
            if (open == 0) {
                return i;
            }
        }
        return -1;
    }

    private Expression use(Member member, String inside, int before, int depth) {
        if (member == null) {
            return null;
        }
        List<String> parts = split(inside);
        if (parts.size() != member.takes.size()) {
            return null;
        }
        int cost = before + 1;
        for (int i = 0; i < parts.size(); i++) {
            Expression e = expression(parts.get(i), depth + 1);
            if (e == null || !fits(e.type, member.takes.get(i))) {
                return null;
            }
            cost += e.cost;
        }
        return new Expression("", member.gives, cost);
    }

    private static List<String> split(String inside) {
        List<String> parts = new ArrayList<>();
        if (inside.isEmpty()) {
            return parts;
        }
        int open = 0;
        int from = 0;
        for (int i = 0; i < inside.length(); i++) {
            char c = inside.charAt(i);
            open += c == '(' ? 1 : c == ')' ? -1 : 0;
            if (c == ',' && open == 0) {
                parts.add(inside.substring(from, i));
                from = i + 1;
            }
        }
        parts.add(inside.substring(from));
        return parts;
    }
}
