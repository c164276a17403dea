/**
 * A desk that completes: from the declarations of classes, the values in scope and a type that is
 * wanted, it finds the cheapest expressions that are well typed and may be written there, renders
 * them, and checks any expression that it is given.
 */
public final class ChainDesk {
    public static final int NONE = -1;

    private static final int CLASSES = 10;
    private static final int TYPES = 13;
    private static final int INT = 0;
    private static final int LONG = 1;
    private static final int BOOL = 2;
    private static final int FIRST_CLASS = 3;

    private static final int BUFFER_SIZE = 120;
    private static final int MOST_MEMBERS = 6;
    private static final int MOST_PARAMETERS = 2;
    private static final int MOST_VARIABLES = 5;
    private static final int MOST_COST = 3;
    private static final int MOST_KEPT = 8;
    private static final int MOST_PROPOSALS = 10;
    private static final int DEEPEST_ARGUMENT = 6;
    private static final int TEXT_SIZE = 24;

    // A name is held in one int, a byte for each letter, so that names are compared at once.
    private static final int LONGEST_NAME = 4;
    private static final int NO_NAME = 0;
    private static final int WORD_NEW = 'n' << 16 | 'e' << 8 | 'w';
    private static final int WORD_INT = 'i' << 16 | 'n' << 8 | 't';
    private static final int WORD_LONG = 'l' << 24 | 'o' << 16 | 'n' << 8 | 'g';
    private static final int WORD_BOOL = 'b' << 24 | 'o' << 16 | 'o' << 8 | 'l';

    private final Buffer buffer = new Buffer();
    private final Catalog catalog = new Catalog();
    private final Scope scope = new Scope();
    private final DeclarationReader declarations = new DeclarationReader(buffer, catalog);
    private final ExpressionReader expressions = new ExpressionReader(buffer, catalog, scope);
    private final Completer completer = new Completer(catalog, scope);
    private int latestCost;

    public ChainDesk() {
        latestCost = 0;
    }

    public boolean put(int word, int n) {
        return buffer.append(word, n);
    }

    public int declare() throws IllegalArgumentException, IllegalStateException {
        Declaration read = declarations.readHead();
        boolean whole = read != null && declarations.readMembers(read) && buffer.isAtEnd();
        buffer.clear();
        if (!whole) {
            throw new IllegalArgumentException();
        }
        if (!catalog.add(read)) {
            throw new IllegalStateException();
        }
        return read.count;
    }

    public int variable() throws IllegalArgumentException, IllegalStateException {
        boolean full = scope.isFull();
        boolean added = !full && readVariable();
        buffer.clear();
        if (full) {
            throw new IllegalStateException();
        }
        if (!added) {
            throw new IllegalArgumentException();
        }
        return scope.count;
    }

    public void forget() {
        scope.count = 0;
    }

    public void enter(int c) throws IllegalArgumentException {
        if (c != NONE && !isClass(c)) {
            throw new IllegalArgumentException();
        }
        catalog.place = c;
    }

    public int complete(int type, int most) throws IllegalArgumentException {
        if (!isType(type) || most < 0 || most > MOST_COST) {
            throw new IllegalArgumentException();
        }
        completer.keepVariables();
        for (int cost = 1; cost <= most; cost++) {
            completer.keepOfCost(cost);
        }
        return completer.propose(type, most);
    }

    public int check() throws IllegalArgumentException {
        int type = expressions.read();
        buffer.clear();
        if (type == NONE) {
            throw new IllegalArgumentException();
        }
        latestCost = expressions.cost;
        return type;
    }

    public int checkedCost() {
        return latestCost;
    }

    public boolean fits(int a, int b) {
        return isType(a) && isType(b) && catalog.isFitting(a, b);
    }

    public int proposal(int i, int what) {
        Phrase phrase = completer.proposed(i);
        if (phrase == null) {
            return NONE;
        }
        switch (what) {
            case 0:
                return phrase.length;
            case 1:
                return phrase.cost;
            case 2:
                return phrase.type;
            default:
                return NONE;
        }
    }

    public int letter(int i, int k) {
        Phrase phrase = completer.proposed(i);
        return phrase == null ? 0 : phrase.letterAt(k);
    }

    public int members(int c) {
        Declaration declaration = catalog.declared(c);
        return declaration == null ? NONE : declaration.count;
    }

    public int seen(int c, int what) {
        if (!isClass(c) || what < 0 || what > 1) {
            return NONE;
        }
        return catalog.countSeen(c, what == 0 ? Kind.FIELD : Kind.METHOD);
    }

    private boolean readVariable() {
        int name = buffer.takeName();
        if (name == NO_NAME || !buffer.take(':')) {
            return false;
        }
        int type = buffer.takeType();
        return type != NONE && buffer.isAtEnd() && scope.add(name, type);
    }

    private static boolean isClass(int c) {
        return c >= 0 && c < CLASSES;
    }

    private static boolean isType(int type) {
        return type >= 0 && type < TYPES;
    }

    private enum Kind { FIELD, METHOD, MAKER }

    /** What has been put, and how far it has been read. */
    private static final class Buffer {
        private final char[] letters = new char[BUFFER_SIZE];
        private int length;
        private int position;

        boolean append(int word, int n) {
            if (n < 1 || n > 4 || n > BUFFER_SIZE - length) {
                return false;
            }
            for (int i = 0; i < n; i++) {
                int c = word >> 8 * (n - 1 - i) & 255;
                if (c < 32 || c > 126) {
                    return false;
                }
                // What lies behind length does not count, so a later refusal changes nothing.
                letters[length + i] = (char) c;
            }
            length += n;
            return true;
        }

        void clear() {
            length = 0;
            position = 0;
        }

        boolean isAtEnd() {
            return position == length;
        }

        boolean isAt(char c) {
            return position < length && letters[position] == c;
        }

        boolean take(char c) {
            if (!isAt(c)) {
                return false;
            }
            position++;
            return true;
        }

        boolean takeText(String text) {
            if (text.length() > length - position) {
                return false;
            }
            for (int i = 0; i < text.length(); i++) {
                if (letters[position + i] != text.charAt(i)) {
                    return false;
                }
            }
            position += text.length();
            return true;
        }

        int takeClass() {
            if (position == length || !isClass(letters[position] - 'A')) {
                return NONE;
            }
            return letters[position++] - 'A';
        }

        int takeType() {
            int c = takeClass();
            if (c != NONE) {
                return FIRST_CLASS + c;
            }
            switch (takeWord()) {
                case WORD_INT:
                    return INT;
                case WORD_LONG:
                    return LONG;
                case WORD_BOOL:
                    return BOOL;
                default:
                    return NONE;
            }
        }

        int takeName() {
            int word = takeWord();
            switch (word) {
                case WORD_NEW:
                case WORD_INT:
                case WORD_LONG:
                case WORD_BOOL:
                    return NO_NAME;
                default:
                    return word;
            }
        }

        private int takeWord() {
            int start = position;
            int word = 0;
            for (; position < length; position++) {
                char c = letters[position];
                if (c < 'a' || c > 'z') {
                    break;
                }
                word = word << 8 | c;
            }
            return position - start <= LONGEST_NAME ? word : NO_NAME;
        }
    }

    /** A field, a method or a maker (a maker has no name, and its class as its type). */
    private static final class Member {
        private final Kind kind;
        private final boolean isPrivate;
        private final boolean isStatic;
        private final int name;
        private final int[] parameters = new int[MOST_PARAMETERS];
        private int count;
        private int type;

        Member(Kind kind, boolean isPrivate, boolean isStatic, int name) {
            this.kind = kind;
            this.isPrivate = isPrivate;
            this.isStatic = isStatic;
            this.name = name;
        }

        void addParameter(int parameter) {
            if (count < parameters.length) {
                parameters[count] = parameter;
                count++;
            }
        }

        boolean isNamed(Kind otherKind, int otherName) {
            return kind == otherKind && name == otherName;
        }

        boolean hasTypesOf(Member other) {
            if (type != other.type || count != other.count) {
                return false;
            }
            for (int i = 0; i < count; i++) {
                if (parameters[i] != other.parameters[i]) {
                    return false;
                }
            }
            return true;
        }
    }

    /** A class that is declared, or is about to be; its parent was declared before it. */
    private static final class Declaration {
        private final int number;
        private final Declaration parent;
        private final Member[] rows = new Member[MOST_MEMBERS];
        private int count;

        Declaration(int number, Declaration parent) {
            this.number = number;
            this.parent = parent;
        }

        boolean add(Member member) {
            if (count == rows.length) {
                return false;
            }
            rows[count] = member;
            count++;
            return true;
        }

        Member find(Kind kind, int name) {
            for (int i = 0; i < count; i++) {
                if (rows[i].isNamed(kind, name)) {
                    return rows[i];
                }
            }
            return null;
        }

        boolean allows(Member member) {
            if (find(member.kind, member.name) != null) {
                return false;
            }
            return member.kind != Kind.METHOD || allowsOverride(member);
        }

        private boolean allowsOverride(Member method) {
            for (Declaration above = parent; above != null; above = above.parent) {
                Member other = above.find(Kind.METHOD, method.name);
                if (other != null && !other.isPrivate
                        && (other.isStatic || method.isStatic || !method.hasTypesOf(other))) {
                    return false;
                }
            }
            return true;
        }
    }

    /** The classes that are declared, and what of them may be used at the place. */
    private static final class Catalog {
        private final Declaration[] declarations = new Declaration[CLASSES];
        // For each type, a bit for each type that it fits: completing asks for it very often.
        private final int[] fitted = new int[TYPES];
        private int place = NONE;

        Catalog() {
            for (int type = 0; type < TYPES; type++) {
                fitted[type] = 1 << type;
            }
            fitted[INT] |= 1 << LONG;
        }

        boolean add(Declaration declaration) {
            if (declared(declaration.number) != null) {
                return false;
            }
            declarations[declaration.number] = declaration;
            Declaration parent = declaration.parent;
            if (parent != null) {
                fitted[FIRST_CLASS + declaration.number] |= fitted[FIRST_CLASS + parent.number];
            }
            return true;
        }

        Declaration declared(int c) {
            return c >= 0 && c < declarations.length ? declarations[c] : null;
        }

        boolean isFitting(int type, int wanted) {
            return (fitted[type] >> wanted & 1) == 1;
        }

        boolean isUsable(Declaration owner, Member member) {
            return !member.isPrivate || owner.number == place;
        }

        /** The field or method of that name that is seen of class c, null when there is none. */
        Member findSeen(int c, Kind kind, int name) {
            for (Declaration d = declared(c); d != null; d = d.parent) {
                Member member = d.find(kind, name);
                if (member != null && !member.isStatic && isUsable(d, member)) {
                    return member;
                }
            }
            return null;
        }

        boolean isSeen(int c, Member member) {
            return member.kind != Kind.MAKER && findSeen(c, member.kind, member.name) == member;
        }

        int countSeen(int c, Kind kind) {
            int seenOnes = 0;
            for (Declaration d = declared(c); d != null; d = d.parent) {
                for (int i = 0; i < d.count; i++) {
                    if (d.rows[i].kind == kind && isSeen(c, d.rows[i])) {
                        seenOnes++;
                    }
                }
            }
            return seenOnes;
        }

        /** The static field or method that class c itself declares, null when none may be used. */
        Member findStatic(int c, Kind kind, int name) {
            Member member = findOwn(c, kind, name);
            return member != null && member.isStatic ? member : null;
        }

        Member findMaker(int c) {
            return findOwn(c, Kind.MAKER, NO_NAME);
        }

        private Member findOwn(int c, Kind kind, int name) {
            Declaration owner = declared(c);
            if (owner == null) {
                return null;
            }
            Member member = owner.find(kind, name);
            return member != null && isUsable(owner, member) ? member : null;
        }
    }

    /** The variables. */
    private static final class Scope {
        private final int[] names = new int[MOST_VARIABLES];
        private final int[] types = new int[MOST_VARIABLES];
        private int count;

        boolean isFull() {
            return count == MOST_VARIABLES;
        }

        boolean add(int name, int type) {
            if (isFull() || typeOf(name) != NONE) {
                return false;
            }
            names[count] = name;
            types[count] = type;
            count++;
            return true;
        }

        int typeOf(int name) {
            for (int i = 0; i < count; i++) {
                if (names[i] == name) {
                    return types[i];
                }
            }
            return NONE;
        }
    }

    /** Reads a declaration from the buffer, changing nothing else. */
    private static final class DeclarationReader {
        private final Buffer text;
        private final Catalog catalog;

        DeclarationReader(Buffer text, Catalog catalog) {
            this.text = text;
            this.catalog = catalog;
        }

        /** Reads up to the opening brace; null when no declaration begins so. */
        Declaration readHead() {
            int number = text.takeClass();
            boolean isBelow = number != NONE && text.take(':');
            Declaration parent = isBelow ? catalog.declared(text.takeClass()) : null;
            if (number == NONE || isBelow && parent == null || !text.take('{')) {
                return null;
            }
            return new Declaration(number, parent);
        }

        /** Reads what follows the opening brace, the closing one included. */
        boolean readMembers(Declaration declaration) {
            if (text.take('}')) {
                return true;
            }
            for (int i = 0; i < MOST_MEMBERS; i++) {
                if (!readMember(declaration)) {
                    return false;
                }
                if (!text.take(';')) {
                    return text.take('}');
                }
            }
            return false;
        }

        private boolean readMember(Declaration declaration) {
            boolean isPrivate = text.takeText("private ");
            Member member = text.takeText("new(")
                    ? readMaker(isPrivate, declaration.number) : readNamed(isPrivate);
            return member != null && declaration.allows(member) && declaration.add(member);
        }

        private Member readMaker(boolean isPrivate, int number) {
            Member maker = new Member(Kind.MAKER, isPrivate, false, NO_NAME);
            maker.type = FIRST_CLASS + number;
            return readParameters(maker) ? maker : null;
        }

        private Member readNamed(boolean isPrivate) {
            boolean isStatic = text.takeText("static ");
            int name = text.takeName();
            if (name == NO_NAME) {
                return null;
            }
            boolean isMethod = text.take('(');
            Kind kind = isMethod ? Kind.METHOD : Kind.FIELD;
            Member member = new Member(kind, isPrivate, isStatic, name);
            if (isMethod && !readParameters(member) || !text.take(':')) {
                return null;
            }
            member.type = text.takeType();
            return member.type == NONE ? null : member;
        }

        /** Reads what follows the opening parenthesis, the closing one included. */
        private boolean readParameters(Member member) {
            if (text.take(')')) {
                return true;
            }
            for (int i = 0; i < MOST_PARAMETERS; i++) {
                int type = text.takeType();
                if (type == NONE) {
                    return false;
                }
                member.addParameter(type);
                if (!text.take(',')) {
                    return text.take(')');
                }
            }
            return false;
        }
    }

    /** Reads an expression from the buffer, and sums up its cost. */
    private static final class ExpressionReader {
        private final Buffer text;
        private final Catalog catalog;
        private final Scope scope;
        private int cost;

        ExpressionReader(Buffer text, Catalog catalog, Scope scope) {
            this.text = text;
            this.catalog = catalog;
            this.scope = scope;
        }

        /** The type of the expression, NONE when the buffer's text is no expression. */
        int read() {
            cost = 0;
            int type = readExpression(0);
            return text.isAtEnd() ? type : NONE;
        }

        private int readExpression(int depth) {
            if (depth > DEEPEST_ARGUMENT) {
                return NONE;
            }
            int type = readHead(depth);
            for (int i = 0; i < BUFFER_SIZE && type != NONE && text.take('.'); i++) {
                type = readSelection(type, depth);
            }
            return type;
        }

        private int readHead(int depth) {
            if (text.takeText("new ")) {
                return readUse(catalog.findMaker(text.takeClass()), depth);
            }
            int c = text.takeClass();
            if (c == NONE) {
                return scope.typeOf(text.takeName());
            }
            if (!text.take('.')) {
                return NONE;
            }
            int name = text.takeName();
            return readUse(catalog.findStatic(c, kindAhead(), name), depth);
        }

        private int readSelection(int type, int depth) {
            int name = text.takeName();
            return readUse(catalog.findSeen(type - FIRST_CLASS, kindAhead(), name), depth);
        }

        private Kind kindAhead() {
            return text.isAt('(') ? Kind.METHOD : Kind.FIELD;
        }

        private int readUse(Member member, int depth) {
            if (member == null) {
                return NONE;
            }
            cost++;
            if (member.kind != Kind.FIELD && !readArguments(member, depth)) {
                return NONE;
            }
            return member.type;
        }

        private boolean readArguments(Member member, int depth) {
            if (!text.take('(')) {
                return false;
            }
            for (int i = 0; i < member.count; i++) {
                if (i > 0 && !text.take(',')) {
                    return false;
                }
                int type = readExpression(depth + 1);
                if (type == NONE || !catalog.isFitting(type, member.parameters[i])) {
                    return false;
                }
            }
            return text.take(')');
        }
    }

    /** An expression with its text, type and cost, or the beginning of one. */
    private static final class Phrase {
        // One letter more than a text may have tells a text that is too long; the rest is dropped.
        private final char[] letters = new char[TEXT_SIZE + 1];
        private int length;
        private int type;
        private int cost;

        void add(char c) {
            if (length < letters.length) {
                letters[length] = c;
                length++;
            }
        }

        void addText(String text) {
            for (int i = 0; i < text.length(); i++) {
                add(text.charAt(i));
            }
        }

        void addName(int name) {
            for (int shift = 24; shift >= 0; shift -= 8) {
                int c = name >> shift & 255;
                if (c != 0) {
                    add((char) c);
                }
            }
        }

        void addClass(int c) {
            add((char) ('A' + c));
        }

        void addPhrase(Phrase other) {
            int taken = Math.min(other.length, letters.length - length);
            System.arraycopy(other.letters, 0, letters, length, taken);
            length += taken;
        }

        void copyFrom(Phrase other) {
            System.arraycopy(other.letters, 0, letters, 0, other.length);
            length = other.length;
            type = other.type;
            cost = other.cost;
        }

        boolean isTooLong() {
            return length > TEXT_SIZE;
        }

        boolean isBefore(Phrase other) {
            for (int i = 0; i < length && i < other.length; i++) {
                if (letters[i] != other.letters[i]) {
                    return letters[i] < other.letters[i];
                }
            }
            return length < other.length;
        }

        int letterAt(int k) {
            return k >= 0 && k < length ? letters[k] : 0;
        }
    }

    /** The kept expressions of one cost, in the order of their texts. */
    private static final class Shelf {
        private final Phrase[] rows = new Phrase[MOST_KEPT];
        private int count;

        Shelf() {
            for (int i = 0; i < rows.length; i++) {
                rows[i] = new Phrase();
            }
        }

        /** Whether the text, or a longer one that begins with it, could still be kept. */
        boolean hasRoomFrom(Phrase beginning) {
            if (beginning.isTooLong()) {
                return false;
            }
            return count < rows.length || beginning.isBefore(rows[rows.length - 1]);
        }

        void keep(Phrase phrase) {
            if (!hasRoomFrom(phrase)) {
                return;
            }
            if (count < rows.length) {
                count++;
            }
            int at = count - 1;
            Phrase spare = rows[at];
            for (; at > 0 && phrase.isBefore(rows[at - 1]); at--) {
                rows[at] = rows[at - 1];
            }
            rows[at] = spare;
            spare.copyFrom(phrase);
        }
    }

    /** Finds the kept expressions, and the proposals among them. */
    private static final class Completer {
        private final Catalog catalog;
        private final Scope scope;
        private final Shelf[] shelves = new Shelf[MOST_COST + 1];
        private final Phrase[] proposals = new Phrase[MOST_PROPOSALS];
        private final Phrase draft = new Phrase();
        private Shelf target;
        private int proposalCount;

        Completer(Catalog catalog, Scope scope) {
            this.catalog = catalog;
            this.scope = scope;
            for (int cost = 0; cost < shelves.length; cost++) {
                shelves[cost] = new Shelf();
            }
            target = shelves[0];
        }

        void keepVariables() {
            startShelf(0);
            for (int i = 0; i < scope.count; i++) {
                draft.length = 0;
                draft.addName(scope.names[i]);
                draft.type = scope.types[i];
                target.keep(draft);
            }
        }

        /** Wants the expressions of all lower costs to be kept already. */
        void keepOfCost(int cost) {
            startShelf(cost);
            for (int c = 0; c < CLASSES; c++) {
                keepOfClass(c, cost - 1);
            }
            for (int spent = 0; spent < cost; spent++) {
                Shelf shelf = shelves[spent];
                for (int i = 0; i < shelf.count; i++) {
                    keepSelections(shelf.rows[i], cost - 1 - spent);
                }
            }
        }

        int propose(int type, int most) {
            proposalCount = 0;
            for (int cost = 0; cost <= most; cost++) {
                Shelf shelf = shelves[cost];
                for (int i = 0; i < shelf.count && proposalCount < MOST_PROPOSALS; i++) {
                    if (catalog.isFitting(shelf.rows[i].type, type)) {
                        proposals[proposalCount] = shelf.rows[i];
                        proposalCount++;
                    }
                }
            }
            return proposalCount;
        }

        /** Null when there is no such proposal. */
        Phrase proposed(int i) {
            return i >= 0 && i < proposalCount ? proposals[i] : null;
        }

        private void startShelf(int cost) {
            target = shelves[cost];
            target.count = 0;
            draft.cost = cost;
        }

        /** Makers and static members; the arguments are to cost exactly what is left. */
        private void keepOfClass(int c, int left) {
            Declaration owner = catalog.declared(c);
            if (owner == null) {
                return;
            }
            for (int i = 0; i < owner.count; i++) {
                Member member = owner.rows[i];
                boolean isMaker = member.kind == Kind.MAKER;
                if ((isMaker || member.isStatic) && catalog.isUsable(owner, member)) {
                    draft.length = 0;
                    if (isMaker) {
                        draft.addText("new ");
                        draft.addClass(c);
                    } else {
                        draft.addClass(c);
                        draft.add('.');
                        draft.addName(member.name);
                    }
                    keepUses(member, left);
                }
            }
        }

        /** Fields and methods of an expression; the arguments are to cost exactly what is left. */
        private void keepSelections(Phrase expression, int left) {
            draft.length = 0;
            draft.addPhrase(expression);
            draft.add('.');
            if (!target.hasRoomFrom(draft)) {
                return;
            }
            int mark = draft.length;
            int c = expression.type - FIRST_CLASS;
            for (Declaration d = catalog.declared(c); d != null; d = d.parent) {
                for (int i = 0; i < d.count; i++) {
                    Member member = d.rows[i];
                    if (catalog.isSeen(c, member)) {
                        draft.length = mark;
                        draft.addName(member.name);
                        keepUses(member, left);
                    }
                }
            }
        }

        private void keepUses(Member member, int left) {
            draft.type = member.type;
            if (member.kind != Kind.FIELD) {
                draft.add('(');
                keepCalls(member, 0, left);
            } else if (left == 0) {
                target.keep(draft);
            }
        }

        /** The draft has the arguments before the given one. */
        private void keepCalls(Member member, int given, int left) {
            // Most beginnings come too late or are too long: what they lead to is passed over.
            if (!target.hasRoomFrom(draft)) {
                return;
            }
            if (given >= member.count) {
                if (left == 0) {
                    draft.add(')');
                    target.keep(draft);
                }
                return;
            }
            if (given > 0) {
                draft.add(',');
            }
            int mark = draft.length;
            // Each later argument takes two characters at least, the closing parenthesis one.
            int room = TEXT_SIZE - mark - 2 * (member.count - given - 1) - 1;
            boolean isLast = given + 1 == member.count;
            for (int cost = isLast ? left : 0; cost <= left; cost++) {
                Shelf shelf = shelves[cost];
                for (int i = 0; i < shelf.count; i++) {
                    Phrase argument = shelf.rows[i];
                    if (argument.length <= room
                            && catalog.isFitting(argument.type, member.parameters[given])) {
                        draft.length = mark;
                        draft.addPhrase(argument);
                        keepCalls(member, given + 1, left - cost);
                    }
                }
            }
        }
    }
}
