import java.util.ArrayList;
import java.util.List;

/** A ChainDesk that is spoken to in texts; an exception becomes an answer of its own. */
final class Desk {
    static final int ILLEGAL_ARGUMENT = -101;
    static final int ILLEGAL_STATE = -102;

    final ChainDesk desk = new ChainDesk();

    /** Puts the whole text, four characters at a time; false when one part of it was refused. */
    boolean put(String text) {
        boolean all = true;
        for (int from = 0; from < text.length(); from += 4) {
            String part = text.substring(from, Math.min(from + 4, text.length()));
            all &= desk.put(word(part), part.length());
        }
        return all;
    }

    static int word(String part) {
        int word = 0;
        for (int i = 0; i < part.length(); i++) {
            word = word << 8 | part.charAt(i);
        }
        return word;
    }

    int declare(String text) {
        put(text);
        return declare();
    }

    int declare() {
        try {
            return desk.declare();
        } catch (IllegalArgumentException e) {
            return ILLEGAL_ARGUMENT;
        } catch (IllegalStateException e) {
            return ILLEGAL_STATE;
        }
    }

    int variable(String text) {
        put(text);
        return variable();
    }

    int variable() {
        try {
            return desk.variable();
        } catch (IllegalArgumentException e) {
            return ILLEGAL_ARGUMENT;
        } catch (IllegalStateException e) {
            return ILLEGAL_STATE;
        }
    }

    int enter(int c) {
        try {
            desk.enter(c);
            return 0;
        } catch (IllegalArgumentException e) {
            return ILLEGAL_ARGUMENT;
        }
    }

    int complete(int type, int most) {
        try {
            return desk.complete(type, most);
        } catch (IllegalArgumentException e) {
            return ILLEGAL_ARGUMENT;
        }
    }

    int check(String text) {
        put(text);
        return check();
    }

    int check() {
        try {
            return desk.check();
        } catch (IllegalArgumentException e) {
            return ILLEGAL_ARGUMENT;
        }
    }

    /** The proposals as they stand, each as text:type:cost. */
    List<String> proposals() {
        List<String> all = new ArrayList<>();
        for (int i = 0; desk.proposal(i, 0) != ChainDesk.NONE; i++) {
            all.add(text(i) + ":" + desk.proposal(i, 2) + ":" + desk.proposal(i, 1));
        }
        return all;
    }

    /** The proposals of a new completion, each as text:type:cost. */
    List<String> proposals(int type, int most) {
        int count = complete(type, most);
        List<String> all = proposals();
        if (all.size() != count) {
            all.add("complete answered " + count);
        }
        return all;
    }

    String text(int i) {
        StringBuilder text = new StringBuilder();
        for (int k = 0; k < desk.proposal(i, 0); k++) {
            text.append((char) desk.letter(i, k));
        }
        return text.toString();
    }
}
