import java.util.function.Consumer;
import java.util.function.ToIntFunction;

/** What the tests of the boundaries share. */
class Means {
    static final int NONE = -1, BAD = -2, FULL = -3, STATE = -4;
    static final int OPEN = 0, FALSE = 1, CUT = 2, FAILED = 3;
    static final int[] FAR = {Integer.MIN_VALUE, Integer.MIN_VALUE + 1, -1000, 1000, 1 << 16, 1 << 30,
        Integer.MAX_VALUE - 1, Integer.MAX_VALUE};

    /** KINDS of which TYPES of any number of NAMES are made: see names(). */
    static final String SIZES = "I;J;L<A>;P<A,B>;F<A,B,C>;";

    private static int wrong = 0;
    /** The document's words that are tested now. */
    static String sentence = "";

    static void finish() {
        System.out.println(wrong == 0 ? "all boundaries hold" : wrong + " answers are not as due");
        if (wrong != 0) {
            System.exit(1);
        }
    }

    static void due(String what, Object got, Object want) {
        if (!got.equals(want)) {
            wrong++;
            System.out.println("\"" + sentence + "\": " + what + " is " + got + ", due is " + want);
        }
    }

    static Talk with(String kinds) {
        Talk t = new Talk();
        if (t.kinds(kinds) < 0) {
            wrong++;
            System.out.println("\"" + sentence + "\": these are no KINDS: " + kinds);
        }
        return t;
    }

    static Talk with(String kinds, int variables, String... bounds) {
        return with(kinds).variables(variables).bounds(bounds);
    }

    /** All that can be seen of an object, but for what lies on the tape; the object is spoiled by it. */
    static String seen(Talk t) {
        StringBuilder b = new StringBuilder("latest ").append(t.latest()).append(" fault ").append(t.fault());
        for (int what = 0; what <= 6; what++) {
            b.append(' ').append(t.told(what));
        }
        b.append(" next ").append(t.next());
        int variables = t.told(1);
        for (int i = 0; i < variables; i++) {
            b.append(' ').append(t.solutionOf(i));
        }
        int bounds = t.told(2);
        for (int k = 0; k < bounds; k++) {
            b.append(' ').append(bounds > 20 ? String.valueOf(t.written(k)) : t.boundAt(k));
        }
        return b.append(" kinds ").append(t.join("Run,Run")).toString();
    }

    /** Two objects are told the same, then the one gets a call that answers so and changes nothing. */
    static void changesNothing(String what, Consumer<Talk> told, ToIntFunction<Talk> call, int answer) {
        Talk one = new Talk();
        Talk other = new Talk();
        told.accept(one);
        told.accept(other);
        due(what, call.applyAsInt(one), answer);
        due("what is seen behind " + what, seen(one), seen(other));
    }

    /** As changesNothing, but the text is taken: the tape is empty then, and there is the FAULT. */
    static void faultStaysAlone(Consumer<Talk> told, String text, ToIntFunction<Talk> call, int place, int fault) {
        Talk one = new Talk();
        Talk other = new Talk();
        told.accept(one);
        told.accept(other);
        due(text, call.applyAsInt(one.tape(text)), -10 - place);
        due("FAULT of " + text, one.fault(), fault);
        due("tape behind " + text, one.told(5), 0);
        other.fault();
        other.told(5);
        // a text without FAULT for both, so that all else can be compared
        one.below("Run:Run");
        other.below("Run:Run");
        due("what is seen behind " + text, seen(one), seen(other));
    }

    static void kindsRight(String text, int count) {
        Talk t = new Talk();
        due("kinds " + text, t.kinds(text), count);
        due("FAULT of " + text, t.fault(), 0);
        due("KINDS behind " + text, t.told(0), count);
        due("tape behind " + text, t.told(5), 0);
    }

    static void kindsFault(String text, int place, int fault) {
        faultStaysAlone(t -> t.tape("Old<T>;Older:Old<Run>;").kinds(), text, Talk::kinds, place, fault);
    }

    static void boundFault(Talk t, String text, int place, int fault) {
        int bounds = t.told(2);
        due("bound " + text, t.bound(text), -10 - place);
        due("FAULT of " + text, t.fault(), fault);
        due("tape behind " + text, t.told(5), 0);
        due("BOUNDS behind " + text, t.told(2), bounds);
        due("STATE behind " + text, t.told(3), OPEN);
    }

    static void joinRight(Talk t, String text, String due) {
        due("join " + text, t.joinOf(text), due);
        due("FAULT of " + text, t.fault(), 0);
        due("tape behind " + text, t.told(5), 0);
    }

    static void joinFault(Talk t, String text, int place, int fault) {
        due("join " + text, t.join(text), -10 - place);
        due("FAULT of " + text, t.fault(), fault);
        due("tape behind " + text, t.told(5), 0);
    }

    static void belowFault(Talk t, String text, int place, int fault) {
        due("below " + text, t.below(text), -10 - place);
        due("FAULT of " + text, t.fault(), fault);
        due("tape behind " + text, t.told(5), 0);
    }

    /** A TYPE of so many NAMES, of the KINDS of SIZES; of 5 NAMES and more it is of KIND F. */
    static String names(int n) {
        switch (n) {
            case 1:
                return "I";
            case 2:
                return "L<I>";
            case 3:
                return "P<I,I>";
            default:
                int third = (n - 1) / 3;
                int second = (n - 1 - third) / 2;
                return "F<" + names(third) + "," + names(second) + "," + names(n - 1 - third - second) + ">";
        }
    }

    /** A TYPE of KIND P of so many NAMES, 3 or more. */
    static String pair(int n) {
        return "P<" + names((n - 1) / 2) + "," + names(n - 1 - (n - 1) / 2) + ">";
    }

    static String many(String text, int count) {
        return text.repeat(count);
    }

    static boolean isLetterOrDigit(int c) {
        return c >= 'A' && c <= 'Z' || c >= 'a' && c <= 'z' || c >= '0' && c <= '9';
    }
}
