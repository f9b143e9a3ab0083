import java.util.function.Consumer;
import java.util.function.ToIntFunction;

/**
 * Each sentence of SOLVING and of the promises that names a boundary: inputs just inside of it and
 * just outside, what the call answers, and what it changes, or does not change, on each side.
 */
public final class CallBoundaryTests extends Means {
    private static final int[] NOT_OPEN = {FALSE, CUT, FAILED};

    public static void main(String[] args) {
        newObject();
        kindsForgets();
        faultOfTheLatest();
        sixVariables();
        freshForgets();
        boundState();
        boundNotOpen();
        closeNotOpen();
        othersInEachState();
        toldWhat();
        toldRounds();
        writtenRange();
        writtenOrder();
        letterRange();
        solvedOrNot();
        leans();
        leastSets();
        nextStates();
        stepNone();
        joinOfStep();
        meetingOfStep();
        meetingOfAll();
        meetingIsNone();
        throwsOrNot();
        stepReduces();
        stepFails();
        stepFailsForAll();
        stepsOneByOne();
        solutionRange();
        solutionOfSeveral();
        joinSevenTypes();
        joinIsLong();
        joinIsNone();
        joinLeastKinds();
        joinOfMeets();
        belowPairs();
        textsChangeNothingElse();
        usedAgain();
        lastCall();
        finish();
    }

    /** An object with four BOUNDS of two VARIABLES, something WRITTEN and a text of seven bytes on the tape. */
    private static Consumer<Talk> inState(int state) {
        return t -> {
            t.kinds(SIZES);
            t.variables(4).bounds("$0:L<I>", "$0:L<J>", "$1=I", "$2:$3");
            t.join("P<I,J>");
            if (state == FALSE) {
                t.bound("I=J");
            } else if (state == CUT) {
                t.bound(names(24) + "=$0");
            } else if (state == FAILED) {
                t.step();
            }
            t.tape("$3=L<I>");
        };
    }

    // ---------------------------------------------------------------- 1, 3, 4

    private static void newObject() {
        sentence = "KINDS 0 to 3, no VARIABLES, no BOUNDS, an empty tape";
        int[] all = {4, 0, 0, OPEN, 0, 0, 0};
        Talk t = new Talk();
        for (int what = 0; what <= 6; what++) {
            due("told " + what, t.told(what), all[what]);
        }
        due("fault", t.fault(), 0);
        due("written(0)", t.written(0), NONE);
        due("solution(0)", t.solution(0), NONE);
        due("next", t.next(), 0);
        due("step", t.step(), 0);
        due("fresh", t.fresh(), 0);
        due("close", t.close(), OPEN);
        due("letter(0)", t.hasLetter(0), false);
        due("two objects have nothing in common", new Talk().variable(false), 0);
        t.variables(3);
        due("two objects have nothing in common", new Talk().told(1), 0);
    }

    private static void kindsForgets() {
        sentence = "VARIABLES and BOUNDS are gone, the STATE is OPEN";
        for (int state = OPEN; state <= FAILED; state++) {
            Talk t = new Talk();
            inState(state).accept(t);
            t.told(5);
            t.join();
            due("STATE", t.told(3), state);
            due("kinds", t.kinds("A;"), 5);
            int[] all = {5, 0, 0, OPEN, 0, 0, 0};
            for (int what = 0; what <= 6; what++) {
                due("told " + what, t.told(what), all[what]);
            }
            due("next", t.next(), 0);
            due("the first VARIABLE", t.variable(false), 0);
        }
        sentence = "-10 less the place of the FAULT: all but the tape stays";
        for (int state = OPEN; state <= FAILED; state++) {
            Consumer<Talk> told = inState(state);
            // the tape has $3=L<I> already: a VARIABLE can't come
            Talk one = new Talk();
            Talk other = new Talk();
            told.accept(one);
            told.accept(other);
            due("kinds", one.kinds(), -10);
            due("fault", one.fault(), 2);
            other.join();
            due("what is seen", seen(one), seen(other));
        }
        // the KINDS of a text whose last one has a FAULT are not there
        Talk t = with("A;B<T>:A;");
        due("kinds", t.kinds("C;D<T,U>:C;E:X;"), -23);
        due("told(0)", t.told(0), 6);
        joinRight(t, "B<A>", "B<A>");
        due("B is below A still", t.below("B<A>:A"), 1);
        joinFault(t, "C", 0, 4);
    }

    private static void faultOfTheLatest() {
        sentence = "The FAULT of the latest text that was taken, 0 when it had none, and before one";
        Talk t = with("", 1);
        String[] texts = {"a", ";", "Run;", "A:B;", "A<T,U,V,W>;", "L<E>;M:L<Run>,L<Throw>;"};
        for (int fault = 1; fault <= 6; fault++) {
            t.kinds(texts[fault - 1]);
            due("fault of " + texts[fault - 1], t.fault(), fault);
            t.tape("$0:Run");
            due("of the latest text that was taken", t.fault(), fault);
            t.bound();
            due("none", t.fault(), 0);
        }
        t.below("Run:");
        due("below", t.fault(), 2);
        t.join("Run");
        due("join", t.fault(), 0);
        t.bound("Run=Throw");
        due("a text that is FALSE has none", t.fault(), 0);
        t.join("Ran");
        t.bound("Run=Run");
        due("a text that was not taken", t.fault(), 4);
    }

    // ---------------------------------------------------------------- 5, 6

    private static void sixVariables() {
        sentence = "FULL: there are 6";
        Talk t = new Talk();
        for (int i = 0; i < 6; i++) {
            due("told(1)", t.told(1), i);
            due("variable", t.variable(i % 2 == 1), i);
        }
        due("told(1)", t.told(1), 6);
        due("the 7th", t.variable(true), FULL);
        due("the 7th", t.variable(false), FULL);
        due("told(1)", t.told(1), 6);
        // those that THROW are Run, the others Object: the 7th changed none of them
        for (int i = 0; i < 6; i++) {
            due("step", t.step(), 1 << i);
            due("solution", t.solutionOf(i), i % 2 == 1 ? "Run" : "Object");
        }
        changesNothing("the 7th", u -> u.variables(6).bounds("$5:Run"), u -> u.variable(true), FULL);
        t.fresh();
        due("anew", t.variable(true), 0);
        for (int state : NOT_OPEN) {
            Talk u = new Talk();
            inState(state).accept(u);
            due("in each STATE", u.variable(false), 4);
            due("in each STATE", u.variable(false), 5);
            due("in each STATE", u.variable(false), FULL);
            due("STATE", u.told(3), state);
        }
    }

    private static void freshForgets() {
        sentence = "VARIABLES and BOUNDS are gone, the STATE is OPEN: how many BOUNDS there were";
        int[] counts = {4, 4, 4, 4};
        for (int state = OPEN; state <= FAILED; state++) {
            Talk t = new Talk();
            inState(state).accept(t);
            due("fresh", t.fresh(), counts[state]);
            int[] all = {9, 0, 0, OPEN, 0, 7, 0};
            for (int what = 0; what <= 6; what++) {
                due("told " + what, t.told(what), all[what]);
            }
            due("what was WRITTEN stays", t.latest(), "P<I,J>");
            due("fresh of nothing", t.fresh(), 0);
            due("the tape stays", t.variables(4).bound(), 1);
            due("BOUND", t.all(), "$3=L<I>");
        }
        changesNothing("fresh of a new one", t -> t.tape("Run"), Talk::fresh, 0);
    }

    // ---------------------------------------------------------------- 7, 8

    /** So many BOUNDS, 24 at most, of six VARIABLES that are not told of one another. */
    private static Talk withBounds(Talk t, int count) {
        String[] above = {":Run", ":Throw", ":Except", ":L<I>"};
        for (int i = 0; i < count; i++) {
            t.bound("$" + i % 6 + above[i / 6]);
        }
        return t;
    }

    private static void boundState() {
        sentence = "STATE: .. or 24 BOUNDS or more are there (both: the tape stays)";
        for (int count = 22; count <= 24; count++) {
            Talk t = withBounds(with(SIZES, 6), count);
            due("told(2)", t.told(2), count);
            due("bound behind " + count, t.bound("$0=I"), count < 24 ? count + 1 : STATE);
            due("told(2)", t.told(2), count < 24 ? count + 1 : count);
            due("told(5)", t.told(5), count < 24 ? 0 : 4);
            due("told(3)", t.told(3), OPEN);
        }
        // one text may tell more: 23 and 3 are 26
        Talk t = withBounds(with(SIZES, 6), 23).tape("F<$0,$1,$2>=F<I,I,I>");
        due("23 and 3", t.bound(), 26);
        due("told(2)", t.told(2), 26);
        due("behind 26", t.bound("$0=I"), STATE);
        due("told(5)", t.told(5), 4);
        // what is there already is told of no more
        Talk u = withBounds(with(SIZES, 6), 24);
        due("one that is there", u.bound("$0:Run"), STATE);
        due("told(5)", u.told(5), 6);
        due("one that says nothing", u.below(), -10);
        due("one that says nothing", u.bound("$0=$0"), STATE);
        changesNothing("bound behind 24", v -> withBounds(v.variables(6), 18).bounds("$0=Run", "$1=Run", "$2=Run",
                "$3=Run", "$4=Run", "$5=Run", "$5=Throw").tape("$0=Throw"), Talk::bound, STATE);
        // a text with a FAULT is not looked at, and has none
        changesNothing("a text that is none", v -> withBounds(v.variables(6), 18).bounds("$0=Run", "$1=Run", "$2=Run",
                "$3=Run", "$4=Run", "$5=Run").tape("$$"), Talk::bound, STATE);
        // fewer BOUNDS, and it is taken
        u.fresh();
        u.variables(1);
        due("the text that stayed", u.bound(), 0);
        due("told(5)", u.told(5), 0);
    }

    private static void boundNotOpen() {
        sentence = "STATE: it is not OPEN .. (the tape stays)";
        for (int state : NOT_OPEN) {
            changesNothing("bound in STATE " + state, inState(state), Talk::bound, STATE);
            Talk t = new Talk();
            inState(state).accept(t);
            t.bound();
            t.fresh();
            t.variables(4);
            due("the text that stayed", t.bound(), 1);
            due("BOUND", t.all(), "$3=L<I>");
        }
        Talk t = new Talk();
        inState(OPEN).accept(t);
        due("in STATE OPEN", t.bound(), 5);
        due("told(5)", t.told(5), 0);
        sentence = "FALSE makes the STATE FALSE, else LONG makes it CUT";
        Talk u = with(SIZES, 1);
        due("told(3)", u.told(3), OPEN);
        u.bound("I=I");
        due("neither", u.told(3), OPEN);
        u.bound("I=J");
        due("FALSE", u.told(3), FALSE);
        sentence = "no CLOSING is done";
        Talk v = with(SIZES, 1, "$0=I", "$0=J");
        due("two that can't be", v.told(3), OPEN);
        due("told(4)", v.told(4), 0);
        due("close", v.close(), FALSE);
    }

    private static void closeNotOpen() {
        sentence = "CLOSING: the STATE. STATE: it is not OPEN";
        for (int state : NOT_OPEN) {
            changesNothing("close in STATE " + state, inState(state), Talk::close, STATE);
        }
        Talk t = with(SIZES, 1, "$0=I");
        due("OPEN", t.close(), OPEN);
        due("OPEN still", t.close(), OPEN);
        t.bound("$0=J");
        due("FALSE", t.close(), FALSE);
        due("FALSE already", t.close(), STATE);
    }

    private static void othersInEachState() {
        sentence = "Calls answer .. STATE (it can't be now), as they name them (and others do not)";
        for (int state = OPEN; state <= FAILED; state++) {
            Talk t = new Talk();
            inState(state).accept(t);
            due("told(3)", t.told(3), state);
            due("feed", t.feed(' ', 1), 8);
            due("join", t.join(), -10);
            due("join", t.joinOf("L<I>"), "L<I>");
            due("below", t.below("I:Object"), 1);
            due("written", t.boundAt(0), "$1=I");
            due("solution", t.solutionOf(1), "I");
            due("fault", t.fault(), 0);
            due("kinds", t.kinds("A"), -11);
            due("variable", t.variable(true), 4);
            due("told(3)", t.told(3), state);
            due("fresh", t.fresh(), 4);
            due("told(3)", t.told(3), OPEN);
        }
    }

    // ---------------------------------------------------------------- 9, 10, 11

    private static void toldWhat() {
        sentence = "What = 0 KINDS, .., 6 VARIABLES that are SOLVED. BAD";
        int[] all = {9, 4, 4, OPEN, 0, 7, 1};
        Talk t = new Talk();
        inState(OPEN).accept(t);
        for (int what = 0; what <= 6; what++) {
            due("told " + what, t.told(what), all[what]);
        }
        changesNothing("told(-1)", inState(OPEN), u -> u.told(-1), BAD);
        changesNothing("told(7)", inState(OPEN), u -> u.told(7), BAD);
        for (int what : FAR) {
            due("told " + what, t.told(what), BAD);
        }
        for (int state : NOT_OPEN) {
            Talk u = new Talk();
            inState(state).accept(u);
            due("told(3)", u.told(3), state);
            due("told(7)", u.told(7), BAD);
        }
    }

    private static void toldRounds() {
        sentence = "4 ROUNDS of the latest CLOSING (by close() or a STEP; 0 before one, and behind kinds(), fresh())";
        Talk t = with(SIZES, 3, "$0:$1", "$1:$2", "$2:I");
        due("before one", t.told(4), 0);
        t.close();
        due("behind close()", t.told(4), 3);
        t.step();
        due("behind a STEP", t.told(4), 2);
        due("no STEP", t.step(), 0);
        due("behind no STEP", t.told(4), 2);
        t.fresh();
        due("behind fresh()", t.told(4), 0);
        t.close();
        due("behind close()", t.told(4), 1);
        t.kinds("A");
        due("behind a FAULT of kinds()", t.told(4), 1);
        t.kinds("A;");
        due("behind kinds()", t.told(4), 0);
        // a STEP without CLOSING: THE MEETING is NONE
        Talk u = with(SIZES, 3, "$0:$1", "$1:$2", "$1:L<J>", "$1:L<I>", "$2=I");
        due("told(4)", u.told(4), 0);
        due("step", u.step(), -10);
        due("behind a STEP that is NONE", u.told(4), 0);
        // CLOSING that ends by FALSE or CUT has ROUNDS, too
        Talk v = with(SIZES, 3, "$0:$1", "$1:$2", "$2:I", "J:$0");
        due("close", v.close(), FALSE);
        due("J:$2 and $1:I came first, then $0:I and J:I", v.told(4), 2);
        due("close", v.close(), STATE);
        due("behind STATE", v.told(4), 2);
    }

    private static void writtenRange() {
        sentence = "BOUND k is WRITTEN .. NONE";
        due("without BOUNDS", new Talk().written(0), NONE);
        for (int n = 1; n <= 3; n++) {
            Consumer<Talk> told = boundsOf(n);
            int count = n;
            changesNothing("written(-1) of " + n, told, t -> t.written(-1), NONE);
            changesNothing("written(" + n + ") of " + n, told, t -> t.written(count), NONE);
            Talk t = new Talk();
            told.accept(t);
            for (int k = 0; k < n; k++) {
                due("written " + k, t.written(k), 6);
                due("BOUND " + k, t.latest(), "$" + k + "=Run");
            }
            for (int k : FAR) {
                due("written " + k, t.written(k), NONE);
            }
            due("what was WRITTEN stays", t.latest(), "$" + (n - 1) + "=Run");
            t.fresh();
            due("written(0)", t.written(0), NONE);
            due("what was WRITTEN stays", t.latest(), "$" + (n - 1) + "=Run");
        }
    }

    private static Consumer<Talk> boundsOf(int n) {
        return t -> {
            t.variables(3);
            for (int i = n - 1; i >= 0; i--) {
                t.bound("Run=$" + i);
            }
            t.join("Throw");
        };
    }

    private static void writtenOrder() {
        sentence = "those with = first, then by what is WRITTEN of S, then of T (bytes compared; what another one begins with goes ahead)";
        String kinds = "A;A0;AZ;Az;B;L<T>;L0<T>;";
        // , is 44, 0 is 48, : is 58, < is 60, A is 65, a is 97
        // S is A, and not A with what comes behind it: so A:$0 goes ahead of A0:$0
        String[] inOrder = {"$0=$1", "$0=A", "$0=A0", "$0=AZ", "$0=Az", "$0=B", "$0=L0<A>", "$0=L<A0>", "$0=L<A>",
            "$1=$2", "$0:$1", "$0:A", "$1:$0", "A:$0", "A0:$0", "AZ:$0", "Az:$0", "L0<A>:$0", "L<$0>:$1", "L<A>:$0"};
        Talk t = with(kinds, 3);
        for (int i = 0; i < inOrder.length; i++) {
            // told in a mixed order: 7 and 20 have no divisor in common
            t.bound(inOrder[(7 * i + 3) % inOrder.length]);
        }
        due("BOUNDS", t.all(), String.join(" ", inOrder));
        sentence = "of = S is the VARIABLE with the lesser number, or the only one";
        Talk u = with(kinds, 6, "$5=$4", "A=$3", "L<$0>=$2");
        due("BOUNDS", u.all(), "$2=L<$0> $3=A $4=$5");
    }

    private static void letterRange() {
        sentence = "Byte i of what was WRITTEN latest. IndexOutOfBoundsException: there is none such";
        Talk t = with("A;L<T>;", 1);
        for (int i : new int[] {-1, 0, 1, Integer.MIN_VALUE, Integer.MAX_VALUE}) {
            due("letter " + i + " of nothing", t.hasLetter(i), false);
        }
        String[] texts = {"A", "Run", "L<L<A>>", "A"};
        for (String text : texts) {
            int length = t.join(text);
            due("how many bytes", length, text.length());
            for (int i = 0; i < length; i++) {
                due("letter " + i, t.letter(i), (int) text.charAt(i));
            }
            due("letter ahead of it", t.hasLetter(-1), false);
            due("letter behind it", t.hasLetter(length), false);
            for (int i : FAR) {
                due("letter " + i, t.hasLetter(i), false);
            }
        }
        changesNothing("a byte that is not there", u -> u.join("Run"), u -> u.hasLetter(3) ? 1 : 0, 0);
        // each of the three calls that write
        t.bound("$0=A");
        due("written", t.boundAt(0), "$0=A");
        due("behind it", t.hasLetter(4), false);
        due("solution", t.solutionOf(0), "A");
        due("behind it", t.hasLetter(1), false);
        due("join", t.joinOf("L<A>"), "L<A>");
        due("behind it", t.hasLetter(4), false);
    }

    // ---------------------------------------------------------------- SOLVED, LEANS, SETS

    private static void solvedOrNot() {
        sentence = "$i is SOLVED if there is a BOUND $i = U, U PROPER";
        String[] solved = {"$0=Run", "$0=L<L<Run>>", "Run=$0"};
        String[] not = {"$0=$1", "$0=L<$1>", "$0=P<Run,$1>", "$0:Run", "Run:$0", "$0=L<$0>"};
        for (String bound : solved) {
            Talk t = with(SIZES, 2, bound);
            due("told(6) of " + bound, t.told(6), 1);
            due("next of " + bound, t.next(), 2);
            due("solution of " + bound, t.solution(0) > 0, true);
        }
        for (String bound : not) {
            Talk t = with(SIZES, 2, bound);
            due("told(6) of " + bound, t.told(6), 0);
            due("solution of " + bound, t.solution(0), 0);
        }
    }

    private static void nextIs(int set, int variables, String... bounds) {
        Talk t = with(SIZES, variables, bounds);
        due("next of " + String.join(" ", bounds), t.next(), set);
    }

    private static void leans() {
        sentence = "$i LEANS on $j if $j stands anywhere in a BOUND that has $i alone on one side (on the other side)";
        nextIs(2, 2, "$0=L<$1>");
        nextIs(2, 2, "$0:L<$1>");
        nextIs(2, 2, "L<$1>:$0");
        nextIs(1, 2, "$1=P<I,L<$0>>");
        nextIs(3, 2, "$0=$1");
        nextIs(3, 2, "$0:$1");
        nextIs(3, 2, "$1:$0");
        nextIs(3, 2, "$0=L<$1>", "$1:L<$0>");
        // $0 and $1 within one TYPE do not lean on one another
        nextIs(1, 3, "$2=P<$0,$1>");
        sentence = "or by steps of such, or is $i itself";
        nextIs(1, 1, "$0=L<$0>");
        nextIs(4, 3, "$0=L<$1>", "$1=L<$2>");
        nextIs(7, 3, "$0=L<$1>", "$1=L<$2>", "$2=L<$0>");
        nextIs(32, 6, "$0=L<$1>", "$1=L<$2>", "$2=L<$3>", "$3=L<$4>", "$4=L<$5>");
        nextIs(63, 6, "$0=L<$1>", "$1=L<$2>", "$2=L<$3>", "$3=L<$4>", "$4=L<$5>", "$5=L<$0>");
        nextIs(63, 6, "$5:$3", "$1:$4", "$3:$1", "$0:$4", "$2:$0");
        sentence = "those .. that are not SOLVED are $i's SET";
        nextIs(1, 2, "$0=L<$1>", "$1=I");
        nextIs(2, 2, "$0=$1", "$0=I");
        nextIs(0, 2, "$0=I", "$1=I");
    }

    private static void leastSets() {
        sentence = "the least SET (of as few VARIABLES as any) with the least VARIABLE is next";
        nextIs(1, 1);
        nextIs(1, 6);
        nextIs(2, 6, "$0=I");
        nextIs(32, 6, "$0=I", "$1=I", "$2=I", "$3=I", "$4=I");
        nextIs(0, 6, "$0=I", "$1=I", "$2=I", "$3=I", "$4=I", "$5=I");
        // one ahead of two, two ahead of three
        nextIs(4, 3, "$0:$1");
        nextIs(24, 5, "$0:$1", "$1:$2", "$3:$4");
        // of two with as many the one with the least VARIABLE
        nextIs(3, 4, "$2:$3", "$0:$1");
        nextIs(9, 4, "$1:$2", "$0:$3");
        nextIs(5, 6, "$5:$4", "$3:$1", "$2:$0");
        nextIs(2, 3, "$0=L<$1>", "$2=L<$1>");
        nextIs(2, 3, "$0=P<$1,$2>");
        // $0 leans on two others, these on none: $0's own SET is no least one
        nextIs(8, 6, "$0=P<$4,$5>", "$1=P<$4,$5>", "$2=P<$4,$5>");
    }

    private static void nextStates() {
        sentence = "0: all are SOLVED. STATE: the STATE is not OPEN";
        changesNothing("next in STATE OPEN", inState(OPEN), Talk::next, 1);
        for (int state : NOT_OPEN) {
            changesNothing("next in STATE " + state, inState(state), Talk::next, STATE);
        }
        // all SOLVED, but not OPEN
        Talk t = with(SIZES, 1, "$0=I", "I=J");
        due("next", t.next(), STATE);
        due("told(6)", t.told(6), 1);
    }

    // ---------------------------------------------------------------- STEPS

    private static void stepNone() {
        sentence = "0: none is left, and nothing is done";
        changesNothing("step without VARIABLES", t -> t.tape("Run"), Talk::step, 0);
        changesNothing("step with all SOLVED", t -> t.variables(2).bounds("$0=Run", "$1=$0", "$1=Run", "$0:Throw"),
                Talk::step, 0);
        // CLOSING would be FALSE, but is not done
        changesNothing("step with all SOLVED", t -> t.variables(1).bounds("$0=Run", "$0=Throw"), Talk::step, 0);
        Talk t = with("", 2, "$0=Run");
        due("one is left", t.step(), 2);
        due("none is left", t.step(), 0);
        sentence = "STATE: the STATE is not OPEN";
        for (int state : NOT_OPEN) {
            changesNothing("step in STATE " + state, inState(state), Talk::step, STATE);
        }
        Talk u = with("", 1, "$0=Run", "Run=Throw");
        due("STATE, though none is left", u.step(), STATE);
    }

    private static void stepsTo(String kinds, String solution, String... bounds) {
        Talk t = with(kinds, 1, bounds);
        String what = String.join(" ", bounds);
        due("step of " + what, t.step(), 1);
        due("solution of " + what, t.solutionOf(0), solution);
        due("STATE of " + what, t.told(3), OPEN);
        due("SOLVED of " + what, t.told(6), 1);
    }

    private static void joinOfStep() {
        sentence = "if there are PROPER ones S with S : $i: THE JOIN of these";
        String kinds = "I;J:I;K:I;L<E>;";
        stepsTo(kinds, "J", "J:$0");
        stepsTo(kinds, "J", "J:$0", "$0:I");
        stepsTo(kinds, "I", "J:$0", "K:$0");
        stepsTo(kinds, "Object", "J:$0", "Run:$0");
        stepsTo(kinds, "Object", "Object:$0");
        // not PROPER: THE MEETING
        Talk t = with(kinds, 2, "L<$1>:$0", "$1=J");
        due("step", t.step(), 1);
        due("THE MEETING of none, then L<J>:Object", t.solutionOf(0), "Object");
        // PROPER by CLOSING
        Talk u = with(kinds, 2, "L<$1>:$0", "$1=J");
        u.close();
        due("step", u.step(), 1);
        due("THE JOIN", u.solutionOf(0), "L<J>");
        // J : $1 is none for $0, which is Object then: the second ROUND has $0=J and $0=Object
        Talk v = with(kinds, 2, "$0=$1", "J:$1");
        due("step", v.step(), -10);
        due("told(4)", v.told(4), 2);
        due("BOUNDS", v.boundAt(0) + " " + v.boundAt(1) + " " + v.boundAt(2), "$0=$1 $0=J $0=Object");
    }

    private static void meetingOfStep() {
        sentence = "else THE MEETING of all PROPER T with $i : T (Object without)";
        String kinds = "I;J;K:I;L<E>;M<E>:L<E>;";
        stepsTo(kinds, "Object");
        stepsTo(kinds, "Object", "$0:Object");
        stepsTo(kinds, "I", "$0:I");
        stepsTo(kinds, "I&J", "$0:J", "$0:I");
        stepsTo(kinds, "J&K", "$0:J", "$0:I", "$0:K");
        stepsTo(kinds, "Run&I&J", "$0:J", "$0:I", "$0:Run", "$0:Throw");
        stepsTo(kinds, "M<I>", "$0:L<I>", "$0:M<I>");
        stepsTo(kinds, "J&M<I>", "$0:L<I>", "$0:M<I>", "$0:J");
        sentence = "the TYPES of all of them (those of MEETS one by one), the same ones once";
        Talk t = with("I;J;N;A:I,J;B:I,J;", 2, "A:$0", "B:$0");
        due("step", t.step(), 1);
        t.bounds("$1:$0", "$1:I", "$1:N");
        due("close", t.close(), OPEN);
        due("$1 is below a MEET", t.all(), "$0=I&J $1:$0 $1:I $1:I&J $1:N A:$0 B:$0");
        due("step", t.step(), 2);
        due("I once", t.solutionOf(1), "I&J&N");
    }

    /** MEETS of as many TYPES as there can be. */
    private static void meetingOfAll() {
        sentence = "together a MEET likewise. TYPES of a MEET stand by their KINDS' numbers";
        String kinds = "A;B;C;D;E;F;G;H;I;J;K;L;M;N;O;P;";
        String meet = "";
        for (int n = 1; n <= 17; n++) {
            // told from the last to the first; Run is the 17th
            Talk t = with(kinds, 1);
            for (int k = n; k >= 1; k--) {
                t.bound("$0:" + (k == 17 ? "Run" : kinds.substring(2 * k - 2, 2 * k - 1)));
            }
            meet = n == 1 ? "A" : n == 17 ? "Run&" + meet : meet + "&" + kinds.charAt(2 * n - 2);
            // a MEET of 13 NAMES and itself are LONG
            due("step of " + n, t.step(), n <= 12 ? 1 : -10);
            due("solution of " + n, t.solutionOf(0), meet);
            due("STATE of " + n, t.told(3), n <= 12 ? OPEN : FAILED);
            due("BOUNDS of " + n, t.told(2), n + 1);
        }
    }

    private static void meetingIsNone() {
        sentence = "if two of these are of one KIND (ahead of CLOSING they may be), it is NONE";
        String kinds = "I;J;L<E>;M<E>:L<E>;N:L<J>;";
        for (String other : new String[] {"$0:L<J>", "$0:L<L<I>>"}) {
            Talk t = with(kinds, 1, "$0:L<I>", other);
            due("step", t.step(), -10);
            due("told(2)", t.told(2), 2);
            due("told(3)", t.told(3), FAILED);
            due("told(4)", t.told(4), 0);
            due("told(6)", t.told(6), 0);
        }
        // another one is BELOW the one of them, so two of one KIND are not left; but CLOSING is FALSE
        Talk t = with(kinds, 1, "$0:L<I>", "$0:L<J>", "$0:M<I>");
        due("step", t.step(), -10);
        due("BOUNDS", t.all(), "$0=L<J>&M<I> $0:L<I> $0:L<J> $0:M<I>");
        due("told(4)", t.told(4), 1);
        due("told(3)", t.told(3), FAILED);
        // and with N below the other one as well
        Talk u = with(kinds, 1, "$0:L<I>", "$0:L<J>", "$0:M<I>", "$0:N");
        due("step", u.step(), -10);
        due("BOUNDS", u.all(), "$0=M<I>&N $0:L<I> $0:L<J> $0:M<I> $0:N");
        // with CLOSING ahead of the STEP it is FALSE before
        Talk v = with(kinds, 1, "$0:L<I>", "$0:L<J>");
        due("close", v.close(), FALSE);
        due("step", v.step(), STATE);
    }

    private static void throwsOrNot() {
        sentence = "else, if $i THROWS, and all PROPER ones T with $i : T are among Throw, Except: Run";
        String[][] runs = {{}, {"$0:Throw"}, {"$0:Except"}, {"$0:Throw", "$0:Except"}, {"$0:Object"}};
        String[] plain = {"Object", "Throw", "Except", "Except", "Object"};
        for (int i = 0; i < runs.length; i++) {
            due("THROWS " + String.join(" ", runs[i]), solvedAlone(true, runs[i]), "Run");
            due("THROWS not " + String.join(" ", runs[i]), solvedAlone(false, runs[i]), plain[i]);
        }
        String[][] others = {{"$0:E1"}, {"$0:E1", "$0:Throw"}, {"$0:I"}, {"$0:I", "$0:Throw"}, {"$0:Run"},
            {"$0:R1"}, {"Throw:$0"}, {"Except:$0", "$0:Throw"}, {"Object:$0"}};
        String[] due = {"E1", "E1", "I", "Throw&I", "Run", "R1", "Throw", "Except", "Object"};
        for (int i = 0; i < others.length; i++) {
            due("THROWS " + String.join(" ", others[i]), solvedAlone(true, others[i]), due[i]);
            due("THROWS not " + String.join(" ", others[i]), solvedAlone(false, others[i]), due[i]);
        }
        // those that are not PROPER do not count
        Talk t = with("E1:Except;");
        t.variable(true);
        t.variable(true);
        t.bounds("$0:$1", "$1:Throw");
        due("step", t.step(), 3);
        due("both", t.solutionOf(0) + t.solutionOf(1), "RunRun");
        // each as it was told
        Talk u = with("E1:Except;");
        u.variable(false);
        u.variable(true);
        u.bounds("$0:Throw", "$1:Throw");
        due("step", u.step(), 1);
        due("step", u.step(), 2);
        due("both", u.solutionOf(0) + u.solutionOf(1), "ThrowRun");
    }

    private static String solvedAlone(boolean hasThrows, String... bounds) {
        Talk t = with("E1:Except;I;R1:Run;");
        t.variable(hasThrows);
        t.bounds(bounds);
        due("step", t.step(), 1);
        return t.solutionOf(0);
    }

    private static void stepReduces() {
        sentence = "Then $i = that TYPE is REDUCED for all of them at once (a BOUND, or LONG), and CLOSING goes on";
        // 12 with itself is 24
        stepsTo(SIZES, names(12), names(12) + ":$0");
        stepsTo(SIZES, names(12), "$0:" + names(12));
        for (String bound : new String[] {names(13) + ":$0", "$0:" + names(13), names(23) + ":$0"}) {
            Talk t = with(SIZES, 1, bound);
            due("13 or more with itself is LONG", t.step(), -10);
            due("told(2)", t.told(2), 2);
            due("told(3)", t.told(3), FAILED);
            due("told(4)", t.told(4), 1);
            due("told(6)", t.told(6), 1);
        }
        // THE MEETING of 6 and 6, of 6 and 7
        stepsTo(SIZES, pair(6) + "&" + names(6), "$0:" + names(6), "$0:" + pair(6));
        Talk t = with(SIZES, 1, "$0:" + names(6), "$0:" + pair(7));
        due("13 NAMES", t.step(), -10);
        due("solution", t.solutionOf(0), pair(7) + "&" + names(6));
        due("told(2)", t.told(2), 3);
        // of 12 and 11: $0 and 23 are a BOUND; of 12 and 12: $0 and 24 are LONG as the STEP begins CLOSING
        Talk u = with(SIZES, 1, "$0:" + names(12), "$0:" + pair(11));
        due("23 NAMES", u.step(), -10);
        due("solution", u.solutionOf(0), pair(11) + "&" + names(12));
        due("told(2)", u.told(2), 3);
        due("told(4)", u.told(4), 1);
        Talk v = with(SIZES, 1, "$0:" + names(12), "$0:" + pair(12));
        due("24 NAMES", v.step(), -10);
        due("solution", v.solution(0), 0);
        due("told(2)", v.told(2), 2);
        due("told(3)", v.told(3), FAILED);
        due("told(4)", v.told(4), 1);
        // what came in that ROUND is there
        Talk w = with(SIZES, 3, "$0:" + names(12), "$0:" + pair(12), "$1=$2", "$2=I");
        due("next", w.next(), 1);
        due("step", w.step(), -10);
        due("$1 = I came", w.solutionOf(1), "I");
    }

    private static void stepFails() {
        sentence = "BOUNDS stay as they are then: where one is NONE as ahead of the STEP, else as CLOSING left them";
        String kinds = "C<T>;I:C<I>;S:C<S>;L<E>;M<E>:L<E>;";
        Talk t = with(kinds, 2, "I:$0", "S:$0", "$1=I", "$1:C<$0>");
        due("step", t.step(), -10);
        due("BOUNDS as ahead of it", t.all(), "$1=I $1:C<$0> I:$0 S:$0");
        due("told(3)", t.told(3), FAILED);
        due("told(4)", t.told(4), 0);
        Talk u = with(kinds, 2, "M<I>:$0", "$0:L<S>", "L<I>:$1", "$1=L<$0>");
        due("step", u.step(), -10);
        due("BOUNDS as CLOSING left them", u.all(),
                "$0=I $0=M<I> $1=L<$0> $1=L<M<I>> $0:L<S> L<I>:$1 M<I>:$0");
        due("told(3)", u.told(3), FAILED);
        due("told(4)", u.told(4), 1);
        sentence = "-10 less the least VARIABLE of the SET";
        for (int least = 0; least <= 4; least++) {
            Talk v = with(kinds, 6);
            for (int i = 0; i < least; i++) {
                v.bound("$" + i + "=I");
            }
            v.bounds("$5:$" + least, "I:$5", "S:$5");
            for (int i = least + 1; i < 5; i++) {
                v.bound("$" + i + ":$5");
            }
            due("next", v.next(), 63 & ~((1 << least) - 1));
            due("step", v.step(), -10 - least);
            due("told(3)", v.told(3), FAILED);
            due("told(6)", v.told(6), least);
        }
    }

    private static void stepFailsForAll() {
        sentence = "Each $i of it gets a TYPE .. REDUCED for all of them at once";
        // $1's is NONE, so $0 gets none either
        Talk t = with(SIZES, 2, "$0:$1", "I:$0", "$1:L<I>", "$1:L<J>");
        due("next", t.next(), 3);
        due("step", t.step(), -10);
        due("told(6)", t.told(6), 0);
        due("told(2)", t.told(2), 4);
        // $1's is LONG, but $0 has its own
        Talk u = with(SIZES, 2, "$0:$1", "I:$0", "$1:" + names(12), "$1:" + pair(12));
        due("step", u.step(), -10);
        due("told(6)", u.told(6), 1);
        due("solution", u.solutionOf(0), "I");
        // all six
        Talk v = with(SIZES, 6, "$0:$1", "$1:$2", "$2:$3", "$3:$4", "$4:$5", "$5:I");
        due("step", v.step(), -10);
        Talk w = with(SIZES, 6, "$0:$1", "$1:$2", "$2:$3", "$3:$4", "$4:$5", "$5:I");
        due("close", w.close(), OPEN);
        due("step", w.step(), 63);
        due("told(6)", w.told(6), 6);
        due("step", w.step(), 0);
    }

    private static void stepsOneByOne() {
        sentence = "A STEP: the VARIABLES that it solves, as bits";
        // one of two VARIABLES, then one of one whose TYPE is longer, then one of three
        Talk t = with(SIZES, 2, "$0:$1", "$1:I");
        due("close", t.close(), OPEN);
        due("step", t.step(), 3);
        t.variables(1).bounds("$2:P<I,L<J>>");
        due("step", t.step(), 4);
        due("solution", t.solutionOf(2), "P<I,L<J>>");
        t.variables(3).bounds("$3:$4", "$5:$4", "$4:J");
        due("close", t.close(), OPEN);
        due("step", t.step(), 56);
        due("told(6)", t.told(6), 6);
        due("solution", t.solutionOf(0) + t.solutionOf(1) + t.solutionOf(3) + t.solutionOf(4) + t.solutionOf(5), "IIJJJ");
        due("step", t.step(), 0);
        due("STATE", t.told(3), OPEN);
    }

    // ---------------------------------------------------------------- 14

    private static void solutionRange() {
        sentence = "What a VARIABLE is .. is WRITTEN: how many bytes; 0: it is not SOLVED. NONE";
        for (int n = 0; n <= 6; n++) {
            int count = n;
            Consumer<Talk> told = t -> {
                t.variables(count);
                t.join("Throw");
            };
            changesNothing("solution(-1) of " + n, told, t -> t.solution(-1), NONE);
            changesNothing("solution(" + n + ") of " + n, told, t -> t.solution(count), NONE);
            if (n > 0) {
                changesNothing("solution(0) of " + n, told, t -> t.solution(0), 0);
                changesNothing("solution(" + (n - 1) + ") of " + n, told, t -> t.solution(count - 1), 0);
                Talk t = with("", n, "$" + (n - 1) + "=Run");
                due("solution", t.solution(n - 1), 3);
                due("WRITTEN", t.latest(), "Run");
                due("solution", t.solution(n), NONE);
                t.fresh();
                due("behind fresh()", t.solution(n - 1), NONE);
            }
        }
        for (int i : FAR) {
            changesNothing("solution of " + i, t -> t.variables(6), t -> t.solution(i), NONE);
        }
    }

    private static void solutionOfSeveral() {
        sentence = "of several the first as written() has them";
        Talk t = with(SIZES, 2, "$0=L<J>", "$0=L<I>", "$0=P<I,I>", "$0=L<$1>", "$0=$1", "$0=J", "$0:I", "Run:$0");
        due("solution", t.solutionOf(0), "J");
        Talk u = with(SIZES, 2, "$0=L<J>", "$0=L<I>", "$0=L<$1>", "$0=$1");
        due("solution", u.solutionOf(0), "L<I>");
        due("not PROPER", u.solution(1), 0);
        due("told(6) counts it once", u.told(6), 1);
    }

    // ---------------------------------------------------------------- 15, 16

    private static void joinSevenTypes() {
        sentence = "5 also: the 7th TYPE, at its first token";
        Talk t = with("I;J:I;L<E>;");
        for (int n = 1; n <= 6; n++) {
            joinRight(t, "J" + many(",J", n - 1), "J");
            joinRight(t, "I" + many(",J", n - 1), "I");
        }
        joinRight(t, "J,J,J,J,J,I", "I");
        joinFault(t, "J,J,J,J,J,J,J", 12, 5);
        joinFault(t, "J,J,J,J,J,J, I", 13, 5);
        joinFault(t, "J,J,J,J,J,J,L<x>", 12, 5);
        joinFault(t, "J,J,J,J,J,J,I,I", 12, 5);
        // ARGUMENTS are not counted
        joinRight(t, "L<J>,L<J>,L<J>,L<J>,L<J>,L<J>", "L<J>");
        joinFault(t, "", 0, 2);
        joinFault(t, ",", 0, 2);
        joinFault(t, "J,", 2, 2);
        joinFault(t, "J,,J", 2, 2);
        joinFault(t, "J;", 1, 2);
        joinFault(t, "J:J", 1, 2);
        joinFault(t, "J=J", 1, 2);
        joinFault(t, "J J", 2, 2);
        joinFault(t, "J&J", 1, 1);
    }

    private static void joinIsLong() {
        sentence = "for each the ANCESTORS must all be the same, and not longer than 24, else it is NONE";
        String kinds = SIZES + "W<X>:F<L<X>,L<X>,X>;V<X>:F<L<X>,L<X>,X>;Y<X>:F<L<X>,L<X>,L<X>>;Z<X>:F<L<X>,L<X>,L<X>>;";
        String x = names(7);
        Talk t = with(kinds);
        joinRight(t, "W<" + x + ">,V<" + x + ">", "F<L<" + x + ">,L<" + x + ">," + x + ">");
        due("25", t.join("Y<" + x + ">,Z<" + x + ">"), 0);
        due("FAULT", t.fault(), 0);
        due("tape", t.told(5), 0);
        due("what was WRITTEN stays", t.latest(9), "F<L<F<L<I");
        // itself as long as it likes, if all are the same
        Talk u = with(kinds);
        String forty = names(40);
        due("how many bytes", u.join(forty + "," + forty), forty.length());
        due("WRITTEN", u.latest(), forty);
        // of two that are not the same one is the other's ANCESTOR
        Talk v = with(kinds);
        joinRight(v, "W<" + x + ">,F<L<" + x + ">,L<" + x + ">," + x + ">", "F<L<" + x + ">,L<" + x + ">," + x + ">");
        due("25", v.join("Y<" + x + ">,F<L<" + x + ">,L<" + x + ">,L<" + x + ">>"), 0);
        // what is not among the least KINDS may be longer: Object is that here
        joinRight(v, "Y<" + x + ">,J", "Object");
        sentence = "If a JOIN or a MEETING is NONE, or the STATE is no longer OPEN, it FAILS";
        // 24 NAMES are THE JOIN, but $0 and 24 NAMES are LONG
        Talk w = with(kinds, 1, "W<" + x + ">:$0", "V<" + x + ">:$0");
        due("step", w.step(), -10);
        due("told(2)", w.told(2), 2);
        due("told(4)", w.told(4), 1);
        Talk y = with(kinds, 1, "Y<" + x + ">:$0", "Z<" + x + ">:$0");
        due("step", y.step(), -10);
        due("told(2)", y.told(2), 2);
        due("told(4)", y.told(4), 0);
    }

    private static void joinIsNone() {
        sentence = "for each the ANCESTORS must all be the same .. else it is NONE (0: NONE)";
        Talk t = with("I;J;L<E>;M<E>:L<E>;N<E>:L<E>,I;");
        joinRight(t, "M<I>,N<I>", "L<I>");
        due("not the same", t.join("M<I>,N<J>"), 0);
        due("FAULT", t.fault(), 0);
        due("tape", t.told(5), 0);
        due("what was WRITTEN stays", t.latest(), "L<I>");
        due("of one KIND", t.join("L<I>,L<J>"), 0);
        due("the third of three", t.join("M<I>,N<I>,L<J>"), 0);
        due("the sixth of six", t.join("M<I>,N<I>,L<I>,M<I>,N<I>,M<J>"), 0);
        joinRight(t, "M<I>,N<I>,L<I>,M<I>,N<I>,M<I>", "L<I>");
        // N is of both, though its ANCESTOR I is the same
        due("N<I>,N<J>", t.join("N<I>,N<J>"), 0);
        joinRight(t, "N<I>,I", "I");
        joinRight(t, "N<I>,J", "Object");
    }

    private static void joinOfMeets() {
        sentence = "ANCESTORS of a MEET are those of its TYPES";
        // $0 is I&J from above, then A, which has more ANCESTORS, is below $1 as well
        String kinds = "I;J;N;K<E>;A:I,J,N;C:J,N;D:K<N>,I;E:N,K<N>;";
        String[] others = {"A", "C", "N", "Run"};
        String[] joins = {"I&J", "J", "Object", "Object"};
        for (int i = 0; i < others.length; i++) {
            Talk t = with(kinds, 2, "$0:I", "$0:J");
            due("step", t.step(), 1);
            t.bounds("$0:$1", others[i] + ":$1");
            due("close", t.close(), OPEN);
            due("step", t.step(), 2);
            due("THE JOIN of I&J and " + others[i], t.solutionOf(1), joins[i]);
        }
        // of I&K<N> and E each has an ANCESTOR K<N>
        Talk u = with(kinds, 2, "$0:I", "$0:K<N>");
        due("step", u.step(), 1);
        u.bounds("$0:$1", "E:$1");
        due("close", u.close(), OPEN);
        due("step", u.step(), 2);
        due("THE JOIN of I&K<N> and E", u.solutionOf(1), "K<N>");
        Talk v = with(kinds, 2, "$0:I", "$0:K<I>");
        due("step", v.step(), 1);
        v.bounds("$0:$1", "E:$1");
        due("close", v.close(), OPEN);
        due("THE JOIN of I&K<I> and E is NONE", v.step(), -11);
        due("told(6)", v.told(6), 1);
    }

    private static void joinLeastKinds() {
        sentence = "the KINDS of which each of them has an ANCESTOR, but those that are a KIND of an ANCESTOR of another one";
        Talk t = with("I;J;K:I;A:K,J;B:J,K;C:I,J;D:I;");
        joinRight(t, "A", "A");
        joinRight(t, "A,A,A", "A");
        joinRight(t, "A,B", "J&K");
        joinRight(t, "A,B,C", "I&J");
        joinRight(t, "A,B,C,D", "I");
        joinRight(t, "A,B,C,D,Run", "Object");
        joinRight(t, "A,K", "K");
        joinRight(t, "K,C", "I");
        joinRight(t, "A,Object", "Object");
        joinRight(t, "Run,Except", "Except");
        joinRight(t, "Run,Throw,Except", "Throw");
        sentence = "together a MEET (one alone is that TYPE). TYPES of a MEET stand by their KINDS' numbers";
        Talk u = with("Z;Y;X;W;A:W,X,Y,Z;B:Y,W,Z,X;");
        joinRight(u, "A,B", "Z&Y&X&W");
        joinRight(u, "B,A", "Z&Y&X&W");
        Talk v = with("A;B;C;D;E;F;G;H;I:A,B,C,D;J:E,F,G,H;K:H,B,D,F;L:A,C,E,G;M:I,J;N:K,L;");
        joinRight(v, "M,N", "A&B&C&D&E&F&G&H");
        joinRight(v, "I,L", "A&C");
    }

    private static void belowPairs() {
        sentence = "Likewise TYPE : TYPE, PROPER: whether the first is BELOW the second: 1, 0";
        Talk t = with("I;J:I;L<E>;M<E>:L<E>;", 1);
        String[] below = {"J:I", "I:I", "J:Object", "Object:Object", "M<J>:L<J>", "M<J>:M<J>", "M<J>:Object"};
        String[] not = {"I:J", "Object:I", "L<J>:M<J>", "M<J>:L<I>", "M<J>:M<I>", "Object:L<I>", "I:L<I>"};
        for (String text : below) {
            due(text, t.below(text), 1);
            due("FAULT", t.fault(), 0);
            due("tape", t.told(5), 0);
        }
        for (String text : not) {
            due(text, t.below(text), 0);
            due("FAULT", t.fault(), 0);
            due("tape", t.told(5), 0);
        }
        belowFault(t, "", 0, 2);
        belowFault(t, "I", 1, 2);
        belowFault(t, "I:", 2, 2);
        belowFault(t, ":I", 0, 2);
        belowFault(t, "I=I", 1, 2);
        belowFault(t, "I:I:I", 3, 2);
        belowFault(t, "I:I,I", 3, 2);
        belowFault(t, "I:I;", 3, 2);
        belowFault(t, "I:I I", 4, 2);
    }

    /** join() and below() change nothing but the tape, the FAULT, and what was WRITTEN. */
    private static void textsChangeNothingElse() {
        sentence = "what answers so changes nothing, but as told";
        for (int state = OPEN; state <= FAILED; state++) {
            Consumer<Talk> told = inState(state).andThen(t -> {
                t.below();
                t.below("I:I");
            });
            ToIntFunction<Talk> below = t -> t.below("L<I>:Object");
            changesNothing("below", told, below, 1);
            ToIntFunction<Talk> not = t -> t.below("Object:L<I>");
            changesNothing("below", told, not, 0);
            ToIntFunction<Talk> join = t -> t.join("P<I,J>");
            changesNothing("join of what was WRITTEN already", told, join, 6);
            ToIntFunction<Talk> none = t -> t.join("L<I>,L<J>");
            changesNothing("join that is NONE", told, none, 0);
        }
        faultStaysAlone(t -> t.variables(2).bounds("$0:Run"), "Run,Ran", Talk::join, 4, 4);
        faultStaysAlone(t -> t.variables(2).bounds("$0:Run"), "Run:Ran", Talk::below, 4, 4);
        faultStaysAlone(t -> t.variables(2).bounds("$0:Run"), "$0:Ran", Talk::bound, 3, 4);
        faultStaysAlone(t -> t.variables(2).bounds("$0:Run"), "Ran:$0;", Talk::kinds, 4, 2);
    }

    private static final String USED = SIZES + "A:I,J;B:J,I;";

    /** Short lives of an object; each leaves it in another way. */
    private static void live(int which, Talk t) {
        switch (which) {
            case 0 -> t.variables(2).bounds("A:$0", "$0:$1").close();
            case 1 -> t.variables(6).bounds("$0=L<$1>", "$1=I", "I=J");
            case 2 -> t.variables(1).bounds("$0=I", names(24) + "=$0");
            case 3 -> t.variables(3).bounds("$2=I", "$1:L<I>", "$1:L<J>").step();
            case 4 -> {
                t.variables(2).bounds("A:$0", "B:$0", "$0:$1").close();
                t.step();
                t.step();
            }
            case 5 -> {
                t.variable(true);
                t.variable(true);
                t.variables(2).bounds("$0:Throw", "$1:A", "$3=P<$0,$1>");
                t.step();
                t.step();
                t.step();
            }
            case 6 -> t.variables(6).bounds("$0=$1", "$1=$2", "$2=$3", "$3=$4", "$4=$5", "I:$0", "J:$0", "Run:$0",
                    "Throw:$0", "Except:$0", "Object:$0").close();
            case 7 -> {
                t.kinds("A;B<T>:A;C<T,U>:B<T>;D:C<D,D>,B<A>;");
                t.variables(1).bounds("$0=" + names(13)).close();
            }
            default -> {
                t.join(names(40) + "," + names(40));
                t.variables(2).bounds("P<$0,$1>=P<F<I,I,I>,L<$0>>");
                t.step();
                t.close();
            }
        }
    }

    private static void usedAgain() {
        sentence = "VARIABLES and BOUNDS are gone, the STATE is OPEN (and nothing of them comes back)";
        for (int first = 0; first <= 8; first++) {
            for (int second = 0; second <= 8; second++) {
                for (int way = 0; way <= 1; way++) {
                    Talk used = with(USED);
                    live(first, used);
                    if (way == 0) {
                        used.fresh();
                    } else {
                        used.kinds(USED);
                    }
                    Talk fresh = with(USED);
                    live(second, used);
                    live(second, fresh);
                    used.join("L<I>");
                    fresh.join("L<I>");
                    due("life " + second + " behind " + first, seen(used), seen(fresh));
                }
            }
        }
    }

    private static void lastCall() {
        sentence = "An object is used for at most 512 calls after it has been made";
        Talk t = new Talk().variables(2).bounds("$0:Throw", "$1:$0").tape("Run,Throw");
        while (t.calls() < 505) {
            due("told(5)", t.told(5), 9);
        }
        due("the 506th: join", t.join(), 5);
        due("the 507th: close", t.close(), OPEN);
        due("the 508th: step", t.step(), 3);
        due("the 509th: told", t.told(6), 2);
        due("the 510th: written", t.written(0), 8);
        due("the 511th: letter", t.letter(7), (int) 'w');
        due("the 512th: fresh", t.fresh(), 6);
        due("calls", t.calls(), 512);
    }
}
