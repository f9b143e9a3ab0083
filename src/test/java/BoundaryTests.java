/**
 * Each sentence of the document's terms 1 to 3 (KINDS, TYPES, BOUNDS) that names a boundary: inputs
 * just inside of it and just outside, what the call answers, and what it changes, or does not
 * change, on each side. CallBoundaryTests has those of SOLVING and of the promises.
 */
public final class BoundaryTests extends Means {
    public static void main(String[] args) {
        constants();
        tapeIsFull();
        tapeIsEmptied();
        tapeStays();
        blanks();
        firstBytes();
        secondBytes();
        bytesBehind();
        longNames();
        variableTokens();
        endsTooEarly();
        kindsAlwaysThere();
        parametersAreKnown();
        itselfIsKnown();
        withoutParents();
        argumentsForParameters();
        leastOfOneToken();
        toldAlready();
        sixteenKinds();
        sixteenthKind();
        threeParameters();
        fourParents();
        withinFourOthers();
        ancestorsOfSixteen();
        metAtTheSemicolon();
        twoAncestorsOfOneKind();
        boundsThatSayNothing();
        boundsWithoutMeets();
        boundsThatAreOne();
        reduceEqualLong();
        reduceBelowLong();
        ancestorLong();
        argumentsLong();
        meetsAreReduced();
        roundSames();
        roundLowersAndUppers();
        roundUppers();
        roundUppersAncestor();
        roundFillsIn();
        closingMany();
        closingOrder();
        roundsAreCounted();
        finish();
    }

    private static void constants() {
        sentence = "NONE = -1, BAD = -2, FULL = -3, STATE = -4, OPEN = 0, FALSE = 1, CUT = 2, FAILED = 3";
        int[] all = {InferResolve.NONE, InferResolve.BAD, InferResolve.FULL, InferResolve.STATE,
            InferResolve.OPEN, InferResolve.FALSE, InferResolve.CUT, InferResolve.FAILED};
        int[] want = {NONE, BAD, FULL, STATE, OPEN, FALSE, CUT, FAILED};
        for (int i = 0; i < all.length; i++) {
            due("constant " + i, all[i], want[i]);
        }
    }

    // ---------------------------------------------------------------- THE TAPE

    private static void tapeIsFull() {
        sentence = "THE TAPE has at most 600 bytes";
        for (int n = 1; n <= 8; n++) {
            // with n bytes it is full to the brim, with n + 1 it would be over
            String text = "Run:Run" + many(" ", 593 - n);
            Talk t = new Talk().tape(text);
            due("told(5)", t.told(5), 600 - n);
            if (n < 8) {
                due("feed of " + (n + 1) + " behind " + (600 - n), t.feed(0x4141414141414141L, n + 1), FULL);
                due("feed of 8 behind " + (600 - n), t.feed(0x4141414141414141L, 8), FULL);
            }
            due("told(5)", t.told(5), 600 - n);
            due("feed of " + n + " behind " + (600 - n), t.feed(0x2020202020202020L, n), 600);
            due("feed of 1 behind 600", t.feed('A', 1), FULL);
            due("feed of 8 behind 600", t.feed('A', 8), FULL);
            due("told(5)", t.told(5), 600);
            due("nothing of what was FULL is there", t.below(), 1);
            due("told(5)", t.told(5), 0);
            due("feed of 1 behind it", t.feed('A', 1), 1);
        }
        changesNothing("feed of 1 behind 600", t -> t.tape(many(" ", 600)), t -> t.feed('A', 1), FULL);
        sentence = "Calls answer, in this order, NONE, BAD, FULL, STATE";
        for (int n : new int[] {0, 9, -1, Integer.MIN_VALUE, Integer.MAX_VALUE}) {
            changesNothing("feed of " + n + " behind 600", t -> t.tape(many(" ", 600)), t -> t.feed('A', n), BAD);
        }
        sentence = "how many bytes there are, if it ends too early";
        joinFault(new Talk().tape(many(" ", 599)), " ", 600, 2);
        joinFault(new Talk().tape(many(" ", 592)), "Run,Run,", 600, 2);
        joinFault(new Talk().tape(many(" ", 592)), "Run,Runs", 596, 4);
        due("a full text of KINDS", new Talk().kinds(many(" ", 600)), 4);
        due("a full text of KINDS", new Talk().kinds("A" + many(" ", 598) + ";"), 5);
        sentence = "n is not 1 .. 8";
        for (int n : FAR) {
            changesNothing("feed of " + n, t -> t.tape("Run"), t -> t.feed(-1L, n), BAD);
        }
        changesNothing("feed of 0", t -> t.tape("Run"), t -> t.feed(-1L, 0), BAD);
        changesNothing("feed of 9", t -> t.tape("Run"), t -> t.feed(-1L, 9), BAD);
        sentence = "The lowest n bytes of w, the highest of these first";
        long word = 0x52756e3a52756e20L;
        for (int n = 1; n <= 8; n++) {
            // the text begins with blanks, and what of w lies above the lowest n bytes is no token
            long high = n == 8 ? 0 : -1L << 8 * n;
            Talk t = new Talk().tape("Run:Run ".substring(0, 8 - n));
            long low = n == 8 ? word : word & ~high;
            due("feed of " + n, t.feed(low | high, n), 8);
            due("Run:Run", t.below(), 1);
        }
    }

    private static final String[] TAKERS = {"kinds", "bound", "join", "below"};

    private static int take(Talk t, String call) {
        switch (call) {
            case "kinds":
                return t.kinds();
            case "bound":
                return t.bound();
            case "join":
                return t.join();
            default:
                return t.below();
        }
    }

    private static void tapeIsEmptied() {
        sentence = "what takes it as a text empties it, right or not";
        String[] right = {"A;B:A;", "$0=Run", "Run,Throw", "Run:Throw"};
        int[] answers = {6, 1, 5, 1};
        String[] not = {"A;B:C;", "$0=Ran", "Run,Thraw", "Run:Thraw"};
        int[] places = {4, 3, 4, 4};
        for (int i = 0; i < TAKERS.length; i++) {
            Talk t = new Talk().variables(1);
            due(TAKERS[i] + " " + not[i], take(t.tape(not[i]), TAKERS[i]), -10 - places[i]);
            due("told(5)", t.told(5), 0);
            due("FAULT", t.fault(), 4);
            due(TAKERS[i] + " " + right[i], take(t.tape(right[i]), TAKERS[i]), answers[i]);
            due("told(5)", t.told(5), 0);
            due("FAULT", t.fault(), 0);
            Talk empty = new Talk().variables(1);
            due(TAKERS[i] + " of an empty tape", take(empty, TAKERS[i]), i == 0 ? 4 : -10);
            due("FAULT", empty.fault(), i == 0 ? 0 : 2);
            due("told(5)", empty.told(5), 0);
        }
    }

    private static void tapeStays() {
        sentence = "what takes it as a text empties it (and nothing else does)";
        Talk t = new Talk().variables(2).bounds("$0=Run").tape("Run:");
        t.fault();
        t.variable(true);
        t.close();
        t.told(5);
        t.told(9);
        t.written(0);
        t.written(5);
        t.letter(0);
        t.hasLetter(99);
        t.next();
        t.step();
        t.solution(0);
        t.solution(-1);
        t.feed(0, 0);
        t.fresh();
        due("told(5)", t.told(5), 4);
        due("what stayed, and more", t.below("Throw"), 1);
    }

    // ---------------------------------------------------------------- TOKENS

    private static void blanks() {
        sentence = "with BLANKS (32) between where one likes";
        Talk t = with("L<E>;P<A,B>;", 1);
        joinRight(t, "P<L<Run>,Run>", "P<L<Run>,Run>");
        joinRight(t, "   P   <   L  <  Run  >  ,  Run   >   ", "P<L<Run>,Run>");
        due("bound", t.bound("  $0  =  L  <  $0  >  "), 1);
        due("BOUND", t.all(), "$0=L<$0>");
        due("below", t.below("  Run  :  Throw  "), 1);
        kindsRight("  A  <  T  ,  U  >  :  Run  ,  Throw  ;  B  ;  ", 6);
        // no blank within a token
        joinFault(t, "R un", 0, 4);
        boundFault(t, "$ 0=Run", 0, 1);
        joinFault(t, "Throw Run", 6, 2);
        for (int c : new int[] {0, 1, 9, 10, 13, 31, 33, 127, 128, 160, 255}) {
            joinFault(t, "Run" + (char) c + ",Run", 3, 1);
            joinFault(t, (char) c + "Run", 0, 1);
            joinFault(t, "Run," + (char) c + "Run", 4, 1);
        }
    }

    /** Every byte where a token begins. */
    private static void firstBytes() {
        sentence = "1 no token begins";
        for (int c = 0; c < 256; c++) {
            String text = String.valueOf((char) c);
            Talk t = new Talk();
            boolean isSign = "<>,;:=".indexOf(c) >= 0;
            int place = c >= 'A' && c <= 'Z' ? 1 : 0;
            due("kinds of byte " + c, t.kinds(text), c == ' ' ? 4 : -10 - place);
            due("FAULT of byte " + c, t.fault(), c == ' ' ? 0 : isSign || place == 1 ? 2 : 1);
        }
    }

    /** Every byte behind the first letter of a NAME. */
    private static void secondBytes() {
        sentence = "NAMES (a letter A .. Z, then letters and digits, 8 at most)";
        for (int c = 0; c < 256; c++) {
            String text = "A" + (char) c + ";";
            Talk t = new Talk();
            boolean isRight = isLetterOrDigit(c) || c == ' ';
            // these three may come behind a NAME, but ; not behind them
            boolean mayCome = c == ';' || c == '<' || c == ':';
            boolean isSign = "<>,;:=".indexOf(c) >= 0;
            due("kinds " + text, t.kinds(text), isRight ? 5 : mayCome ? -12 : -11);
            due("FAULT of " + text, t.fault(), isRight ? 0 : isSign ? 2 : 1);
            if (isLetterOrDigit(c)) {
                joinRight(t, "A" + (char) c, "A" + (char) c);
                joinFault(t, "A", 0, 4);
            }
        }
    }

    /** Every byte behind a whole NAME. */
    private static void bytesBehind() {
        sentence = "TOKENS, as long as can be";
        for (int c = 0; c < 256; c++) {
            Talk t = new Talk();
            String text = "Run" + (char) c;
            if (c == ' ') {
                joinRight(t, text, "Run");
            } else if (isLetterOrDigit(c)) {
                joinFault(t, text, 0, 4);
            } else if (c == ',' || c == '<') {
                joinFault(t, text, 4, 2);
            } else {
                joinFault(t, text, 3, ">;:=".indexOf(c) >= 0 ? 2 : 1);
            }
        }
    }

    private static void longNames() {
        sentence = "1 .. or it is too long";
        for (int n = 1; n <= 8; n++) {
            String name = "Abcdefgh".substring(0, n);
            kindsRight(name + ";", 5);
            Talk t = with(name + "<Z2345678>;B:" + name + "<Run>;", 1);
            joinRight(t, name + "<Run>", name + "<Run>");
            due("below", t.below("B:" + name + "<Run>"), 1);
            due("bound", t.bound("$0:" + name + "<B>"), 1);
            due("BOUND", t.all(), "$0:" + name + "<B>");
        }
        for (String name : new String[] {"Abcdefghi", "A23456789", "ABCDEFGHIJ", "A" + many("z", 400)}) {
            kindsFault(name + ";", 0, 1);
            kindsFault(" " + name, 1, 1);
            kindsFault("A;" + name + ";", 2, 1);
            kindsFault("A<" + name + ">;", 2, 1);
            kindsFault("A<T," + name + ">;", 4, 1);
            kindsFault("A:" + name + ";", 2, 1);
            kindsFault("A:Run," + name + ";", 6, 1);
            kindsFault("A<T>;B:A<" + name + ">;", 9, 1);
            Talk t = with("L<E>;", 1);
            boundFault(t, name + "=$0", 0, 1);
            boundFault(t, "$0:L<" + name + ">", 5, 1);
            joinFault(t, "Run," + name, 4, 1);
            belowFault(t, "Run:" + name, 4, 1);
        }
        // the first eight bytes are a NAME, but the token is longer
        Talk t = with("Abcdefgh;");
        joinFault(t, "Abcdefghi", 0, 1);
        joinRight(t, "Abcdefgh", "Abcdefgh");
    }

    private static void variableTokens() {
        sentence = "VARIABLES ($ and a digit 0 .. 5; one more digit behind is no part of it)";
        for (int c = 0; c < 256; c++) {
            Talk t = with("", 6);
            String text = "$" + (char) c + "=Run";
            if (c >= '0' && c <= '5') {
                due("bound " + text, t.bound(text), 1);
                due("BOUND", t.all(), text);
            } else {
                boundFault(t, text, 0, 1);
            }
        }
        Talk t = with("L<E>;", 6);
        boundFault(t, "Run=$", 4, 1);
        boundFault(t, "$", 0, 1);
        for (int digit = '0'; digit <= '9'; digit++) {
            boundFault(t, "$5" + (char) digit + "=Run", 2, 1);
            boundFault(t, "L<$0" + (char) digit + ">=$0", 4, 1);
        }
        boundFault(t, "$0Run=Run", 2, 2);
        boundFault(t, "$0$1=Run", 2, 2);
        sentence = "a VARIABLE that is not told";
        Talk u = with("L<E>;");
        for (int i = 0; i < 6; i++) {
            boundFault(u, "$" + i + "=Run", 0, 2);
            boundFault(u, "Run:L<$" + i + ">", 6, 2);
            due("variable", u.variable(false), i);
            due("bound", u.bound("$" + i + "=Run"), i + 1);
        }
        u.fresh();
        boundFault(u, "$0=Run", 0, 2);
        sentence = "a VARIABLE in a text of KINDS (can't come)";
        kindsFault("$0;", 0, 2);
        kindsFault("A$0;", 1, 2);
        kindsFault("A<$0>;", 2, 2);
        kindsFault("A:$0;", 2, 2);
        kindsFault("A<T>;B:A<$5>;", 9, 2);
        sentence = "VARIABLES can't come";
        joinFault(t, "$0", 0, 2);
        joinFault(t, "Run,L<$0>", 6, 2);
        belowFault(t, "$0:Run", 0, 2);
        belowFault(t, "Run:$0", 4, 2);
        belowFault(t, "Run:L<$0>", 6, 2);
    }

    private static void endsTooEarly() {
        sentence = "how many bytes there are, if it ends too early";
        String kinds = "Ab<T,Ut>:Run,Throw;B:Ab<Run,Run>;";
        // a NAME that is cut short may be another FAULT, so only whole tokens are told
        int[] ends = {2, 3, 4, 5, 7, 8, 9, 12, 13, 18, 20, 21, 24, 27, 28, 31, 32};
        for (int end : ends) {
            kindsFault(kinds.substring(0, end), end, 2);
            kindsFault(kinds.substring(0, end) + "  ", end + 2, 2);
        }
        kindsRight(kinds.substring(0, 0), 4);
        kindsRight(kinds.substring(0, 19), 5);
        kindsRight(kinds, 6);
        Talk t = with(kinds, 1);
        String bound = "Ab<$0,Run>:$0";
        for (int end : new int[] {0, 3, 5, 6, 9, 10, 11}) {
            boundFault(t, bound.substring(0, end), end, 2);
            boundFault(t, bound.substring(0, end) + " ", end + 1, 2);
        }
        due("bound", t.bound(bound), 1);
        String join = "Ab<Run,Run>,Run";
        for (int end : new int[] {0, 3, 6, 7, 10, 12}) {
            joinFault(t, join.substring(0, end), end, 2);
        }
        joinRight(t, join.substring(0, 11), "Ab<Run,Run>");
        joinRight(t, join, "Run");
        String below = "Ab<Run,B>:Run";
        for (int end : new int[] {0, 3, 6, 7, 8, 9, 10}) {
            belowFault(t, below.substring(0, end), end, 2);
        }
        due("below", t.below(below), 1);
    }

    // ---------------------------------------------------------------- KINDS and FAULTS

    private static void kindsAlwaysThere() {
        sentence = "KINDS 0 .. 3 are there always: Object; Throw: Object; Except: Throw; Run: Except";
        String[] first = {"Object", "Throw", "Except", "Run"};
        String[] texts = {"", "A;", "A;B:A;C<T>:A;"};
        for (String text : texts) {
            Talk t = with(text);
            for (int i = 0; i < 4; i++) {
                for (int j = 0; j < 4; j++) {
                    due(first[i] + " below " + first[j], t.below(first[i] + ":" + first[j]), i >= j ? 1 : 0);
                }
            }
        }
        for (String name : first) {
            kindsFault(name + ";", 0, 3);
            kindsFault("A;" + name + "<T>;", 2, 3);
        }
        sentence = "Those of a text come behind them";
        Talk t = new Talk();
        due("three KINDS", t.kinds("Z;Y;X;"), 7);
        // THE MEETING stands by the KINDS' numbers
        t.variables(1).bounds("$0:X", "$0:Z", "$0:Run", "$0:Y");
        due("step", t.step(), 1);
        due("by their numbers", t.solutionOf(0), "Run&Z&Y&X");
        sentence = "these being all (behind 0 to 3)";
        due("another text", t.kinds("W;"), 5);
        joinFault(t, "Z", 0, 4);
        joinRight(t, "W", "W");
        due("an empty text", t.kinds(""), 4);
        joinFault(t, "W", 0, 4);
        // nor are those of the text before known within ARGUMENTS, nor those of one with a FAULT
        Talk u = with("A;B;C<T>;D;");
        due("a shorter text", u.kinds("L<E>;"), 5);
        due("a longer one with a FAULT", u.kinds("L<E>;M;N<T>;O:X;"), -24);
        for (String name : new String[] {"A", "B", "C", "D", "M", "N", "O", "E", "T"}) {
            joinFault(u, "L<" + name + ">", 2, 4);
            joinFault(u, "Run," + name, 4, 4);
        }
        joinRight(u, "L<Run>", "L<Run>");
        sentence = "-10 less the place of the FAULT: all but the tape stays";
        // the KINDS of the FAULTY text have other PARAMETERS and PARENTS at the same numbers
        Talk v = with("I;L<E>;M<A>:L<A>,I;");
        due("a text with a FAULT", v.kinds("L<X,Y>;M;I:M;I;"), -23);
        due("below", v.below("M<Run>:L<Run>"), 1);
        due("below", v.below("M<Run>:I"), 1);
        joinRight(v, "M<Run>,L<Run>", "L<Run>");
    }

    private static void parametersAreKnown() {
        sentence = "A KIND's PARAMETERS are known in its own PARENTS and hide KINDS of these NAMES there";
        Talk t = with("A;L<T>;M<A>:L<A>;N<Run>:L<Run>;");
        due("M<Run> has L<Run>, not L<A>", t.below("M<Run>:L<Run>"), 1);
        due("M<Run>", t.below("M<Run>:L<A>"), 0);
        due("N<A> has L<A>, not L<Run>", t.below("N<A>:L<A>"), 1);
        due("N<A>", t.below("N<A>:L<Run>"), 0);
        // not behind its own ;
        kindsFault("L<T>;M:L<T>;", 9, 4);
        kindsFault("L<T>;M<T>:L<T>;N<U>:L<T>;", 22, 4);
        joinFault(t, "L<T>", 2, 4);
        // nor ahead of its PARENTS: a PARAMETER has none
        kindsFault("L<T<U>>;", 3, 2);
        sentence = "a PARAMETER as a PARENT itself (can't come)";
        kindsFault("A<T>:T;", 5, 2);
        kindsFault("A<T>:Run,T;", 9, 2);
        kindsFault("A<Run>:Run;", 7, 2);
        kindsRight("A<T>;B<Run>:A<Run>;", 6);
        sentence = "< behind a PARAMETER (can't come)";
        kindsFault("A<T>;B<A>:A<Run>;", 10, 2);
        kindsFault("A<T>;B<T>:A<T<Run>>;", 13, 2);
        kindsFault("L<E>;A<L>;B<L>:A<L<Run>>;", 18, 2);
        kindsRight("L<E>;A<L>;B<T>:A<L<Run>>;", 7);
    }

    private static void itselfIsKnown() {
        sentence = "it itself is known there within ARGUMENTS";
        kindsRight("A<T>;B:A<B>;", 6);
        kindsRight("A<T>;B<U>:A<B<U>>;", 6);
        kindsRight("A<T>;B<U>:A<A<B<B<U>>>>;", 6);
        kindsFault("A<T>;B:B;", 7, 4);
        kindsFault("A<T>;B:A<B>,B;", 12, 4);
        kindsFault("A<T>;B<U>:B<U>;", 10, 4);
        // with as many ARGUMENTS as it has PARAMETERS
        kindsFault("A<T>;B<U>:A<B>;", 12, 4);
        kindsFault("A<T>;B:A<B<Run>>;", 9, 4);
        kindsFault("A<T>;B<U>:A<B<U,U>>;", 12, 4);
        // those that come behind it are not known
        kindsFault("A<T>;B:A<C>;C;", 9, 4);
        Talk t = with("A<T>;B<U>:A<B<B<U>>>;");
        due("below", t.below("B<Run>:A<B<B<Run>>>"), 1);
        due("not below", t.below("B<Run>:A<B<Run>>"), 0);
    }

    private static void withoutParents() {
        sentence = "without PARENTS it has Object";
        Talk t = with("A;B<T>;C:A;D:Run;");
        for (String type : new String[] {"A", "B<A>", "C", "D", "Object", "Run"}) {
            due(type + " below Object", t.below(type + ":Object"), 1);
        }
        due("A below Throw", t.below("A:Throw"), 0);
        due("D below Throw", t.below("D:Throw"), 1);
        joinRight(t, "A,B<A>", "Object");
        joinRight(t, "C,D", "Object");
        kindsFault("A:;", 2, 2);
    }

    private static void argumentsForParameters() {
        sentence = "A TYPE of a KIND has an ARGUMENT for each of its PARAMETERS";
        String[] names = {"A", "B", "C", "D"};
        String kinds = "A;B<T>;C<T,U>;D<T,U,V>;";
        for (int parameters = 0; parameters <= 3; parameters++) {
            for (int arguments = 0; arguments <= 5; arguments++) {
                String type = names[parameters] + (arguments == 0 ? "" : "<Run" + many(",Run", arguments - 1) + ">");
                Talk t = with(kinds, 1);
                if (parameters == arguments) {
                    joinRight(t, type, type);
                    due("below", t.below(type + ":" + type), 1);
                    due("bound", t.bound("$0=" + type), 1);
                    due("BOUND", t.all(), "$0=" + type);
                    kindsRight(kinds + "E:" + type + ";", 9);
                } else {
                    joinFault(t, type, 0, 4);
                    belowFault(t, "Run:" + type, 4, 4);
                    boundFault(t, "$0=" + type, 3, 4);
                    boundFault(t, "B<" + type + ">=$0", 2, 4);
                    kindsFault(kinds + "E:" + type + ";", kinds.length() + 2, 4);
                }
            }
        }
        sentence = "told at the NAME, met when the TYPE is over";
        // what stands within it is met first
        kindsFault("C<T,U>;E:C<X>;", 11, 4);
        kindsFault("C<T,U>;E:C<$0>;", 11, 2);
        kindsFault("C<T,U>;E:C<C<Run>>;", 11, 4);
        kindsFault("C<T,U>;E:C<Run;", 14, 2);
        kindsFault("C<T,U>;E:C<Run", 14, 2);
        // what comes behind it is met later
        kindsFault("C<T,U>;E:C<Run>,X;", 9, 4);
        kindsFault("C<T,U>;E:C<Run>,$0;", 9, 4);
        kindsFault("C<T,U>;E:C<Run>;E;", 9, 4);
        Talk t = with(kinds, 1);
        boundFault(t, "B=X", 0, 4);
        boundFault(t, "B=$1", 0, 4);
        joinFault(t, "B,X", 0, 4);
        belowFault(t, "B:X", 0, 4);
    }

    private static void leastOfOneToken() {
        sentence = "of one token the least";
        String sixteen = "A;B;C;D;E;F;G;H;I;J;K;L;M;N;O;P;";
        kindsFault(sixteen + "Q;", 32, 5);
        kindsFault(sixteen + "A;", 32, 3);
        kindsFault(sixteen + "Object;", 32, 3);
        kindsFault(sixteen + "<;", 32, 2);
        kindsFault(sixteen + "$0;", 32, 2);
        kindsFault(sixteen + "q;", 32, 1);
        kindsFault(sixteen + "Abcdefghi;", 32, 1);
        kindsFault("A<T,U,V,W>;", 8, 5);
        kindsFault("A<T,U,V,U>;", 8, 3);
        kindsFault("A<T,U,V,$0>;", 8, 2);
        kindsFault("A<T,U,V,>;", 8, 2);
        kindsFault("A<T,U,V,w>;", 8, 1);
        String five = "A;B;C;D;E<T>:A,B,C,D,";
        kindsFault(five + "Run;", 21, 5);
        kindsFault(five + "A;", 21, 5);
        kindsFault(five + "X;", 21, 4);
        kindsFault(five + "E<T>;", 21, 4);
        kindsFault(five + "T;", 21, 2);
        kindsFault(five + "$0;", 21, 2);
        kindsFault(five + ";", 21, 2);
        kindsFault(five + "&;", 21, 1);
        String deep = "A<T>;B<U>:A<A<A<A<A<";
        kindsFault(deep + "Run>>>>>;", 20, 5);
        kindsFault(deep + "U>>>>>;", 20, 5);
        kindsFault(deep + "B<U>>>>>>;", 20, 5);
        kindsFault(deep + "X>>>>>;", 20, 4);
        kindsFault(deep + "$0>>>>>;", 20, 2);
        kindsFault(deep + ">>>>>;", 20, 2);
        kindsFault(deep + "x>>>>>;", 20, 1);
        Talk t = with("A<T>;", 1);
        boundFault(t, "$0=A<A<A<A<A<$0>>>>>", 13, 5);
        boundFault(t, "$0=A<A<A<A<A<$1>>>>>", 13, 2);
        boundFault(t, "$0=A<A<A<A<A<X>>>>>", 13, 4);
        boundFault(t, "$0=A<A<A<A<A<$6>>>>>", 13, 1);
        String six = many("Run,", 6);
        joinFault(t, six + "Run", 24, 5);
        joinFault(t, six + "A<Run>", 24, 5);
        joinFault(t, six + "X", 24, 4);
        joinFault(t, six + "$0", 24, 2);
        joinFault(t, six, 24, 2);
        joinFault(t, six + "run", 24, 1);
        sentence = "the first one that reading from the left meets";
        kindsFault("A;a;A;", 2, 1);
        kindsFault("A;A;a;", 2, 3);
        kindsFault("A:X;$0;", 2, 4);
        kindsFault("A<T,T>:X;", 4, 3);
        kindsFault(deep + "Run<x>>>>>>;", 20, 5);
        joinFault(t, "A<X>,x", 2, 4);
    }

    private static void toldAlready() {
        sentence = "3 a NAME of a KIND or PARAMETER that was told already (a PARAMETER: of the same KIND)";
        kindsFault("A;B;A;", 4, 3);
        kindsFault("A;A<T>;", 2, 3);
        kindsFault("A<T,T>;", 4, 3);
        kindsFault("A<T,U,T>;", 6, 3);
        kindsFault("A<T,U,U>;", 6, 3);
        kindsRight("A<T>;B<T>;C<T,U>;D<U,T>;", 8);
        // a PARAMETER may have a KIND's NAME, a KIND a PARAMETER's
        kindsRight("A;B<A>;", 6);
        kindsRight("B<A>;A;", 6);
        kindsRight("B<B>;", 5);
        kindsRight("A<Object,Throw,Run>;", 5);
        // capitals and small letters are not the same, nor is a NAME that another one begins with
        kindsRight("Ab;AB;A;Abc;A1;A2;", 10);
        // those of the text before are no longer told
        Talk t = with("A;B;");
        due("the same text once more", t.kinds("A;B;"), 6);
    }

    private static void sixteenKinds() {
        sentence = "5 the 17th KIND of a text (at its first token)";
        StringBuilder b = new StringBuilder();
        for (int n = 0; n <= 16; n++) {
            kindsRight(b.toString(), 4 + n);
            b.append((char) ('A' + n)).append(n % 3 == 0 ? "<T>;" : ":Run;");
        }
        int place = b.length() - 6;
        kindsFault(b.toString(), place, 5);
        kindsFault(b + "Z;", place, 5);
        // met at the NAME: the rest of it is not looked at
        kindsFault(b.substring(0, place + 1), place, 5);
        kindsFault(b.substring(0, place) + "Z<x", place, 5);
        kindsRight(b.substring(0, place) + "  ", 20);
        Talk t = with(b.substring(0, place));
        joinRight(t, "P<Run>", "P<Run>");
        joinFault(t, "Q", 0, 4);
        due("anew with sixteen", t.kinds(b.substring(0, place)), 20);
        due("anew with seventeen", t.kinds(b.toString()), -10 - place);
        due("told(0)", t.told(0), 20);
    }

    /** The KIND with the highest number is as good as any. */
    private static void sixteenthKind() {
        sentence = "5 the 17th KIND of a text (the 16th is told, and known)";
        String kinds = "A;B;C;D;E;F;G;H;I;J;K;L;M;N<X>;O<X,Y>:N<Y>;P<X,Y,Z>:O<P<X,Y,Z>,X>,M;";
        Talk t = with(kinds, 3);
        due("told(0)", t.told(0), 20);
        due("below", t.below("P<A,B,C>:O<P<A,B,C>,A>"), 1);
        due("below", t.below("P<A,B,C>:O<P<A,C,B>,A>"), 0);
        due("below", t.below("P<A,B,C>:N<A>"), 1);
        due("below", t.below("P<A,B,C>:M"), 1);
        joinRight(t, "P<P<A,B,C>,P<A,B,C>,A>", "P<P<A,B,C>,P<A,B,C>,A>");
        joinRight(t, "P<A,B,C>,O<B,A>,N<A>", "N<A>");
        joinRight(t, "P<A,B,C>,M", "M");
        due("bound", t.bound("P<$0,B,C>:O<$1,$2>"), 2);
        due("BOUNDS", t.all(), "$0=$2 $1=P<$0,B,C>");
        Talk u = with(kinds, 1, "$0:P<A,B,C>", "$0:L", "$0:M");
        due("step", u.step(), 1);
        due("solution", u.solutionOf(0), "L&P<A,B,C>");
        Talk v = with(kinds, 2, "P<A,$1,C>:$0", "$1=P<A,B,C>");
        due("close", v.close(), OPEN);
        due("step", v.step(), 1);
        due("solution", v.solutionOf(0), "P<A,P<A,B,C>,C>");
    }

    private static void threeParameters() {
        sentence = "5 .. the 4th PARAMETER (at its first token)";
        kindsFault("A<>;", 2, 2);
        kindsRight("A;", 5);
        kindsRight("A<T>;", 5);
        kindsRight("A<T,U>;", 5);
        kindsRight("A<T,U,V>;", 5);
        kindsFault("A<T,U,V,W>;", 8, 5);
        kindsFault("A<T,U,V,  W>;", 10, 5);
        kindsFault("A<T,U,V,W", 8, 5);
        kindsFault("A<T,U,V,W,X>;", 8, 5);
        kindsFault("A<T,U,V W>;", 8, 2);
        Talk t = with("A<T,U,V>;B<X,Y,Z>:A<Z,X,Y>;");
        due("each in its place", t.below("B<Run,Throw,Object>:A<Object,Run,Throw>"), 1);
    }

    private static void fourParents() {
        sentence = "5 .. the 5th PARENT (at its first token)";
        String kinds = "A;B;C;D;E;";
        String[] parents = {"A", "A,B", "A,B,C", "A,B,C,D"};
        for (int n = 0; n < 4; n++) {
            Talk t = with(kinds + "F:" + parents[n] + ";");
            for (int k = 0; k < 5; k++) {
                due("F below " + "ABCDE".charAt(k), t.below("F:" + "ABCDE".charAt(k)), k <= n ? 1 : 0);
            }
        }
        kindsFault(kinds + "F:A,B,C,D,E;", 20, 5);
        kindsFault(kinds + "F:A,B,C,D,  E;", 22, 5);
        kindsFault(kinds + "F:A,B,C,D,E", 20, 5);
        kindsFault(kinds + "F:A,A,A,A,A;", 20, 5);
        kindsFault(kinds + "F:A,B,C,D,E<x", 20, 5);
        kindsRight(kinds + "F:A,A,A,A;", 10);
    }

    private static void withinFourOthers() {
        sentence = "5 .. a TYPE within more than 4 others (at it)";
        String kinds = "L<A>;P<A,B>;";
        String[] types = {"Run", "L<Run>", "L<L<Run>>", "L<L<L<Run>>>", "L<L<L<L<Run>>>>"};
        for (String type : types) {
            Talk t = with(kinds, 1);
            joinRight(t, type, type);
            due("below", t.below(type + ":" + type), 1);
            due("bound", t.bound(type + ":$0"), 1);
            due("BOUND", t.all(), type + ":$0");
            kindsRight(kinds + "M:" + type + ";", 7);
        }
        String five = "L<L<L<L<L<Run>>>>>";
        Talk t = with(kinds, 1);
        joinFault(t, five, 10, 5);
        joinFault(t, "Run," + five, 14, 5);
        belowFault(t, five + ":Run", 10, 5);
        belowFault(t, "Run:" + five, 14, 5);
        boundFault(t, five + "=$0", 10, 5);
        boundFault(t, "$0=" + five, 13, 5);
        boundFault(t, "$0=" + five.replace("Run", "$0"), 13, 5);
        kindsFault(kinds + "M:" + five + ";", 24, 5);
        kindsFault(kinds + "M<T>:" + five.replace("Run", "T") + ";", 27, 5);
        kindsFault(kinds + "M<T>:" + five.replace("Run", "M<T>") + ";", 27, 5);
        // the second ARGUMENT is as deep as the first
        joinRight(t, "P<Run,L<L<L<Run>>>>", "P<Run,L<L<L<Run>>>>");
        joinFault(t, "P<Run,L<L<L<L<Run>>>>>", 14, 5);
        // which then is over: the next one is not as deep
        joinRight(t, "P<L<L<L<Run>>>,L<L<L<Run>>>>", "P<L<L<L<Run>>>,L<L<L<Run>>>>");
        joinFault(t, "P<L<L<L<Run>>>,L<L<L<L<Run>>>>>", 23, 5);
    }

    private static void ancestorsOfSixteen() {
        sentence = "a KIND one of whose ANCESTORS, but itself, is longer than 16 (at its NAME)";
        for (int n = 5; n <= 16; n++) {
            kindsRight(SIZES + "M:" + names(n) + ";", 10);
            kindsRight(SIZES + "M<T>:" + names(n).replace("I", "T") + ";", 10);
        }
        kindsFault(SIZES + "M:" + names(17) + ";", 25, 5);
        kindsFault(SIZES + "M<T>:" + names(17).replace("I", "T") + ";", 25, 5);
        kindsFault(SIZES + "  M:" + names(40) + ";", 27, 5);
        kindsFault(SIZES + "M:" + names(5) + "," + pair(17) + ";", 25, 5);
        kindsRight(SIZES + "M:" + names(16) + "," + pair(16) + ";", 10);
        // M has L of 3 and of n NAMES; so N has one of 2 + n, though its own PARENT is shorter
        String m = "M<T>:L<L<T>>;";
        kindsRight(SIZES + m + "N:M<" + names(14) + ">;", 11);
        kindsFault(SIZES + m + "N:M<" + names(15) + ">;", 25 + m.length(), 5);
        // an ANCESTOR of an ANCESTOR
        String o = "M<T>:L<L<T>>;O<T>:M<T>;";
        kindsRight(SIZES + o + "N:O<" + names(14) + ">;", 12);
        kindsFault(SIZES + o + "N:O<" + names(15) + ">;", 25 + o.length(), 5);
        // a KIND that is told with TYPES of itself has these in its ANCESTORS
        kindsRight(SIZES + "M:" + names(16).replace("I", "M") + ";", 10);
        kindsFault(SIZES + "M:" + names(17).replace("I", "M") + ";", 25, 5);
        // of TYPES in texts of bounds, joins and pairs an ANCESTOR may be longer
        Talk t = with(SIZES + "U<T>:P<T,T>;");
        due("below", t.below("U<" + names(13) + ">:P<" + names(13) + "," + names(13) + ">"), 1);
    }

    private static void metAtTheSemicolon() {
        sentence = "met when its ; is there";
        String longOne = SIZES + "M:" + names(17);
        int end = longOne.length();
        kindsFault(longOne, end, 2);
        kindsFault(longOne + " A;", end + 1, 2);
        kindsFault(longOne + ",X;", end + 1, 4);
        kindsFault(longOne + ",x;", end + 1, 1);
        kindsFault(longOne + ";", 25, 5);
        kindsFault(longOne + ";x", 25, 5);
        String twoOfOne = SIZES + "M:L<I>,L<J>";
        int behind = twoOfOne.length();
        kindsFault(twoOfOne, behind, 2);
        kindsFault(twoOfOne + ",X;", behind + 1, 4);
        kindsFault(twoOfOne + ";", 25, 6);
        kindsFault(twoOfOne + ";x", 25, 6);
        kindsFault(twoOfOne + ";M;", 25, 6);
        sentence = "6 .. behind 5";
        kindsFault(SIZES + "M:L<I>,L<J>," + names(17) + ";", 25, 5);
        kindsFault(SIZES + "M:L<I>,L<J>," + names(16) + ";", 25, 6);
    }

    private static void twoAncestorsOfOneKind() {
        sentence = "6 a KIND that has two ANCESTORS of one KIND that are not the same";
        String kinds = "L<E>;M<E>:L<E>;N<E>:L<L<E>>;";
        int at = kinds.length();
        kindsRight(kinds + "X:L<Run>,L<Run>;", 8);
        kindsFault(kinds + "X:L<Run>,L<Throw>;", at, 6);
        kindsRight(kinds + "X:M<Run>,L<Run>;", 8);
        kindsRight(kinds + "X:L<Run>,M<Run>;", 8);
        kindsFault(kinds + "X:M<Run>,L<Throw>;", at, 6);
        kindsFault(kinds + "X:L<Throw>,M<Run>;", at, 6);
        kindsRight(kinds + "X:M<L<Run>>,N<Run>;", 8);
        kindsFault(kinds + "X:M<Run>,N<Run>;", at, 6);
        kindsRight(kinds + "X<T>:M<L<T>>,N<T>;", 8);
        kindsFault(kinds + "X<T,U>:M<T>,L<U>;", at, 6);
        kindsFault(kinds + "X<T>:M<T>,L<Run>;", at, 6);
        kindsRight(kinds + "X:M<X>,L<X>;", 8);
        kindsFault(kinds + "X:M<X>,L<Run>;", at, 6);
        // the fourth PARENT as well as the first
        kindsRight(kinds + "X:Run,Throw,M<Run>,L<Run>;", 8);
        kindsFault(kinds + "X:Run,Throw,M<Run>,L<Throw>;", at, 6);
        // what two of the same KIND have within ARGUMENTS is no ANCESTOR
        kindsRight("P<A,B>;L<E>;X:P<L<Run>,L<Throw>>;", 7);
    }

    // ---------------------------------------------------------------- BOUNDS

    private static void toldTo(String kinds, int variables, String text, int state, String bounds) {
        Talk t = with(kinds, variables);
        int count = bounds.isEmpty() ? 0 : bounds.split(" ").length;
        due("bound " + text, t.bound(text), count);
        due("FAULT of " + text, t.fault(), 0);
        due("STATE behind " + text, t.told(3), state);
        due("BOUNDS behind " + text, t.all(), bounds);
        due("ROUNDS behind " + text, t.told(4), 0);
        due("tape behind " + text, t.told(5), 0);
    }

    private static void boundsThatSayNothing() {
        sentence = "$i = $i, $i : $i, and $i : Object are none (they say nothing)";
        String kinds = "L<E>;P<A,B>;";
        for (int i = 0; i < 6; i++) {
            String v = "$" + i;
            toldTo(kinds, 6, v + "=" + v, OPEN, "");
            toldTo(kinds, 6, v + ":" + v, OPEN, "");
            toldTo(kinds, 6, v + ":Object", OPEN, "");
            toldTo(kinds, 6, v + "=Object", OPEN, v + "=Object");
            toldTo(kinds, 6, "Object:" + v, OPEN, "Object:" + v);
            toldTo(kinds, 6, v + ":Throw", OPEN, v + ":Throw");
            toldTo(kinds, 6, v + ":L<Object>", OPEN, v + ":L<Object>");
            toldTo(kinds, 6, v + ":L<" + v + ">", OPEN, v + ":L<" + v + ">");
            toldTo(kinds, 6, v + "=L<" + v + ">", OPEN, v + "=L<" + v + ">");
        }
        toldTo(kinds, 2, "$0:$1", OPEN, "$0:$1");
        toldTo(kinds, 2, "$1:$0", OPEN, "$1:$0");
        // nor when they come of others
        toldTo(kinds, 2, "P<$0,$1>=P<$0,$1>", OPEN, "");
        toldTo(kinds, 2, "P<$0,$1>=P<$1,$1>", OPEN, "$0=$1");
        Talk t = with(kinds, 2, "$0:$1", "$1=Object");
        due("close", t.close(), OPEN);
        due("$0 : Object does not come", t.all(), "$1=Object $0:$1");
        Talk u = with(kinds, 2, "$0:$1", "$1:$0");
        due("close", u.close(), OPEN);
        due("$0 : $0 does not come", u.all(), "$0:$1 $1:$0");
        due("ROUNDS", u.told(4), 1);
    }

    private static void boundsWithoutMeets() {
        sentence = "In texts of bounds TYPES are as above (with VARIABLES, without MEETS; a NAME is a KIND's)";
        Talk t = with("I;J;L<E>;", 2);
        boundFault(t, "$0=I&J", 4, 1);
        boundFault(t, "I&J:$0", 1, 1);
        boundFault(t, "$0=L<I&J>", 6, 1);
        boundFault(t, "$0=E", 3, 4);
        boundFault(t, "$0=L<E>", 5, 4);
        boundFault(t, "$0=$1<I>", 5, 2);
        due("bound", t.bound("L<$0>=L<$1>"), 1);
        due("bound", t.bound("L<$0>:$1"), 2);
        due("BOUNDS", t.all(), "$0=$1 L<$0>:$1");
    }

    private static void boundsThatAreOne() {
        sentence = "S = T and T = S are one";
        Talk t = with("L<E>;", 3, "$0=Run");
        due("turned", t.bound("Run=$0"), 1);
        due("two VARIABLES", t.bound("$1=$0"), 2);
        due("turned", t.bound("$0=$1"), 2);
        due("BOUNDS", t.all(), "$0=$1 $0=Run");
        sentence = "S : T (S is to be BELOW T)";
        due("the one way", t.bound("$0:$1"), 3);
        due("the other way", t.bound("$1:$0"), 4);
        due("once more", t.bound("$0:$1"), 4);
        due("BOUNDS", t.all(), "$0=$1 $0=Run $0:$1 $1:$0");
    }

    private static void reduceEqualLong() {
        sentence = "TO REDUCE is LONG, and nothing comes of it, if S and T together are longer than 24 (ahead of all else)";
        // a BOUND: 1 + 23, 1 + 24
        toldTo(SIZES, 1, "$0=" + names(23), OPEN, "$0=" + names(23));
        toldTo(SIZES, 1, "$0=" + names(24), CUT, "");
        toldTo(SIZES, 1, names(23) + "=$0", OPEN, "$0=" + names(23));
        toldTo(SIZES, 1, names(24) + "=$0", CUT, "");
        // VARIABLES within count as NAMES do
        String some = names(24).replace("I", "$0");
        toldTo(SIZES, 2, "$1=" + some, CUT, "");
        toldTo(SIZES, 2, "$1=" + names(23).replace("I", "$0"), OPEN, "$1=" + names(23).replace("I", "$0"));
        // both the same: 12 + 12, 13 + 13
        toldTo(SIZES, 1, names(12) + "=" + names(12), OPEN, "");
        toldTo(SIZES, 1, names(13) + "=" + names(13), CUT, "");
        // FALSE: 12 + 12, 12 + 13
        toldTo(SIZES, 1, names(12) + "=" + pair(12), FALSE, "");
        toldTo(SIZES, 1, names(12) + "=" + pair(13), CUT, "");
        toldTo(SIZES, 1, "J=" + names(23), FALSE, "");
        toldTo(SIZES, 1, "J=" + names(24), CUT, "");
        // ARGUMENTS two by two: P<$0, n> = P<J, n>
        toldTo(SIZES, 1, "P<$0," + names(10) + ">=P<J," + names(10) + ">", OPEN, "$0=J");
        toldTo(SIZES, 1, "P<$0," + names(10) + ">=P<J," + names(11) + ">", CUT, "");
    }

    private static void reduceBelowLong() {
        sentence = "TO REDUCE is LONG, and nothing comes of it, if S and T together are longer than 24 (ahead of all else)";
        toldTo(SIZES, 1, "$0:" + names(23), OPEN, "$0:" + names(23));
        toldTo(SIZES, 1, "$0:" + names(24), CUT, "");
        toldTo(SIZES, 1, names(23) + ":$0", OPEN, names(23) + ":$0");
        toldTo(SIZES, 1, names(24) + ":$0", CUT, "");
        toldTo(SIZES, 1, names(12) + ":" + names(12), OPEN, "");
        toldTo(SIZES, 1, names(13) + ":" + names(13), CUT, "");
        toldTo(SIZES, 1, names(12) + ":" + pair(12), FALSE, "");
        toldTo(SIZES, 1, names(12) + ":" + pair(13), CUT, "");
        toldTo(SIZES, 1, names(23) + ":Object", OPEN, "");
        toldTo(SIZES, 1, names(24) + ":Object", CUT, "");
        toldTo(SIZES, 1, names(23) + ":J", FALSE, "");
        toldTo(SIZES, 1, names(24) + ":J", CUT, "");
        toldTo(SIZES, 1, "P<$0," + names(10) + ">:P<J," + names(10) + ">", OPEN, "$0=J");
        toldTo(SIZES, 1, "P<$0," + names(10) + ">:P<J," + names(11) + ">", CUT, "");
    }

    private static void ancestorLong() {
        sentence = "FALSE, if S has no ANCESTOR of T's KIND; LONG, if that is longer than 24";
        // W<n> has P<n, fourteen>, of 15 + n NAMES
        String kinds = SIZES + "W<X>:P<X," + names(14) + ">;";
        String fourteen = names(14);
        toldTo(kinds, 2, "W<" + names(9) + ">:P<$0,$1>", OPEN, "$0=" + names(9) + " $1=" + fourteen);
        toldTo(kinds, 2, "W<" + names(10) + ">:P<$0,$1>", CUT, "");
        // it has no such ANCESTOR, or a short one
        toldTo(kinds, 2, "W<" + names(10) + ">:L<$0>", FALSE, "");
        toldTo(kinds, 2, "W<" + names(10) + ">:Object", OPEN, "");
        toldTo(kinds, 2, "W<" + names(10) + ">:W<$0>", OPEN, "$0=" + names(10));
    }

    private static void argumentsLong() {
        sentence = "the ARGUMENTS of that ANCESTOR and of T are REDUCED, two by two, by =";
        // W<9> has P<P<9, 9>, I>, whose first ARGUMENT has 19 NAMES: 19 + 5, 19 + 6
        String kinds = SIZES + "W<X>:P<P<X,X>,I>;";
        String nine = "P<F<I,I,I>,F<I,I,I>>";
        toldTo(kinds, 4, "W<" + nine + ">:P<P<$0,P<$1,$2>>,$3>", OPEN,
                "$0=" + nine + " $1=F<I,I,I> $2=F<I,I,I> $3=I");
        toldTo(kinds, 4, "W<" + nine + ">:P<P<$0,P<$1,L<$2>>>,$3>", CUT, "$3=I");
        // FALSE goes ahead of LONG, and what came of the others is there
        toldTo(kinds, 4, "W<" + nine + ">:P<P<$0,P<$1,L<$2>>>,J>", FALSE, "");
        toldTo("P<A,B>;", 2, "P<$0,P<Run,$1>>=P<Throw,P<Throw,Run>>", FALSE, "$0=Throw $1=Run");
    }

    private static void meetsAreReduced() {
        sentence = "FALSE, if one is a MEET, or they are of different KINDS";
        String kinds = "I;J;A:I,J;B:I,J;L<E>;";
        Talk t = with(kinds, 1, "A:$0", "B:$0");
        due("step", t.step(), 1);
        due("a MEET", t.solutionOf(0), "I&J");
        due("another TYPE", t.bound("$0=I"), 4);
        due("close", t.close(), FALSE);
        Talk u = with(kinds, 2, "A:$0", "B:$0", "A:$1", "B:$1");
        due("step", u.step(), 1);
        due("step", u.step(), 2);
        due("the same MEET", u.bound("$0=$1"), 7);
        due("close", u.close(), OPEN);
        sentence = "if T is a MEET: S : each of its TYPES";
        Talk v = with(kinds, 1, "A:$0", "B:$0");
        v.step();
        v.bound("A:$0");
        due("below both", v.close(), OPEN);
        v.bound("I:$0");
        due("below one", v.close(), FALSE);
        sentence = "a MEET is BELOW what one of it is BELOW";
        for (String above : new String[] {"I", "J", "Object"}) {
            Talk w = with(kinds, 1, "A:$0", "B:$0");
            w.step();
            w.bound("$0:" + above);
            due("close with " + above, w.close(), OPEN);
        }
        for (String above : new String[] {"A", "Run", "L<I>"}) {
            Talk w = with(kinds, 1, "A:$0", "B:$0");
            w.step();
            w.bound("$0:" + above);
            due("close with " + above, w.close(), FALSE);
        }
    }

    // ---------------------------------------------------------------- CLOSING

    private static void closesTo(String kinds, int variables, int state, String bounds, String... told) {
        Talk t = with(kinds, variables, told);
        String what = String.join(" ", told);
        due("STATE ahead of close of " + what, t.told(3), OPEN);
        due("close of " + what, t.close(), state);
        due("STATE of " + what, t.told(3), state);
        due("BOUNDS of " + what, t.all(), bounds);
    }

    private static void roundSames() {
        sentence = "$i = S and $i = T: S = T (the same one twice, too)";
        closesTo(SIZES, 1, OPEN, "$0=" + names(12), "$0=" + names(12));
        closesTo(SIZES, 1, CUT, "$0=" + names(13), "$0=" + names(13));
        // 11 + 13 are FALSE, 11 + 14 LONG, but then 14 + 14 are LONG anyhow
        closesTo(SIZES, 1, FALSE, "$0=" + names(12) + " $0=" + names(11), "$0=" + names(11), "$0=" + names(12));
        closesTo(SIZES, 1, CUT, "$0=" + names(14) + " $0=" + names(11), "$0=" + names(11), "$0=" + names(14));
        sentence = "where $i = $j counts as $j = $i, too";
        closesTo(SIZES, 2, OPEN, "$0=$1 $0=I $1=I", "$0=$1", "$1=I");
        closesTo(SIZES, 2, OPEN, "$0=$1 $0=I $1=I", "$0=$1", "$0=I");
        closesTo(SIZES, 2, OPEN, "$0=$1 I:$0 I:$1", "$0=$1", "I:$1");
        closesTo(SIZES, 2, OPEN, "$0=$1 $0:I $1:I", "$0=$1", "$1:I");
        sentence = "$i = S and $i : T: S : T.   $i = S and T : $i: T : S";
        closesTo(SIZES, 1, OPEN, "$0=" + names(12) + " $0:" + names(12), "$0=" + names(12), "$0:" + names(12));
        closesTo(SIZES, 1, FALSE, "$0=" + names(11) + " $0:" + pair(13), "$0=" + names(11), "$0:" + pair(13));
        closesTo(SIZES, 1, CUT, "$0=" + names(12) + " $0:" + pair(13), "$0=" + names(12), "$0:" + pair(13));
        closesTo(SIZES, 1, OPEN, "$0=" + names(12) + " " + names(12) + ":$0", "$0=" + names(12), names(12) + ":$0");
        closesTo(SIZES, 1, FALSE, "$0=" + names(11) + " " + pair(13) + ":$0", "$0=" + names(11), pair(13) + ":$0");
        closesTo(SIZES, 1, CUT, "$0=" + names(12) + " " + pair(13) + ":$0", "$0=" + names(12), pair(13) + ":$0");
    }

    private static void roundLowersAndUppers() {
        sentence = "S : $i and $i : T: S : T";
        closesTo(SIZES, 1, OPEN, "$0:" + names(12) + " " + names(12) + ":$0", "$0:" + names(12), names(12) + ":$0");
        closesTo(SIZES, 1, FALSE, "$0:" + pair(11) + " " + names(13) + ":$0", "$0:" + pair(11), names(13) + ":$0");
        closesTo(SIZES, 1, CUT, "$0:" + pair(12) + " " + names(13) + ":$0", "$0:" + pair(12), names(13) + ":$0");
        // those that stand on one side alone are no pair
        closesTo(SIZES, 1, OPEN, names(20) + ":$0 " + pair(20) + ":$0", names(20) + ":$0", pair(20) + ":$0");
        // ($1 : S and $0 : $1 tell $0 : S)
        closesTo(SIZES, 2, OPEN, "$0:$1 $0:" + names(20) + " $1:" + names(20), "$0:$1", "$1:" + names(20));
        closesTo(SIZES, 2, OPEN, "$0:$1 " + names(20) + ":$0 " + names(20) + ":$1", "$0:$1", names(20) + ":$0");
    }

    private static void roundUppers() {
        sentence = "$i : S and $i : T: .. the ARGUMENTS of both, two by two, by =";
        // one ARGUMENT twice: 12 + 12, 13 + 13
        closesTo(SIZES, 1, OPEN, "$0:L<" + names(12) + ">", "$0:L<" + names(12) + ">");
        closesTo(SIZES, 1, CUT, "$0:L<" + names(13) + ">", "$0:L<" + names(13) + ">");
        // 11 + 13 are LONG for the second one with itself alone
        closesTo(SIZES, 2, FALSE, "$0:L<" + names(11) + "> $0:L<" + pair(12) + ">",
                "$0:L<" + names(11) + ">", "$0:L<" + pair(12) + ">");
        sentence = "for each KIND with PARAMETERS of which S and T both have an ANCESTOR (S, T no VARIABLES)";
        closesTo("I;J;K:I,J;", 1, OPEN, "$0:I $0:J $0:K", "$0:I", "$0:J", "$0:K");
        closesTo(SIZES, 1, OPEN, "$0:L<I> $0:P<J,J>", "$0:L<I>", "$0:P<J,J>");
        closesTo(SIZES, 3, OPEN, "$0:$1 $0:$2", "$0:$1", "$0:$2");
        closesTo(SIZES, 2, OPEN, "$0:$1 $0:L<I>", "$0:$1", "$0:L<I>");
        String two = "A<T>;B<T>;C<T>:A<T>,B<T>;D<T>:A<T>,B<T>;";
        closesTo(two, 2, OPEN, "$1=Run $0:C<$1> $0:C<Run> $0:D<Run>", "$0:C<$1>", "$0:D<Run>");
        closesTo(two, 1, FALSE, "$0:C<Run> $0:D<Throw>", "$0:C<Run>", "$0:D<Throw>");
        closesTo(two, 1, OPEN, "$0:A<Run> $0:B<Throw>", "$0:A<Run>", "$0:B<Throw>");
    }

    private static void roundUppersAncestor() {
        sentence = "LONG, if one of these is longer than 24";
        // W<7> has F of 24 NAMES, Y<7> one of 25; no two ARGUMENTS of it are longer than 24
        String kinds = SIZES + "W<X>:F<L<X>,L<X>,X>;Y<X>:F<L<X>,L<X>,L<X>>;";
        String w = "$0:W<" + names(7) + ">";
        String y = "$0:Y<" + names(7) + ">";
        closesTo(kinds, 1, OPEN, w, w);
        closesTo(kinds, 1, CUT, y, y);
        // nothing comes of the ANCESTOR that is too long
        String of = "$0:F<$1,$2,$3>";
        String seven = names(7);
        Talk t = with(kinds, 4, w, of);
        due("close", t.close(), CUT);
        due("three are filled in, one by one, then $0 and 24 NAMES are LONG", t.told(4), 4);
        due("what came", t.solutionOf(1) + " " + t.solutionOf(2) + " " + t.solutionOf(3),
                "L<" + seven + "> L<" + seven + "> " + seven);
        Talk u = with(kinds, 4, y, of);
        due("close", u.close(), CUT);
        due("ROUNDS", u.told(4), 1);
        due("what came", u.all(), of + " " + y);
    }

    private static void roundFillsIn() {
        sentence = "$i = U, U PROPER, and any BOUND in which $i stands within an ARGUMENT";
        // 1 + P<11, 11> are 24, 1 + P<11, L<11>> are 25
        String eleven = names(11);
        closesTo(SIZES, 2, OPEN, "$1=" + eleven + " $0:P<$1,$1> $0:P<" + eleven + "," + eleven + ">",
                "$0:P<$1,$1>", "$1=" + eleven);
        closesTo(SIZES, 2, CUT, "$1=" + eleven + " $0:P<$1,L<$1>>", "$0:P<$1,L<$1>>", "$1=" + eleven);
        closesTo(SIZES, 2, OPEN, "$1=" + eleven + " P<$1,$1>:$0 P<" + eleven + "," + eleven + ">:$0",
                "P<$1,$1>:$0", "$1=" + eleven);
        closesTo(SIZES, 2, CUT, "$1=" + eleven + " P<$1,L<$1>>:$0", "P<$1,L<$1>>:$0", "$1=" + eleven);
        // not PROPER, or not within an ARGUMENT: nothing is filled in
        closesTo(SIZES, 3, OPEN, "$1=L<$2> $0:P<$1,$1>", "$0:P<$1,$1>", "$1=L<$2>");
        closesTo(SIZES, 2, OPEN, "$1=I $0:$1 $0:I", "$0:$1", "$1=I");
        sentence = "that with U in the place of each $i within ARGUMENTS (and where it stands alone, too)";
        closesTo(SIZES, 2, OPEN, "$1=I $0:F<$1,J,L<$1>> $0:F<I,J,L<I>>", "$0:F<$1,J,L<$1>>", "$1=I");
        closesTo(SIZES, 1, FALSE, "$0=I $0:L<$0>", "$0:L<$0>", "$0=I");
        // I : C<I> is told by that, and not $0 : C<I>
        closesTo("C<T>;I:C<I>;", 1, OPEN, "$0=I $0:C<$0>", "$0:C<$0>", "$0=I");
    }

    private static void closingMany() {
        sentence = "or there are more than 48 BOUNDS behind it, CUT";
        // five that are the same have 10 BOUNDS with =, and 5 for each of seven TYPES below one of them
        String kinds = "I;J;K;";
        String[] told = {"$0=$1", "$1=$2", "$2=$3", "$3=$4", "I:$0", "J:$0", "K:$0", "Run:$0", "Throw:$0",
            "Except:$0", "Object:$0", "$5:I", "$5:J"};
        Talk t = with(kinds, 6, told);
        due("47", t.close(), OPEN);
        due("BOUNDS", t.told(2), 47);
        Talk u = with(kinds, 6, told).bounds("$5:K");
        due("48", u.close(), OPEN);
        due("BOUNDS", u.told(2), 48);
        due("once more", u.close(), OPEN);
        due("ROUNDS", u.told(4), 1);
        due("BOUNDS", u.told(2), 48);
        Talk v = with(kinds, 6, told).bounds("$5:K", "$5:Run");
        due("49", v.close(), CUT);
        due("STATE", v.told(3), CUT);
        due("BOUNDS", v.told(2), 49);
        due("STATE", v.close(), STATE);
        // FALSE goes ahead of it
        Talk w = with(kinds, 6, told).bounds("$5:K", "$5:Run", "$5=Throw");
        due("FALSE", w.close(), FALSE);
        // a STEP that goes beyond 48 FAILS
        due("u.next()", u.next(), 32);
        due("the 49th BOUND is $5=Run or a MEET", u.step(), -15);
        due("BOUNDS", u.told(2), 49);
        due("STATE", u.told(3), FAILED);
        Talk x = with(kinds, 6, told);
        due("close", x.close(), OPEN);
        due("the 48th", x.step(), 32);
        due("BOUNDS", x.told(2), 48);
        due("STATE", x.told(3), OPEN);
    }

    private static void closingOrder() {
        sentence = "if FALSE came in it (all else that comes in it is there, too), the STATE is FALSE; else .. LONG .., CUT";
        String thirteen = names(13);
        closesTo(SIZES, 3, FALSE, "$0=" + thirteen + " $1=I $1=J", "$0=" + thirteen, "$1=I", "$1=J");
        closesTo(SIZES, 3, CUT, "$0=" + thirteen + " $1=I $2=I", "$0=" + thirteen, "$1=I", "$2=I");
        closesTo(SIZES, 3, FALSE, "$0=$1 $0=I $0=J $1=I $1=J", "$0=$1", "$0=I", "$1=J");
        closesTo(SIZES, 3, CUT, "$0=" + thirteen + " $1=$2 $1=I $2=I", "$0=" + thirteen, "$1=$2", "$2=I");
        // FALSE that would come in a later ROUND does not: CUT ends it
        closesTo(SIZES, 3, CUT, "$0=" + thirteen + " $1=$2 $1=I $2=I $1:J $2:J",
                "$0=" + thirteen, "$1=$2", "$2=I", "$1:J");
    }

    private static void roundsAreCounted() {
        sentence = "else if no BOUND was new, OPEN; else the next";
        Talk t = with("I;");
        due("told(4)", t.told(4), 0);
        due("close with nothing at all", t.close(), OPEN);
        due("ROUNDS", t.told(4), 1);
        // each ROUND brings $0 one step further
        String[] chain = {"$0:$1", "$1:$2", "$2:$3", "$3:$4", "$4:$5"};
        int[] rounds = {1, 2, 3, 3, 4};
        for (int n = 1; n <= 5; n++) {
            Talk u = with("I;", 6);
            for (int i = 0; i < n; i++) {
                u.bound(chain[i]);
            }
            due("close", u.close(), OPEN);
            due("ROUNDS of a chain of " + n, u.told(4), rounds[n - 1]);
            due("BOUNDS of a chain of " + n, u.told(2), n * (n + 1) / 2);
            due("close once more", u.close(), OPEN);
            due("ROUNDS", u.told(4), 1);
        }
    }
}
