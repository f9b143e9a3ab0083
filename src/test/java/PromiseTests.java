/** Cases for each promise of the document: ordinary inputs, the edges that it names, wrong inputs. */
public final class PromiseTests {
    private static int wrong = 0;
    private static int promise = 0;

    private Talk x = new Talk();
    private String kindsText = "";

    public static void main(String[] args) {
        new PromiseTests().newObject();
        new PromiseTests().feed();
        new PromiseTests().kindsRight();
        new PromiseTests().kindsFaults();
        new PromiseTests().kindsLimits();
        new PromiseTests().kindsKeepOrForget();
        new PromiseTests().fault();
        new PromiseTests().variable();
        new PromiseTests().fresh();
        new PromiseTests().boundReduces();
        new PromiseTests().boundFaults();
        new PromiseTests().boundLong();
        new PromiseTests().boundState();
        new PromiseTests().closeRules();
        new PromiseTests().closeUppers();
        new PromiseTests().closeFills();
        new PromiseTests().closeEnds();
        new PromiseTests().told();
        new PromiseTests().written();
        new PromiseTests().letter();
        new PromiseTests().next();
        new PromiseTests().stepFromBelow();
        new PromiseTests().stepFromAbove();
        new PromiseTests().stepThrows();
        new PromiseTests().stepFails();
        new PromiseTests().stepMeets();
        new PromiseTests().stepOverMeets();
        new PromiseTests().solution();
        new PromiseTests().join();
        new PromiseTests().joinFaults();
        new PromiseTests().below();
        System.out.println(wrong == 0 ? "all promises hold" : wrong + " answers are not as due");
        if (wrong != 0) {
            System.exit(1);
        }
    }

    // ---------------------------------------------------------------- the means

    private void due(String what, Object got, Object want) {
        if (!got.equals(want)) {
            wrong++;
            System.out.println("promise " + promise + ": " + what + " is " + got + ", due is " + want);
        }
    }

    private Talk tape(String text) {
        return x.tape(text);
    }

    /** A new object with these KINDS. */
    private void kinds(String text) {
        x = new Talk();
        kindsText = text;
        int count = 4;
        for (char c : text.toCharArray()) {
            count += c == ';' ? 1 : 0;
        }
        due("kinds " + text, tape(text).kinds(), count);
        due("fault of " + text, x.fault(), 0);
    }

    private void kindsFault(String text, int place, int fault) {
        due("kinds " + text, tape(text).kinds(), -10 - place);
        due("fault of " + text, x.fault(), fault);
        due("tape behind " + text, x.told(5), 0);
    }

    /** A new object with the latest KINDS, with VARIABLES and BOUNDS. */
    private void anew(int variables, String... bounds) {
        x = new Talk();
        x.kinds(kindsText);
        for (int i = 0; i < variables; i++) {
            due("variable", x.variable(false), i);
        }
        for (String bound : bounds) {
            tape(bound).bound();
            due("fault of " + bound, x.fault(), 0);
        }
    }

    private void boundFault(String text, int place, int fault) {
        due("bound " + text, tape(text).bound(), -10 - place);
        due("fault of " + text, x.fault(), fault);
        due("tape behind " + text, x.told(5), 0);
    }

    private String latest(int length) {
        return x.latest(length);
    }

    private String all() {
        return x.all();
    }

    private String solutionOf(int variable) {
        return x.solutionOf(variable);
    }

    private boolean hasLetter(int i) {
        return x.hasLetter(i);
    }

    private String joinOf(String text) {
        return x.joinOf(text);
    }

    private void closed(int variables, int state, String bounds, String... told) {
        anew(variables, told);
        String what = String.join(" ", told);
        due("close of " + what, x.close(), state);
        due("STATE of " + what, x.told(3), state);
        due("BOUNDS of " + what, all(), bounds);
    }

    // ---------------------------------------------------------------- 1, 2

    private void newObject() {
        promise = 1;
        int[] all = {4, 0, 0, 0, 0, 0, 0};
        for (int what = 0; what < all.length; what++) {
            due("told " + what, x.told(what), all[what]);
        }
        due("fault", x.fault(), 0);
        due("letter 0", hasLetter(0), false);
        due("next", x.next(), 0);
        due("step", x.step(), 0);
        due("Run below Object", tape("Run:Object").below(), 1);
        due("Run below Except", tape("Run:Except").below(), 1);
        due("Except below Throw", tape("Except:Throw").below(), 1);
        due("Throw below Except", tape("Throw:Except").below(), 0);
        due("an empty text", x.below(), -10);
        due("written", x.written(0), InferResolve.NONE);
    }

    private void feed() {
        promise = 2;
        due("feed 0", x.feed('A', 0), InferResolve.BAD);
        due("feed 9", x.feed('A', 9), InferResolve.BAD);
        due("feed -1", x.feed('A', -1), InferResolve.BAD);
        due("feed least", x.feed('A', Integer.MIN_VALUE), InferResolve.BAD);
        due("nothing came", x.told(5), 0);
        // the lowest bytes alone, the highest of these first
        due("feed 3", x.feed(0x7f7f7f7f7f000000L | 'R' << 16 | 'u' << 8 | 'n', 3), 3);
        due("feed 8", x.feed(0x3a4f626a65637420L, 8), 11);
        due("Run:Object", x.below(), 1);
        due("emptied", x.told(5), 0);
        due("a negative word", x.feed(-1L, 8), 8);
        due("byte 255 is no token", x.join(), -10);
        due("fault", x.fault(), 1);
        for (int i = 0; i < 74; i++) {
            due("feed", x.feed(0x2020202020202020L, 8), 8 * i + 8);
        }
        due("592 and 8 are 600", x.feed(0x2020202020202052L, 8), 600);
        due("full", x.feed('R', 1), InferResolve.FULL);
        due("bad before full", x.feed('R', 0), InferResolve.BAD);
        due("nothing came", x.told(5), 600);
        due("the end of a full tape", x.join(), -10 - 599);
        due("R is no KIND", x.fault(), 4);
        tape(" ".repeat(599));
        due("one byte too many", x.feed(0x5252, 2), InferResolve.FULL);
        due("one byte more", x.feed(0x5252, 1), 600);
    }

    // ---------------------------------------------------------------- 3

    private void kindsRight() {
        promise = 3;
        kinds("");
        kinds("A;");
        due("told 0", x.told(0), 5);
        due("those of the latest text are all", tape("B;").kinds(), 5);
        due("A is gone", tape("A").join(), -10);
        kinds("  Abcdefg8 <  T1 , U>  :  Object  ; ");
        kinds("A<T>;B<T>:A<T>;C<A>:B<A>;");
        due("A PARAMETER hides a KIND", tape("C<Run>:A<Run>").below(), 1);
        kinds("A<T>;B<B>:A<B>;");
        due("A PARAMETER hides its own KIND", tape("B<Run>:A<Run>").below(), 1);
        kinds("A<Object>;");
        due("Object above all the same", tape("A<Run>:Object").below(), 1);
        kinds("A<T>;B:A<B>;");
        due("itself within ARGUMENTS", tape("B:A<B>").below(), 1);
        kinds("A<T>;B<T>:A<B<B<T>>>;");
        due("itself, longer", tape("B<Run>:A<B<B<Run>>>").below(), 1);
        kinds("A;B:A,A,A,A;");
        due("one PARENT four times", tape("B:A").below(), 1);
        kinds("A<T,U,V>;B<T>:A<T,T,T>;");
    }

    private void kindsFaults() {
        promise = 3;
        // 1: no token, or one too long
        kindsFault("a;", 0, 1);
        kindsFault("1A;", 0, 1);
        kindsFault("A&;", 1, 1);
        kindsFault("Abcdefghi;", 0, 1);
        kindsFault("A; Abcdefgh9;", 3, 1);
        kindsFault("A:$;", 2, 1);
        kindsFault("A:$6;", 2, 1);
        kindsFault("A\t;", 1, 1);
        kindsFault("A<T>;B:A<[>;", 9, 1);
        // 2: what can't come
        kindsFault(";", 0, 2);
        kindsFault("A", 1, 2);
        kindsFault("A  ", 3, 2);
        kindsFault("A B;", 2, 2);
        kindsFault("A<", 2, 2);
        kindsFault("A<>;", 2, 2);
        kindsFault("A<T;", 3, 2);
        kindsFault("A<T,>;", 4, 2);
        kindsFault("A:;", 2, 2);
        kindsFault("A:Run,;", 6, 2);
        kindsFault("A:Run", 5, 2);
        kindsFault("A=Run;", 1, 2);
        kindsFault("A:Run:Run;", 5, 2);
        kindsFault("A:$0;", 2, 2);
        kindsFault("A<$0>;", 2, 2);
        kindsFault("A<T>;B:A<$0>;", 9, 2);
        kindsFault("A<T>:T;", 5, 2);
        kindsFault("A<Run>:Run;", 7, 2);
        kindsFault("A<T>;B<T>:A<T<T>>;", 13, 2);
        kindsFault("A<T>;B:A<Run;", 12, 2);
        kindsFault("A<T>;B:A<>;", 9, 2);
        kindsFault("A<T<U>>;", 3, 2);
        // 3: told already
        kindsFault("Object;", 0, 3);
        kindsFault("A;B; A;", 5, 3);
        kindsFault("A<T,T>;", 4, 3);
        kindsFault("A<T,U,V,T>;", 8, 3);
        // 4: unknown, or another number of ARGUMENTS
        kindsFault("A:B;B;", 2, 4);
        kindsFault("A:A;", 2, 4);
        kindsFault("A<T>:A<T>;", 5, 4);
        kindsFault("A<T>;B:A;", 7, 4);
        kindsFault("A<T>;B:A<Run,Run>;", 7, 4);
        kindsFault("A;B:A<Run>;", 4, 4);
        kindsFault("A<T>;B<U>:A<B>;", 12, 4);
        kindsFault("A<T>;B:A<T>;", 9, 4);
        kindsFault("A<T,U>;B:A<X>;", 11, 4);
        kindsFault("A<T,U>;B:A<Run,$0>;", 15, 2);
        kindsFault("A<T,U>;B:A<Run>,$0;", 9, 4);
        kindsFault("A:X<a>;", 2, 4);
        kindsFault("A<T>;B:A", 7, 4);
        kindsFault("A<T>;B:A>;", 7, 4);
        kindsFault("A<T>;B:A&;", 7, 4);
    }

    private void kindsLimits() {
        promise = 3;
        StringBuilder sixteen = new StringBuilder();
        for (char c = 'A'; c < 'A' + 16; c++) {
            sixteen.append(c).append(';');
        }
        kinds(sixteen.toString());
        due("twenty", x.told(0), 20);
        kindsFault(sixteen + "Z;", 32, 5);
        kindsFault(sixteen + "A;", 32, 3);
        kindsFault(sixteen + "=;", 32, 2);
        kindsFault(sixteen + "Abcdefghi;", 32, 1);
        kinds(sixteen + " ");
        kinds("A<T,U,V>;");
        kindsFault("A<T,U,V,W>;", 8, 5);
        kindsFault("A<T,U,V,;", 8, 2);
        kinds("A;B;C;D;E:A,B,C,D;");
        kindsFault("A;B;C;D;E:A,B,C,D,Run;", 18, 5);
        kindsFault("A;B;C;D;E:A,B,C,D,Z;", 18, 4);
        kindsFault("A;B;C;D;E<T>:A,B,C,D,T;", 21, 2);
        kinds("A<T>;B:A<A<A<A<Run>>>>;");
        kindsFault("A<T>;B:A<A<A<A<A<Run>>>>>;", 17, 5);
        kindsFault("A<T>;B<T>:A<A<A<A<A<T>>>>>;", 20, 5);
        kindsFault("A<T>;B:A<A<A<A<A<X>>>>>;", 17, 4);
        kindsFault("A<T>;B:A<A<A<A<A<$0>>>>>;", 17, 2);
        // 1 + 3 * 5 are 16 NAMES, one more are 17
        kinds("A<T,U,V>;B<T>:A<A<T,T,A<T,T,T>>,A<T,T,T>,A<T,T,T>>;");
        kindsFault("A<T>;C<T,U,V>;B<T>:A<C<C<T,T,C<T,T,T>>,C<T,T,T>,C<T,T,T>>>;", 14, 5);
        // each PARENT is short, but one of what is above it is not
        kinds("A<T>;B<T>:A<A<A<T>>>;C<T>:B<B<B<T>>>;D<T>:C<C<C<T>>>;");
        kinds("P<T,U>;Q<T>:P<P<T,T>,P<T,T>>;R<T>:Q<Q<Q<T>>>;");
        kindsFault("P<T,U>;Q<T>:P<P<T,T>,P<T,T>>;R<T>:Q<Q<Q<Q<T>>>>;", 29, 5);
        // 6, and 5 ahead of it
        kindsFault("A<T>;B:A<Run>,A<Throw>;", 5, 6);
        kindsFault("A<T>;B<U>:A<U>;C<V>:B<V>,A<Run>;", 15, 6);
        kindsFault("A<T>;B:A<B>;C:B,A<C>;", 12, 6);
        kinds("A<T>;B:A<B>;C:B,A<B>;");
        kindsFault("P<T,U>;Q<T>:P<P<T,T>,P<T,T>>;R<T>:P<T,T>,Q<Q<Q<T>>>;", 29, 6);
        kindsFault("P<T,U>;Q<T>:P<P<T,T>,P<T,T>>;R<T>:P<T,T>,Q<Q<Q<Q<T>>>>;", 29, 5);
        kindsFault("A<T>;B:A<Run>,A<Throw>", 22, 2);
        kindsFault("A<T>;B:A<Run>,A<Throw>; C:C;", 5, 6);
    }

    private void kindsKeepOrForget() {
        promise = 3;
        kinds("A;B:A;");
        anew(2, "$0:A", "$1:B");
        x.close();
        kindsFault("C;C;", 2, 3);
        due("KINDS stay", x.told(0), 6);
        due("VARIABLES stay", x.told(1), 2);
        due("BOUNDS stay", all(), "$0:A $1:B");
        due("ROUNDS stay", x.told(4), 1);
        due("B is still below A", tape("B:A").below(), 1);
        tape("A=B").bound();
        due("FALSE", x.told(3), InferResolve.FALSE);
        due("another text", tape("C;").kinds(), 5);
        due("VARIABLES are gone", x.told(1), 0);
        due("BOUNDS are gone", x.told(2), 0);
        due("OPEN", x.told(3), InferResolve.OPEN);
        due("no ROUNDS", x.told(4), 0);
        x.variable(true);
        x.kinds();
        x.variable(false);
        x.step();
        due("which THROWS is forgotten", solutionOf(0), "Object");
    }

    private void fault() {
        promise = 4;
        due("before a text", x.fault(), 0);
        kindsFault("A;A;", 2, 3);
        due("still", x.fault(), 3);
        x.variable(false);
        x.close();
        x.fresh();
        due("till the next text", x.fault(), 3);
        due("a right one", tape("Run").join(), 3);
        due("none", x.fault(), 0);
        due("below", tape("Run").below(), -13);
        due("ends too early", x.fault(), 2);
        due("join", tape("Run,X").join(), -14);
        due("unknown", x.fault(), 4);
        tape("Run=Throw").bound();
        due("a bound without FAULT", x.fault(), 0);
        tape("A;A;");
        due("a text that is not taken", x.bound(), InferResolve.STATE);
        due("is not the latest", x.fault(), 0);
    }

    // ---------------------------------------------------------------- 5, 6

    private void variable() {
        promise = 5;
        for (int i = 0; i < 6; i++) {
            due("variable", x.variable(i % 2 == 0), i);
        }
        due("the seventh", x.variable(false), InferResolve.FULL);
        due("six", x.told(1), 6);
        due("all six next, one by one", x.next(), 1);
        tape("Run=Throw").bound();
        x.fresh();
        tape("Run=Throw").bound();
        due("in any STATE", x.variable(true), 0);
    }

    private void fresh() {
        promise = 6;
        due("nothing there", x.fresh(), 0);
        anew(2, "$0:Run", "$1=$0", "Run=Throw");
        due("FALSE", x.told(3), InferResolve.FALSE);
        tape("xyz");
        due("how many there were", x.fresh(), 2);
        due("BOUNDS", x.told(2), 0);
        due("VARIABLES", x.told(1), 0);
        due("STATE", x.told(3), InferResolve.OPEN);
        due("the tape stays", x.told(5), 3);
        x.kinds();
        anew(1, "$0:Run");
        x.close();
        due("ROUNDS", x.told(4), 1);
        due("one", x.fresh(), 1);
        due("no ROUNDS", x.told(4), 0);
        x.variable(true);
        x.fresh();
        x.variable(false);
        due("which THROWS is forgotten", x.step(), 1);
        due("Object", solutionOf(0), "Object");
    }

    // ---------------------------------------------------------------- 7

    private void reduced(String told, int state, String bounds) {
        anew(3, told);
        due("STATE of " + told, x.told(3), state);
        due("BOUNDS of " + told, all(), bounds);
        due("no CLOSING for " + told, x.told(4), 0);
    }

    private void boundReduces() {
        promise = 7;
        kinds("L<E>;M<E>:L<E>;P<A,B>;Q<A>:P<A,L<A>>;S:L<S>;I;");
        reduced("$0=Run", 0, "$0=Run");
        reduced("Run=$0", 0, "$0=Run");
        reduced("$2=$1", 0, "$1=$2");
        reduced("$1=$1", 0, "");
        reduced("$1:$1", 0, "");
        reduced("$2:$1", 0, "$2:$1");
        reduced("$0:Object", 0, "");
        reduced("Object:$0", 0, "Object:$0");
        reduced("$0=Object", 0, "$0=Object");
        reduced(" $0 : L < $1 > ", 0, "$0:L<$1>");
        reduced("L<$1>:$0", 0, "L<$1>:$0");
        reduced("$0=L<$0>", 0, "$0=L<$0>");
        reduced("Run=Run", 0, "");
        reduced("Run=Except", 1, "");
        reduced("Run:Except", 0, "");
        reduced("Except:Run", 1, "");
        reduced("L<$0>=L<$0>", 0, "");
        reduced("P<$0,$1>=P<Run,L<$2>>", 0, "$0=Run $1=L<$2>");
        reduced("P<$0,Run>=P<Run,$0>", 0, "$0=Run");
        reduced("P<$0,Run>=P<Throw,Throw>", 1, "$0=Throw");
        reduced("L<$0>=M<$0>", 1, "");
        reduced("M<$0>:L<Run>", 0, "$0=Run");
        reduced("L<$0>:M<Run>", 1, "");
        reduced("M<Run>:L<Except>", 1, "");
        reduced("Q<$0>:P<$1,$2>", 0, "$0=$1 $2=L<$0>");
        reduced("Q<$0>:P<$1,L<Run>>", 0, "$0=$1 $0=Run");
        reduced("S:L<$0>", 0, "$0=S");
        reduced("L<$0>:Object", 0, "");
        anew(1, "$0=Run");
        due("the same once more", tape("Run=$0").bound(), 1);
        due("= and : are two", tape("$0:Run").bound(), 2);
        due("and the other way three", tape("Run:$0").bound(), 3);
    }

    private void boundFaults() {
        promise = 7;
        kinds("L<E>;P<A,B>;");
        anew(2);
        boundFault("", 0, 2);
        boundFault("   ", 3, 2);
        boundFault("$0", 2, 2);
        boundFault("$0=", 3, 2);
        boundFault("$0 = ", 5, 2);
        boundFault("$0<Run", 2, 2);
        boundFault("$0;Run", 2, 2);
        boundFault("=Run", 0, 2);
        boundFault("$0=Run;", 6, 2);
        boundFault("$0=Run=Run", 6, 2);
        boundFault("$0=Run,Run", 6, 2);
        boundFault("$2=Run", 0, 2);
        boundFault("$1=L<$2>", 5, 2);
        boundFault("$12=Run", 2, 1);
        boundFault("$0=L<$12>", 7, 1);
        boundFault("$6=Run", 0, 1);
        boundFault("$", 0, 1);
        boundFault("$0=run", 3, 1);
        boundFault("$0=Runnable9x", 3, 1);
        boundFault("$0=X", 3, 4);
        boundFault("$0=E", 3, 4);
        boundFault("$0=L", 3, 4);
        boundFault("$0=L<$0,$0>", 3, 4);
        boundFault("$0=L<P<$0>>", 5, 4);
        boundFault("$0=L<Run", 8, 2);
        boundFault("$0=L<Run;", 8, 2);
        boundFault("L=%", 0, 4);
        boundFault("L<L<L<L<L<$0>>>>>=$0", 10, 5);
        boundFault("$0=L<L<L<L<L<$2>>>>>", 13, 2);
        boundFault("$0=L<L<L<L<L<X>>>>>", 13, 4);
        due("nothing came of these", x.told(2), 0);
        due("OPEN still", x.told(3), InferResolve.OPEN);
        due("within four", tape("L<L<L<L<$0>>>>=$0").bound(), 1);
    }

    private void boundLong() {
        promise = 7;
        kinds("P<A,B>;T<A,B,C>;U<X>:T<P<X,X>,P<X,X>,P<X,X>>;V<X>:P<U<X>,X>;");
        String ten = "T<Run,T<Run,Run,Run>,T<Run,Run,Run>>";
        String eleven = "T<P<Run,Run>,P<Run,Run>,T<Run,Run,Run>>";
        String twelve = "T<T<Run,Run,Run>,P<Run,Run>,T<Run,Run,Run>>";
        String twentyThree = "P<" + twelve + "," + ten + ">";
        anew(2);
        due("24 with the VARIABLE", tape("$0:" + twentyThree).bound(), 1);
        due("OPEN", x.told(3), InferResolve.OPEN);
        due("25", tape("$1:P<" + twelve + "," + eleven + ">").bound(), 1);
        due("CUT", x.told(3), InferResolve.CUT);
        anew(1, twelve + "=" + twelve);
        due("24, the same", x.told(3), InferResolve.OPEN);
        anew(1, twentyThree + "=" + twentyThree);
        due("LONG ahead of all else", x.told(3), InferResolve.CUT);
        anew(1, twentyThree + "=Run");
        due("24 and FALSE", x.told(3), InferResolve.FALSE);
        anew(1, twentyThree + "=P<Run,Run>");
        due("LONG, not FALSE", x.told(3), InferResolve.CUT);
        // the ANCESTOR: 1 + 3 * (1 + 2n) NAMES of n; n = 3 makes 22, n = 4 makes 28
        anew(3, "U<P<Run,Run>>:T<$0,$1,$2>");
        due("22", all(), "$0=P<P<Run,Run>,P<Run,Run>> $1=P<P<Run,Run>,P<Run,Run>> $2=P<P<Run,Run>,P<Run,Run>>");
        due("OPEN", x.told(3), InferResolve.OPEN);
        anew(3, "U<T<Run,Run,Run>>:T<$0,$1,$2>");
        due("28", all(), "");
        due("CUT", x.told(3), InferResolve.CUT);
        // P<U<n>, n>: 2 + 2n NAMES; n = 11 makes 24, n = 12 makes 26
        anew(2, "V<" + eleven + ">:P<$0,$1>");
        due("24", x.told(2), 2);
        due("OPEN", x.told(3), InferResolve.OPEN);
        anew(2, "V<" + twelve + ">:P<$0,$1>");
        due("26", x.told(2), 0);
        due("CUT", x.told(3), InferResolve.CUT);
        anew(3, "U<T<Run,Run,Run>>:Object");
        due("Object is short", x.told(3), InferResolve.OPEN);
        anew(3, "U<T<Run,Run,Run>>:P<$0,$1>");
        due("FALSE, not LONG", x.told(3), InferResolve.FALSE);
    }

    private void boundState() {
        promise = 7;
        kinds("L<A>;M<A,B>;");
        anew(6);
        for (int i = 0; i < 6; i++) {
            for (int k = 0; k < 4 && 4 * i + k < 23; k++) {
                String text = "$" + i + (k == 0 ? ":Run" : k == 1 ? "=Run" : k == 2 ? ":Throw" : ":Except");
                due(text, tape(text).bound(), 4 * i + k + 1);
            }
        }
        due("23", x.told(2), 23);
        due("24", tape("$5:Except").bound(), 24);
        due("no 25th", tape("$0=$5").bound(), InferResolve.STATE);
        due("the tape stays", x.told(5), 5);
        due("a text that FAULTS empties it", x.below(), -10);
        due("empty", x.told(5), 0);
        anew(6);
        for (int i = 0; i < 23; i++) {
            tape("$" + i / 4 + (i % 4 == 0 ? ":Run" : i % 4 == 1 ? "=Run" : i % 4 == 2 ? ":Throw" : ":Except")).bound();
        }
        due("23, then two at once", tape("M<$0,$1>=M<L<Run>,L<Run>>").bound(), 25);
        tape("$0=$1");
        due("24 or more", x.bound(), InferResolve.STATE);
        due("the tape stays", x.told(5), 5);
        due("OPEN", x.told(3), InferResolve.OPEN);
        due("FALSE", x.close(), InferResolve.FALSE);
        due("not OPEN", x.bound(), InferResolve.STATE);
        due("the tape stays", x.told(5), 5);
        x.fresh();
        x.variables(2);
        due("the text that stayed", x.bound(), 1);
    }

    // ---------------------------------------------------------------- 8

    private void closeRules() {
        promise = 8;
        kinds("L<E>;M<E>:L<E>;I;J:I;");
        closed(0, 0, "");
        due("one ROUND", x.told(4), 1);
        closed(1, 0, "$0=I", "$0=I");
        closed(2, 0, "$0=$1", "$0=$1");
        due("one ROUND", x.told(4), 1);
        // $i = S and $i = T
        closed(2, 0, "$0=L<$1> $0=L<I> $1=I", "$0=L<$1>", "$0=L<I>");
        closed(1, 1, "$0=I $0=J", "$0=I", "$0=J");
        due("FALSE in the first ROUND", x.told(4), 1);
        closed(3, 0, "$0=$1 $0=$2 $1=$2", "$0=$1", "$0=$2");
        closed(3, 0, "$0=$1 $0=$2 $1=$2", "$0=$2", "$1=$2");
        // $i = S and $i : T
        closed(2, 0, "$0=M<I> $1=I $0:L<$1> $0:L<I>", "$0=M<I>", "$0:L<$1>");
        closed(1, 1, "$0=I $0:J", "$0=I", "$0:J");
        closed(1, 0, "$0=J $0:I", "$0=J", "$0:I");
        closed(2, 0, "$0=$1 $0:I $1:I", "$1=$0", "$1:I");
        // $i = S and T : $i
        closed(2, 0, "$0=L<$1> $0=L<I> $1=I M<I>:$0", "$0=L<$1>", "M<I>:$0");
        closed(1, 1, "$0=J I:$0", "$0=J", "I:$0");
        closed(1, 0, "$0=I J:$0", "$0=I", "J:$0");
        // S : $i and $i : T
        closed(2, 0, "$1=I $0:L<$1> $0:L<I> M<I>:$0", "$0:L<$1>", "M<I>:$0");
        closed(1, 1, "$0:J I:$0", "$0:J", "I:$0");
        closed(3, 0, "$0:$1 $0:$2 $1:$2", "$0:$1", "$1:$2");
        closed(2, 0, "$0:$1 $1:$0", "$0:$1", "$1:$0");
        closed(3, 0, "$0:$1 $0:$2 $0:I $1:$2 $1:I $2:I", "$0:$1", "$1:$2", "$2:I");
        due("three ROUNDS", x.told(4), 3);
        // Object says nothing
        closed(2, 0, "$1=Object $0:$1", "$0:$1", "$1=Object");
    }

    private void closeUppers() {
        promise = 8;
        kinds("L<E>;M<E>:L<E>;C<T>;A<T>:C<T>;B<T>:C<L<T>>;I:C<I>;J:C<J>;");
        closed(2, 0, "$0:L<$1> $0:M<$1>", "$0:L<$1>", "$0:M<$1>");
        closed(2, 0, "$1=I $0:L<$1> $0:L<I> $0:M<I>", "$0:L<$1>", "$0:M<I>");
        closed(3, 0, "$1=L<$2> $0:A<$1> $0:B<$2>", "$0:A<$1>", "$0:B<$2>");
        closed(1, 1, "$0:I $0:J", "$0:I", "$0:J");
        closed(1, 1, "$0:L<J> $0:M<I>", "$0:M<I>", "$0:L<J>");
        closed(1, 0, "$0:I $0:L<J>", "$0:I", "$0:L<J>");
        closed(2, 0, "$1=I $0:C<$1> $0:C<I> $0:I", "$0:I", "$0:C<$1>");
    }

    private void closeFills() {
        promise = 8;
        kinds("L<E>;P<A,B>;I;J:I;");
        closed(2, 0, "$0=L<$1> $0=L<I> $1=I", "$0=L<$1>", "$1=I");
        closed(2, 0, "$1=I $0:L<$1> $0:L<I>", "$0:L<$1>", "$1=I");
        closed(2, 0, "$1=I L<$1>:$0 L<I>:$0", "L<$1>:$0", "$1=I");
        closed(3, 0, "$1=I $2=J $0:P<$1,$2> $0:P<$1,J> $0:P<I,$2> $0:P<I,J>", "$0:P<$1,$2>", "$1=I", "$2=J");
        // all places are filled at once
        closed(2, 0, "$1=I $0:P<$1,L<$1>> $0:P<I,L<I>>", "$0:P<$1,L<$1>>", "$1=I");
        // where it stands alone, too
        closed(1, 1, "$0=I $0=L<$0>", "$0=I", "$0=L<$0>");
        // $1 = L<$0> is not PROPER
        closed(3, 0, "$1=L<$0> $2:L<$1>", "$1=L<$0>", "$2:L<$1>");
    }

    private void closeEnds() {
        promise = 8;
        kinds("P<A,B>;T<A,B,C>;I;J;");
        // 12 + 12 NAMES twice are 24, 13 + 13 are LONG
        String twelve = "T<T<I,I,I>,P<I,I>,T<I,I,I>>";
        closed(1, 0, "$0=" + twelve, "$0=" + twelve);
        String thirteen = "T<T<I,I,I>,T<I,I,I>,T<I,I,I>>";
        closed(1, 2, "$0=" + thirteen, "$0=" + thirteen);
        closed(1, 2, "$0:P<" + thirteen + ",I>", "$0:P<" + thirteen + ",I>");
        closed(1, 0, "$0:" + thirteen, "$0:" + thirteen);
        // nothing comes of two with one ANCESTOR that is LONG; of 24 NAMES it is not
        kinds("P<A,B>;T<A,B,C>;I;J;W<X>:P<I,P<X,X>>;");
        String ten = "T<I,T<I,I,I>,T<I,I,I>>";
        String eleven = "T<P<I,I>,P<I,I>,T<I,I,I>>";
        closed(3, 2, "$0:P<$1,$2> $0:W<" + eleven + ">", "$0:P<$1,$2>", "$0:W<" + eleven + ">");
        anew(3, "$0:P<$1,$2>", "$0:W<" + ten + ">");
        due("23 NAMES, but 21 + 21 are LONG", x.close(), InferResolve.CUT);
        due("what came all the same", all(), "$1=I $2=P<" + ten + "," + ten + "> $0:P<$1,$2> $0:W<" + ten + ">");
        kinds("P<A,B>;T<A,B,C>;I;J;W<X>:T<X,X,P<X,I>>;");
        String seven = "T<I,T<I,I,I>,I>";
        closed(1, 0, "$0:W<" + seven + ">", "$0:W<" + seven + ">");
        closed(1, 2, "$0:W<P<" + seven + ",I>>", "$0:W<P<" + seven + ",I>>");
        kinds("P<A,B>;T<A,B,C>;I;J;");
        closed(1, 0, thirteen + ":$0", thirteen + ":$0");
        closed(2, 1, "$0=" + thirteen + " $1=I $1=J", "$0=" + thirteen, "$1=I", "$1=J");
        due("not OPEN", x.close(), InferResolve.STATE);
        // six VARIABLES that are all the same: 15 with =, and six for each TYPE below them
        String[] told = {"$0=$1", "$1=$2", "$2=$3", "$3=$4", "$4=$5",
            "I:$0", "J:$0", "Run:$0", "Throw:$0", "Except:$0"};
        anew(6, told);
        due("15 + 30", x.close(), InferResolve.OPEN);
        due("45", x.told(2), 45);
        anew(6, told);
        due("one TYPE more", tape("Object:$0").bound(), 11);
        due("15 + 36", x.close(), InferResolve.CUT);
        due("more than 48", x.told(2) > 48, true);
        due("STATE", x.close(), InferResolve.STATE);
        // five that are the same have 10 with = and 5 for each of seven TYPES; $5 has three of its own
        kinds("I;J;K;");
        String[] fortyEight = {"$0=$1", "$1=$2", "$2=$3", "$3=$4", "I:$0", "J:$0", "K:$0", "Run:$0", "Throw:$0",
            "Except:$0", "Object:$0", "$5:I", "$5:J", "$5:K"};
        anew(6, fortyEight);
        due("close", x.close(), InferResolve.OPEN);
        due("48", x.told(2), 48);
        anew(6, fortyEight);
        due("one more", tape("$5:Run").bound(), 15);
        due("close", x.close(), InferResolve.CUT);
        due("49", x.told(2), 49);
        // FALSE, and all else that came
        closed(2, 1, "$0=$1 $0=I $0=J $1=I $1=J", "$0=I", "$0=J", "$0=$1");
    }

    // ---------------------------------------------------------------- 9, 10, 11

    private void told() {
        promise = 9;
        due("-1", x.told(-1), InferResolve.BAD);
        due("7", x.told(7), InferResolve.BAD);
        due("least", x.told(Integer.MIN_VALUE), InferResolve.BAD);
        due("most", x.told(Integer.MAX_VALUE), InferResolve.BAD);
        kinds("A<T>;B;");
        anew(3, "$0=B", "$0=Run", "$1=A<$0>", "$2:Run");
        tape("Run");
        int[] before = {6, 3, 4, 0, 0, 3, 1};
        for (int what = 0; what < 7; what++) {
            due("told " + what, x.told(what), before[what]);
        }
        due("close", x.close(), InferResolve.FALSE);
        // $1=A<B>, $1=A<Run> came in that ROUND
        int[] behind = {6, 3, 6, 1, 1, 3, 2};
        for (int what = 0; what < 7; what++) {
            due("told " + what, x.told(what), behind[what]);
        }
        x.join();
        anew(2, "$0:Run", "$1:$0");
        x.close();
        due("ROUNDS of close", x.told(4), 2);
        x.step();
        due("Run:$0 came, then nothing", all(), "$0=Run $1=Run $0:Run $1:$0 $1:Run Run:$0");
        due("ROUNDS of a STEP", x.told(4), 2);
        due("none left", x.step(), 0);
        due("a STEP that does nothing", x.told(4), 2);
        due("solved", x.told(6), 2);
    }

    private void written() {
        promise = 10;
        kinds("A;Ab;A0;B<T>;Bc<T>;");
        anew(4, "B<$0>:$1", "$1:Ab", "$1:A", "$1:A0", "$3=$2", "$0=B<A>", "$2=Bc<A>", "$1=$0", "A:$1", "B<A>:$1",
                "$0:$3", "$0=B<Ab>", "Bc<$0>:$2", "$0=B<$1>");
        due("in order", all(), "$0=$1 $0=B<$1> $0=B<A> $0=B<Ab> $2=$3 $2=Bc<A>"
                + " $0:$3 $1:A $1:A0 $1:Ab A:$1 B<$0>:$1 B<A>:$1 Bc<$0>:$2");
        due("how many bytes", x.written(0), 5);
        due("-1", x.written(-1), InferResolve.NONE);
        due("14", x.written(14), InferResolve.NONE);
        due("most", x.written(Integer.MAX_VALUE), InferResolve.NONE);
        due("what was written stays", latest(5), "$0=$1");
        due("the last", latest(x.written(13)), "Bc<$0>:$2");
        x.fresh();
        due("none is left", x.written(0), InferResolve.NONE);
        due("what was written stays", latest(9), "Bc<$0>:$2");
    }

    private void letter() {
        promise = 11;
        due("nothing written", hasLetter(0), false);
        due("join", tape("Run").join(), 3);
        due("R", x.letter(0), (int) 'R');
        due("n", x.letter(2), (int) 'n');
        due("behind it", hasLetter(3), false);
        due("ahead of it", hasLetter(-1), false);
        due("least", hasLetter(Integer.MIN_VALUE), false);
        due("most", hasLetter(Integer.MAX_VALUE), false);
        due("a longer one", joinOf("Object,Run"), "Object");
        due("a shorter one", joinOf("Run"), "Run");
        due("is no longer", hasLetter(3), false);
        tape("Run,").join();
        due("a FAULT writes nothing", latest(3), "Run");
        x.variable(false);
        due("not SOLVED", x.solution(0), 0);
        due("writes nothing", latest(3), "Run");
    }

    // ---------------------------------------------------------------- 12, 13, 14

    private void next() {
        promise = 12;
        kinds("L<E>;P<A,B>;");
        due("no VARIABLES", x.next(), 0);
        anew(3);
        due("the least VARIABLE", x.next(), 1);
        anew(3, "$0:$1");
        due("both lean on one another, $2 on none", x.next(), 4);
        anew(3, "$0:$1", "$2:$1");
        due("all three", x.next(), 7);
        anew(3, "$0:L<$1>");
        due("$0 leans on $1, $1 on none", x.next(), 2);
        anew(3, "L<$1>:$0", "$1=L<$2>");
        due("by steps", x.next(), 4);
        anew(3, "$0=P<$1,$2>", "$1=L<$2>", "$2=L<$1>");
        due("two that lean on one another", x.next(), 6);
        anew(4, "$0:$1", "$2:$3");
        due("of two SETS the one with the least VARIABLE", x.next(), 3);
        anew(4, "$0:$3", "$1:$2");
        due("of two SETS the one with the least VARIABLE", x.next(), 9);
        anew(3, "$0:$1", "$1=Run", "$1:$2");
        due("by steps over a SOLVED one", x.next(), 5);
        anew(2, "$0=Run", "$1=Run");
        due("all SOLVED", x.next(), 0);
        anew(2, "$0=Run", "$1=L<$0>");
        due("SOLVED by PROPER ones alone", x.next(), 2);
        anew(1, "Run=Throw");
        due("not OPEN", x.next(), InferResolve.STATE);
    }

    private void stepFromBelow() {
        promise = 13;
        kinds("C<T>;N;I:N,C<I>;D:N,C<D>;L<E>;M<E>:L<E>;");
        anew(1, "I:$0");
        due("step", x.step(), 1);
        due("one", solutionOf(0), "I");
        anew(1, "I:$0", "N:$0", "$0:Object");
        due("step", x.step(), 1);
        due("the join", solutionOf(0), "N");
        anew(1, "M<I>:$0", "L<I>:$0", "$0:L<I>");
        due("step", x.step(), 1);
        due("with ARGUMENTS", solutionOf(0), "L<I>");
        anew(2, "M<$1>:$0", "I:$1");
        due("$1 first", x.step(), 2);
        due("then $0", x.step(), 1);
        due("by CLOSING", solutionOf(0), "M<I>");
        due("none left", x.step(), 0);
        anew(2, "$0:$1", "I:$0");
        due("step", x.step(), 3);
        due("only what was PROPER ahead of it counts", solutionOf(1), "Object");
        anew(2, "$0:$1", "I:$0");
        x.close();
        due("both at once", x.step(), 3);
        due("$1", solutionOf(1), "I");
        anew(1, "M<I>:$0", "$0:L<Run>");
        due("FALSE in CLOSING", x.step(), -10);
        due("BOUNDS as CLOSING left them", all(), "$0=M<I> $0:L<Run> M<I>:$0");
        due("FAILED", x.told(3), InferResolve.FAILED);
    }

    private void stepFromAbove() {
        promise = 13;
        kinds("I;J;K:I,J;L<E>;M<E>:L<E>;");
        anew(1);
        due("step", x.step(), 1);
        due("Object without", solutionOf(0), "Object");
        anew(1, "$0:K", "$0:I");
        due("step", x.step(), 1);
        due("but those that another one is BELOW of", solutionOf(0), "K");
        anew(1, "$0:J", "$0:I");
        due("step", x.step(), 1);
        due("by the KINDS' numbers", solutionOf(0), "I&J");
        due("BOUNDS", all(), "$0=I&J $0:I $0:J");
        anew(1, "$0:L<I>", "$0:M<I>", "$0:J");
        due("step", x.step(), 1);
        due("two of three", solutionOf(0), "J&M<I>");
        anew(1, "$0:L<I>", "$0:L<J>");
        due("two of one KIND", x.step(), -10);
        due("BOUNDS as ahead of it", all(), "$0:L<I> $0:L<J>");
        due("FAILED", x.told(3), InferResolve.FAILED);
        due("no CLOSING", x.told(4), 0);
        due("STATE", x.step(), InferResolve.STATE);
        anew(2, "$0:L<$1>", "$1:I");
        due("$1 first", x.step(), 2);
        due("$0 then", x.step(), 1);
        due("$0", solutionOf(0), "L<I>");
    }

    private void stepThrows() {
        promise = 13;
        kinds("E1:Except;");
        String[][] cases = {{"Run"}, {"Run", "$0:Throw"}, {"Run", "$0:Except"}, {"Run", "$0:Except", "$0:Throw"},
            {"Run", "$0:Run"}, {"E1", "$0:E1"}, {"E1", "$0:E1", "$0:Throw"}, {"Throw", "Throw:$0"}};
        for (String[] told : cases) {
            x.fresh();
            x.variable(true);
            for (int i = 1; i < told.length; i++) {
                tape(told[i]).bound();
            }
            due("step of " + String.join(" ", told), x.step(), 1);
            due("what THROWS with " + String.join(" ", told), solutionOf(0), told[0]);
        }
        anew(1, "$0:Except");
        x.step();
        due("what THROWS not", solutionOf(0), "Except");
    }

    private void stepFails() {
        promise = 13;
        kinds("C<T>;I:C<I>;S:C<S>;L<E>;T<A,B,D>;U<X>:T<T<X,X,X>,X,X>;V<X>:T<T<X,X,X>,X,X>;");
        anew(2, "$0=I", "I:$1", "S:$1");
        due("the ANCESTORS are not the same", x.step(), -11);
        due("BOUNDS as ahead of it", all(), "$0=I I:$1 S:$1");
        due("FAILED", x.told(3), InferResolve.FAILED);
        due("STATE", x.next(), InferResolve.STATE);
        due("STATE", x.close(), InferResolve.STATE);
        due("STATE", x.bound(), InferResolve.STATE);
        due("fresh", x.fresh(), 3);
        // U<X> has T with 2 + 5 X: X of 4 NAMES makes 22, of 5 makes 27
        String four = "T<I,I,I>";
        String five = "T<I,I,L<I>>";
        anew(1, "U<" + four + ">:$0", "V<" + four + ">:$0");
        due("22 twice is LONG in CLOSING", x.step(), -10);
        due("the join", solutionOf(0), "T<T<" + four + "," + four + "," + four + ">," + four + "," + four + ">");
        due("BOUNDS", x.told(2), 3);
        anew(1, "U<" + five + ">:$0", "V<" + five + ">:$0");
        due("27 is NONE", x.step(), -10);
        due("BOUNDS", x.told(2), 2);
        // THE MEETING of 12 and 13 NAMES is LONG as the STEP begins CLOSING
        kinds("A<X,Y,Z>;B<X,Y,Z>;");
        String twelve = "<A<Run,Run,Run>,A<Run,Run,Run>,B<Run,Run,Run>>";
        anew(1, "$0:A" + twelve, "$0:B" + twelve);
        due("LONG", x.step(), -10);
        due("one ROUND all the same", x.told(4), 1);
        due("BOUNDS", x.told(2), 2);
        due("FAILED", x.told(3), InferResolve.FAILED);
        anew(2, "$0=Run", "$1:$0");
        due("$1 has no PROPER one above it ahead of CLOSING", x.step(), -11);
        // all of the SET get TYPES, or none does
        anew(2, "$0:$1", "$0:A<Run,Run,Run>", "$0:A<Run,Run,Throw>");
        due("NONE for $0", x.step(), -10);
        due("nothing for $1", x.told(6), 0);
    }

    private void stepMeets() {
        promise = 13;
        kinds("I;J;K<T>;A:I,J;B:I,J;L<E>;C:I,J;");
        anew(2, "A:$0", "B:$0", "$1=L<$0>");
        due("step", x.step(), 1);
        due("a MEET", solutionOf(0), "I&J");
        due("within an ARGUMENT", solutionOf(1), "L<I&J>");
        due("BOUNDS", all(), "$0=I&J $1=L<$0> $1=L<I&J> A:$0 B:$0");
        anew(2, "A:$0", "B:$0", "$0:$1", "C:$1");
        x.close();
        due("step", x.step(), 3);
        due("one MEET", solutionOf(0), "I&J");
        due("the same", solutionOf(1), "I&J");
        anew(2, "$0:I", "$0:J", "L<$0>=L<$1>", "C:$1");
        x.close();
        due("step", x.step(), 3);
        due("from below", solutionOf(0), "C");
        anew(3, "$0:I", "$0:J", "$1=L<$0>", "$2=L<$0>", "L<A>:$2");
        due("$0 is a MEET", x.step(), -10);
        anew(2, "$0:I", "$0:J", "$0:$1", "K<Run>:$1");
        due("ahead of CLOSING $1 is K<Run>", x.step(), -10);
    }

    /** $0 is solved, and more is told then. */
    private void afterMeet(int variables, String[] first, String... then) {
        anew(variables, first);
        due("step", x.step(), 1);
        for (String bound : then) {
            tape(bound).bound();
        }
        due("close", x.close(), InferResolve.OPEN);
    }

    private void stepOverMeets() {
        promise = 13;
        kinds("I;J;K<T>;N;A:I,J,N;B:I,J;C:J;D:I,K<N>;E:I,K<N>,J;F:N,K<A>;G:A,C;");
        String[] meet = {"A:$0", "B:$0"};
        afterMeet(2, meet, "$0:$1", "C:$1");
        due("a MEET below", all(), "$0=I&J $0:$1 A:$0 A:$1 B:$0 B:$1 C:$1 I&J:$1");
        due("step", x.step(), 2);
        due("THE JOIN of I&J, A, B, C", solutionOf(1), "J");
        afterMeet(2, meet, "$0:$1", "D:$1");
        due("step", x.step(), 2);
        due("THE JOIN of I&J, A, B, D", solutionOf(1), "I");
        afterMeet(2, meet, "$1:$0", "$1:N");
        due("a MEET above", all(), "$0=I&J $1:$0 $1:I&J $1:N A:$0 B:$0");
        due("step", x.step(), 2);
        due("THE MEETING of I&J and N", solutionOf(1), "I&J&N");
        afterMeet(2, meet, "$1:$0", "$1:A");
        due("step", x.step(), 2);
        due("THE MEETING of I&J and A", solutionOf(1), "A");
        afterMeet(2, meet, "$1:$0", "$1:C");
        due("step", x.step(), 2);
        due("THE MEETING of I&J and C", solutionOf(1), "I&C");
        // the KIND with PARAMETERS is the second of the MEET, so its ANCESTORS are looked at one by one
        String[] second = {"D:$0", "E:$0"};
        afterMeet(3, second, "$1:$0", "$1:K<$2>");
        due("I&K<N> and K<$2>", all(), "$0=I&K<N> $2=N $1:$0 $1:I&K<N> $1:K<$2> $1:K<N> D:$0 E:$0");
        afterMeet(3, second, "$0:K<$2>");
        due("I&K<N> below K<$2>", solutionOf(2), "N");
        anew(2, second);
        x.step();
        tape("$0:K<I>").bound();
        due("I&K<N> is not below K<I>", x.close(), InferResolve.FALSE);
        String[] third = {"D:$0", "E:$0"};
        anew(2, third);
        x.step();
        tape("F:$1").bound();
        tape("$0:$1").bound();
        due("the ANCESTORS of kind K differ", x.close(), InferResolve.OPEN);
        due("NONE", x.step(), -11);
        // what is BELOW all of a MEET is BELOW it, and nothing else
        anew(1, meet);
        x.step();
        tape("G:$0").bound();
        due("G is below I and J", x.close(), InferResolve.OPEN);
        anew(1, meet);
        x.step();
        tape("C:$0").bound();
        due("C is not below I", x.close(), InferResolve.FALSE);
        // a MEET is the same as one with the same TYPES, and as nothing else
        anew(2, "A:$0", "B:$0", "B:$1", "A:$1");
        due("$0", x.step(), 1);
        due("$1", x.step(), 2);
        tape("K<$0>=K<$1>").bound();
        due("I&J is I&J", x.close(), InferResolve.OPEN);
        tape("$0=I").bound();
        due("I&J is not I", x.close(), InferResolve.FALSE);
    }

    private void solution() {
        promise = 14;
        due("none told", x.solution(0), InferResolve.NONE);
        kinds("A;B<T>;");
        anew(3, "$0=B<B<A>>", "$0=B<A>", "$0=$1", "$1=B<$2>");
        due("-1", x.solution(-1), InferResolve.NONE);
        due("3", x.solution(3), InferResolve.NONE);
        due("most", x.solution(Integer.MAX_VALUE), InferResolve.NONE);
        due("of several the first", solutionOf(0), "B<A>");
        due("how many bytes", x.solution(0), 4);
        due("not SOLVED", x.solution(1), 0);
        due("not told of", x.solution(2), 0);
        due("FALSE", x.close(), InferResolve.FALSE);
        due("in any STATE", solutionOf(1), "B<A>");
    }

    // ---------------------------------------------------------------- 15, 16

    private void join() {
        promise = 15;
        kinds("I;J;K:I;A:K,J;B:J,K;C:I,J;D;L<E>;M<E>:L<E>;N<E>:L<E>,I;P<T,U>;Q<T>:P<T,T>;");
        due("one", joinOf("A"), "A");
        due("the same", joinOf("A , A,A"), "A");
        due("two", joinOf("A,B"), "J&K");
        due("the other way", joinOf("B,A"), "J&K");
        due("K is not C's", joinOf("A,C"), "I&J");
        due("three", joinOf("A,B,C"), "I&J");
        due("one is above the other", joinOf("A,K"), "K");
        due("nothing but Object", joinOf("A,D"), "Object");
        due("with ARGUMENTS", joinOf("M<A>,N<A>"), "L<A>");
        due("ARGUMENTS are not joined", tape("M<A>,N<B>").join(), 0);
        due("a MEET and ARGUMENTS", joinOf("N<A>,N<A>"), "N<A>");
        due("I all the same", tape("N<A>,N<B>").join(), 0);
        due("I is shared", joinOf("N<A>,A"), "I");
        due("of one KIND", tape("L<A>,L<B>").join(), 0);
        due("Q is above by both", joinOf("Q<A>,P<A,A>"), "P<A,A>");
        due("not the same", tape("Q<A>,P<A,B>").join(), 0);
        due("six", joinOf("A,B,C,A,B,C"), "I&J");
        due("the tape", x.told(5), 0);
        due("blanks are not written", joinOf("P < A , M<B> >"), "P<A,M<B>>");
        due("how many bytes", tape("A,B").join(), 3);
        tape("L<A>,L<B>").join();
        due("NONE writes nothing", latest(3), "J&K");
        kinds("T<A,B,C>;S<X>:T<X,X,X>;R<X>:T<X,X,X>;");
        // of 25 NAMES: itself may be, an ANCESTOR may not
        String eight = "T<Run,T<Run,Run,Run>,S<Run>>";
        String seven = "T<T<Run,Run,Run>,Run,Run>";
        due("22", joinOf("S<" + seven + ">,R<" + seven + ">"), "T<" + seven + "," + seven + "," + seven + ">");
        due("25", tape("S<" + eight + ">,R<" + eight + ">").join(), 0);
        kinds("T<A,B,C>;P<A,B>;S<X>:T<X,X,P<X,Run>>;R<X>:T<X,X,P<X,Run>>;");
        due("24", joinOf("S<" + seven + ">,R<" + seven + ">"), "T<" + seven + "," + seven + ",P<" + seven + ",Run>>");
        due("27", tape("S<" + eight + ">,R<" + eight + ">").join(), 0);
        String longer = "T<" + eight + "," + eight + "," + eight + ">";
        due("all the same", joinOf(longer + "," + longer), longer);
        due("its ANCESTOR is itself, and too long", tape(longer + ",S<" + eight + ">").join(), 0);
        due("no VARIABLES or BOUNDS change", x.told(2), 0);
        x.variable(false);
        tape("Run=Throw").bound();
        due("in any STATE", joinOf("Run"), "Run");
    }

    private void joinFault(String text, int place, int fault) {
        due("join " + text, tape(text).join(), -10 - place);
        due("fault of " + text, x.fault(), fault);
        due("tape behind " + text, x.told(5), 0);
    }

    private void joinFaults() {
        promise = 15;
        kinds("L<E>;");
        x.variable(false);
        joinFault("", 0, 2);
        joinFault("  ", 2, 2);
        joinFault("$0", 0, 2);
        joinFault("L<$0>", 2, 2);
        joinFault("Run,", 4, 2);
        joinFault("Run,,Run", 4, 2);
        joinFault("Run Run", 4, 2);
        joinFault("Run:Run", 3, 2);
        joinFault("Run;", 3, 2);
        joinFault("Run&Run", 3, 1);
        joinFault("run", 0, 1);
        joinFault("L", 0, 4);
        joinFault("Run,E", 4, 4);
        joinFault("Run<Run>", 0, 4);
        joinFault("L<L<L<L<L<Run>>>>>", 10, 5);
        joinFault("Run,Run,Run,Run,Run,Run,Run", 24, 5);
        joinFault("Run,Run,Run,Run,Run,Run,X", 24, 4);
        joinFault("Run,Run,Run,Run,Run,Run,$0", 24, 2);
        joinFault("Run,Run,Run,Run,Run,Run,", 24, 2);
        joinFault("Run,Run,Run,Run,Run,Run,run", 24, 1);
    }

    private void below() {
        promise = 16;
        kinds("I;J:I;L<E>;M<E>:L<E>;P<T,U>;Q<T>:P<L<T>,T>;S:L<S>;");
        String[] right = {"J:I", "J:J", "I:Object", "M<I>:L<I>", "L<J>:L<J>", "Q<I>:P<L<I>,I>", "S:L<S>",
            " M < L<I> > : L < L<I> > ", "Run:Throw", "Q<M<I>>:P<L<M<I>>,M<I>>"};
        String[] no = {"I:J", "Object:I", "L<I>:M<I>", "L<J>:L<I>", "M<J>:L<I>", "Q<I>:P<I,I>", "Q<I>:P<L<I>,J>",
            "S:L<J>", "I:Run", "Q<M<I>>:P<L<L<I>>,M<I>>"};
        for (String text : right) {
            due(text, tape(text).below(), 1);
        }
        for (String text : no) {
            due(text, tape(text).below(), 0);
        }
        Object[][] faults = {{"", 0, 2}, {"I", 1, 2}, {"I=I", 1, 2}, {"I:", 2, 2}, {"I:I:I", 3, 2}, {"I:$0", 2, 2},
            {"$0:I", 0, 2}, {"I:I,", 3, 2}, {"L:I", 0, 4}, {"I:E", 2, 4}, {"I:L<i>", 4, 1}, {"I:Abcdefghi", 2, 1},
            {"L<L<L<L<L<I>>>>>:I", 10, 5}, {"I,I", 1, 2}, {"I:L<>", 4, 2}};
        x.variable(false);
        for (Object[] f : faults) {
            String text = (String) f[0];
            due("below " + text, tape(text).below(), -10 - (Integer) f[1]);
            due("fault of " + text, x.fault(), f[2]);
            due("tape behind " + text, x.told(5), 0);
        }
        // no TYPE is too long to be looked at
        kinds("T<A,B,C>;U<X>:T<T<X,X,X>,T<X,X,X>,T<X,X,X>>;");
        String forty = "T<T<T<I,I,I>,T<I,I,I>,T<I,I,I>>,T<T<I,I,I>,T<I,I,I>,T<I,I,I>>,T<T<I,I,I>,T<I,I,I>,T<I,I,I>>>";
        String text = "U<" + forty.replace("I", "Run") + ">:U<" + forty.replace("I", "Run") + ">";
        due("long ones", tape(text).below(), 1);
        due("long ones", tape(text.replace("Run>>>>:", "Throw>>>>:")).below(), 0);
    }
}
