import java.util.Arrays;

/**
 * Infers the unknown types of a call: see README.md for its use.
 *
 * A TYPE is held as a run of numbers in a Row: the number of its KIND, then its ARGUMENTS, each in
 * the same way. So two TYPES are the same when their numbers are, and a TYPE is named by the place
 * where it begins.
 */
public final class InferResolve {
    public static final int NONE = -1, BAD = -2, FULL = -3, STATE = -4;
    public static final int OPEN = 0, FALSE = 1, CUT = 2, FAILED = 3;

    private static final int MOST_BYTES = 600;
    private static final int MOST_KINDS = 20;
    private static final int MOST_PARAMETERS = 3;
    private static final int MOST_PARENTS = 4;
    private static final int MOST_JOINED = 6;
    private static final int MOST_VARIABLES = 6;
    private static final int MOST_BOUNDS = 48;
    private static final int MOST_BOUNDS_TO_TELL = 24;
    private static final int LONGEST_NAME = 8;
    private static final int LONGEST_ANCESTOR = 16;
    private static final int LONGEST = 24;
    private static final int DEEPEST = 4;
    private static final int FAULT_BASE = -10;

    // What a number in a TYPE stands for: below PARAMETER a KIND; MEET + n stands ahead of n TYPES.
    private static final int OBJECT = 0, THROW = 1, EXCEPT = 2, RUN = 3;
    private static final int PARAMETER = 20;
    private static final int VARIABLE = 24;
    private static final int MEET = 32;
    private static final int NUMBERS = 64;

    private static final int EQUAL = 0, BELOW = 1;

    private final Row tape = new Row(MOST_BYTES);
    private final Row text = new Row(64);
    private final Row joined = new Row(64);
    private final Kinds kinds = new Kinds();
    private final Kinds spareKinds = new Kinds();
    private final Reader reader = new Reader(tape, kinds);
    private final Writer writer = new Writer(kinds);
    private final Bounds bounds = new Bounds(kinds);
    private final Order order = new Order(bounds, writer);
    private final Reducer reducer = new Reducer(kinds, bounds);
    private final Closer closer = new Closer(kinds, bounds, reducer);
    private final Lattice lattice = new Lattice(kinds);
    private final Solver solver = new Solver(bounds, lattice);
    private int variables;
    private int throwing;
    private int state;
    private int latestFault;

    public InferResolve() {
    }

    public int feed(long w, int n) {
        if (n < 1 || n > 8) {
            return BAD;
        }
        if (tape.size() + n > MOST_BYTES) {
            return FULL;
        }
        for (int i = n - 1; i >= 0; i--) {
            tape.put((int) (w >>> (8 * i)) & 255);
        }
        return tape.size();
    }

    public int kinds() {
        boolean isRight = reader.readKinds(spareKinds);
        endText();
        if (!isRight) {
            return FAULT_BASE - reader.faultPlace();
        }
        kinds.takeFrom(spareKinds);
        forgetBounds();
        return kinds.count();
    }

    public int fault() {
        return latestFault;
    }

    public int variable(boolean hasThrows) {
        if (variables >= MOST_VARIABLES) {
            return FULL;
        }
        if (hasThrows) {
            throwing |= 1 << variables;
        }
        variables++;
        return variables - 1;
    }

    public int fresh() {
        int count = bounds.count();
        forgetBounds();
        return count;
    }

    public int bound() {
        if (state != OPEN || bounds.count() >= MOST_BOUNDS_TO_TELL) {
            return STATE;
        }
        boolean isRight = reader.readPair(kinds, variables, true);
        endText();
        if (!isRight) {
            return FAULT_BASE - reader.faultPlace();
        }
        reducer.start(false);
        if (reader.sign() == EQUAL) {
            reducer.reduceEqual(reader.codes(), reader.start(0), reader.codes(), reader.start(1), 1);
        } else {
            reducer.reduceBelow(reader.codes(), reader.start(0), reader.codes(), reader.start(1));
        }
        state = reducer.isFalse() ? FALSE : reducer.isLong() ? CUT : OPEN;
        return bounds.count();
    }

    public int close() {
        if (state != OPEN) {
            return STATE;
        }
        state = closer.closing(variables, false);
        return state;
    }

    public int told(int what) {
        switch (what) {
            case 0:
                return kinds.count();
            case 1:
                return variables;
            case 2:
                return bounds.count();
            case 3:
                return state;
            case 4:
                return closer.rounds();
            case 5:
                return tape.size();
            case 6:
                return Integer.bitCount(solver.solved());
            default:
                return BAD;
        }
    }

    public int written(int k) {
        if (k < 0 || k >= bounds.count()) {
            return NONE;
        }
        order.refresh();
        order.putBound(k, text);
        return text.size();
    }

    public int letter(int i) throws IndexOutOfBoundsException {
        if (i < 0 || i >= text.size()) {
            throw new IndexOutOfBoundsException("no such byte was written");
        }
        return text.get(i);
    }

    public int next() {
        return state != OPEN ? STATE : solver.nextSet(variables);
    }

    public int step() {
        if (state != OPEN) {
            return STATE;
        }
        int set = solver.nextSet(variables);
        if (set == 0) {
            return 0;
        }
        boolean hasTypes = solver.choose(set, throwing);
        if (hasTypes) {
            reducer.start(false);
            solver.tellChosen(reducer);
            state = closer.closing(variables, reducer.isLong());
        }
        if (!hasTypes || state != OPEN) {
            state = FAILED;
            return FAULT_BASE - Integer.numberOfTrailingZeros(set);
        }
        return set;
    }

    public int solution(int variable) {
        if (variable < 0 || variable >= variables) {
            return NONE;
        }
        order.refresh();
        return order.putSolution(variable, text) ? text.size() : 0;
    }

    public int join() {
        boolean isRight = reader.readTypes(kinds);
        endText();
        if (!isRight) {
            return FAULT_BASE - reader.faultPlace();
        }
        joined.cut(0);
        if (!lattice.putJoin(reader.codes(), reader.starts(), joined)) {
            return 0;
        }
        text.cut(0);
        writer.putType(joined, 0, text, 0);
        return text.size();
    }

    public int below() {
        boolean isRight = reader.readPair(kinds, 0, false);
        endText();
        if (!isRight) {
            return FAULT_BASE - reader.faultPlace();
        }
        Row codes = reader.codes();
        return kinds.isAncestor(codes, reader.start(0), codes, reader.start(1)) ? 1 : 0;
    }

    private void endText() {
        tape.cut(0);
        latestFault = reader.faultNumber();
    }

    private void forgetBounds() {
        bounds.clear();
        closer.forgetRounds();
        variables = 0;
        throwing = 0;
        state = OPEN;
    }

    private static boolean isParameter(int code) {
        return code >= PARAMETER && code < PARAMETER + MOST_PARAMETERS;
    }

    private static boolean isVariable(int code) {
        return code >= VARIABLE && code < VARIABLE + MOST_VARIABLES;
    }

    private static boolean isMeet(int code) {
        return code >= MEET;
    }

    /** Numbers that grow as needed; outside of them all is -1, so that no place can be a wrong index. */
    private static final class Row {
        private int[] cells;
        private int size;

        Row(int room) {
            cells = new int[room < 1 ? 1 : room];
        }

        int size() {
            return size;
        }

        int get(int i) {
            return i >= 0 && i < size ? cells[i] : -1;
        }

        void put(int value) {
            if (size >= cells.length) {
                cells = Arrays.copyOf(cells, 2 * size + 2);
            }
            cells[size] = value;
            size++;
        }

        void append(Row from, int start, int end) {
            if (start < 0 || start >= end || end > from.size) {
                return;
            }
            int newSize = size + end - start;
            if (newSize > cells.length) {
                cells = Arrays.copyOf(cells, 2 * newSize);
            }
            System.arraycopy(from.cells, start, cells, size, end - start);
            size = newSize;
        }

        void insert(int i, int value) {
            put(value);
            if (i >= 0 && i < size - 1) {
                System.arraycopy(cells, i, cells, i + 1, size - 1 - i);
                cells[i] = value;
            }
        }

        void cut(int newSize) {
            if (newSize >= 0 && newSize < size) {
                size = newSize;
            }
        }

        boolean isSame(int start, int end, Row other, int otherStart, int otherEnd) {
            if (end - start != otherEnd - otherStart) {
                return false;
            }
            for (int i = start; i < end; i++) {
                int j = otherStart + i - start;
                if (i < 0 || i >= size || j < 0 || j >= other.size || cells[i] != other.cells[j]) {
                    return false;
                }
            }
            return true;
        }

        boolean has(int code, int start, int end) {
            for (int i = start; i < end; i++) {
                if (get(i) == code) {
                    return true;
                }
            }
            return false;
        }

        int sum(int start, int end) {
            int all = 0;
            for (int i = start; i >= 0 && i < end && i < size; i++) {
                all = 31 * all + cells[i];
            }
            return all ^ all >>> 6 ^ all >>> 12;
        }

        int variablesIn(int start, int end) {
            int found = 0;
            for (int i = start; i < end; i++) {
                if (isVariable(get(i))) {
                    found |= 1 << (get(i) - VARIABLE);
                }
            }
            return found;
        }
    }

    /**
     * The KINDS, and for each the ANCESTORS of its TYPE with its PARAMETERS as ARGUMENTS. At most
     * one ANCESTOR is of a KIND, so it is found by the two KINDS' numbers.
     */
    private static final class Kinds {
        private final int[] letters = new int[MOST_KINDS * LONGEST_NAME];
        private final int[] lengths = new int[MOST_KINDS];
        private final int[] parts = new int[NUMBERS];
        private final int[] masks = new int[MOST_KINDS];
        private final int[] places = new int[MOST_KINDS * MOST_KINDS];
        private final Row forms = new Row(128);
        private int count;
        private final int firstCount;
        private final int firstForms;

        Kinds() {
            for (int n = 2; n <= MOST_KINDS; n++) {
                parts[MEET + n] = n;
            }
            addFirst("Object");
            addFirst("Throw");
            addFirst("Except");
            addFirst("Run");
            firstCount = count;
            firstForms = forms.size();
        }

        /** The first KINDS are a chain: each has all those ahead of it as ANCESTORS. */
        private void addFirst(String name) {
            for (int i = 0; i < name.length(); i++) {
                addLetter(name.charAt(i));
            }
            for (int kind = 0; kind <= count; kind++) {
                setPlace(kind);
                forms.put(kind);
            }
            count++;
        }

        int count() {
            return count;
        }

        void startAnew() {
            count = firstCount;
            forms.cut(firstForms);
        }

        void takeFrom(Kinds other) {
            System.arraycopy(other.letters, 0, letters, 0, letters.length);
            System.arraycopy(other.lengths, 0, lengths, 0, lengths.length);
            System.arraycopy(other.parts, 0, parts, 0, parts.length);
            System.arraycopy(other.masks, 0, masks, 0, masks.length);
            System.arraycopy(other.places, 0, places, 0, places.length);
            forms.cut(0);
            forms.append(other.forms, 0, other.forms.size());
            count = other.count;
        }

        private void addLetter(int c) {
            if (count < MOST_KINDS && lengths[count] < LONGEST_NAME) {
                letters[count * LONGEST_NAME + lengths[count]] = c;
                lengths[count]++;
            }
        }

        private void setPlace(int ancestor) {
            if (count < MOST_KINDS && ancestor >= 0 && ancestor < MOST_KINDS) {
                places[count * MOST_KINDS + ancestor] = forms.size();
                masks[count] |= 1 << ancestor;
            }
        }

        /** A KIND is begun: it is not counted yet, since it is not known in its own PARENTS' places. */
        void begin(Row from, int start, int end) {
            if (count >= MOST_KINDS) {
                return;
            }
            lengths[count] = 0;
            masks[count] = 0;
            parts[count] = 0;
            for (int i = start; i < end; i++) {
                addLetter(from.get(i));
            }
        }

        void setParameters(int n) {
            if (count < MOST_KINDS) {
                parts[count] = n;
            }
        }

        /** The KIND that was begun gets its ANCESTORS and is counted: 0, or the FAULT that it has. */
        int settle(Row codes, Row parents) {
            setPlace(count);
            forms.put(count);
            for (int n = 0; n < partsOf(count); n++) {
                forms.put(PARAMETER + n);
            }
            for (int i = 0; i < parents.size(); i++) {
                if (hasLongAncestor(codes, parents.get(i))) {
                    return 5;
                }
            }
            for (int i = 0; i < parents.size(); i++) {
                if (!addAncestors(codes, parents.get(i))) {
                    return 6;
                }
            }
            count++;
            return 0;
        }

        private boolean hasLongAncestor(Row codes, int parent) {
            for (int kind = 0; kind < count; kind++) {
                if (hasAncestor(codes.get(parent), kind)
                        && ancestorLength(codes, parent, kind) > LONGEST_ANCESTOR) {
                    return true;
                }
            }
            return false;
        }

        private boolean addAncestors(Row codes, int parent) {
            for (int kind = 0; kind < count; kind++) {
                if (!hasAncestor(codes.get(parent), kind)) {
                    continue;
                }
                if (hasAncestor(count, kind)) {
                    if (!isAncestor(codes, parent, forms, place(count, kind))) {
                        return false;
                    }
                } else {
                    setPlace(kind);
                    putAncestor(codes, parent, kind, forms);
                }
            }
            return true;
        }

        int named(Row from, int start, int end) {
            for (int kind = 0; kind < count; kind++) {
                if (isNamed(kind, from, start, end)) {
                    return kind;
                }
            }
            return -1;
        }

        boolean isNamed(int kind, Row from, int start, int end) {
            if (kind < 0 || kind >= MOST_KINDS || lengths[kind] != end - start) {
                return false;
            }
            for (int i = 0; i < lengths[kind]; i++) {
                int j = start + i;
                if (j < 0 || j >= from.size || letters[kind * LONGEST_NAME + i] != from.cells[j]) {
                    return false;
                }
            }
            return true;
        }

        void putName(int kind, Row out) {
            if (kind < 0 || kind >= MOST_KINDS) {
                return;
            }
            for (int i = 0; i < lengths[kind]; i++) {
                out.put(letters[kind * LONGEST_NAME + i]);
            }
        }

        /** How many TYPES stand directly within what begins with this number. */
        int partsOf(int code) {
            return code >= 0 && code < NUMBERS ? parts[code] : 0;
        }

        /** Where the TYPE is over that begins at this place. */
        int over(Row row, int at) {
            int open = 1;
            int i = at;
            while (open > 0 && i >= 0 && i < row.size) {
                int code = row.cells[i];
                open += (code >= 0 && code < NUMBERS ? parts[code] : 0) - 1;
                i++;
            }
            return i;
        }

        /** Where the ARGUMENT with this number begins. */
        private int part(Row row, int at, int number) {
            int i = at + 1;
            for (int n = 0; n < number; n++) {
                i = over(row, i);
            }
            return i;
        }

        /** HOW LONG the TYPE is. */
        int length(Row row, int at) {
            int end = over(row, at);
            int names = 0;
            for (int i = at; i >= 0 && i < end && i < row.size; i++) {
                if (row.cells[i] < MEET) {
                    names++;
                }
            }
            return names;
        }

        private int place(int kind, int ancestor) {
            int i = kind * MOST_KINDS + ancestor;
            return i >= 0 && i < places.length ? places[i] : 0;
        }

        private int mask(int kind) {
            return kind >= 0 && kind < MOST_KINDS ? masks[kind] : 0;
        }

        boolean hasAncestor(int kind, int ancestor) {
            return ancestor >= 0 && ancestor < MOST_KINDS && (mask(kind) >> ancestor & 1) != 0;
        }

        /** The KINDS, as bits, of the ANCESTORS of a TYPE of this KIND, but of itself. */
        int maskAbove(int kind) {
            return mask(kind) & ~(1 << kind);
        }

        /** The KINDS, as bits, of the TYPE's ANCESTORS. */
        int ancestors(Row row, int at) {
            int code = row.get(at);
            if (!isMeet(code)) {
                return mask(code);
            }
            int all = 0;
            int member = at + 1;
            for (int n = 0; n < partsOf(code); n++) {
                all |= mask(row.get(member));
                member = over(row, member);
            }
            return all;
        }

        /** Of the TYPE itself or the TYPES of a MEET the first with an ANCESTOR of this KIND, or -1. */
        int holder(Row row, int at, int kind) {
            int code = row.get(at);
            int members = isMeet(code) ? partsOf(code) : 1;
            int member = isMeet(code) ? at + 1 : at;
            for (int n = 0; n < members; n++) {
                if (hasAncestor(row.get(member), kind)) {
                    return member;
                }
                member = over(row, member);
            }
            return -1;
        }

        /** HOW LONG the ANCESTOR of this KIND is that the TYPE, of a KIND that has one, has. */
        int ancestorLength(Row row, int at, int kind) {
            if (!hasAncestor(row.get(at), kind)) {
                return 0;
            }
            int form = place(row.get(at), kind);
            int end = over(forms, form);
            int names = 0;
            for (int i = form; i < end; i++) {
                int code = forms.get(i);
                names += isParameter(code) ? length(row, part(row, at, code - PARAMETER)) : 1;
            }
            return names;
        }

        void putAncestor(Row row, int at, int kind, Row out) {
            if (!hasAncestor(row.get(at), kind)) {
                return;
            }
            int form = place(row.get(at), kind);
            int end = over(forms, form);
            for (int i = form; i < end; i++) {
                int code = forms.get(i);
                if (isParameter(code)) {
                    int argument = part(row, at, code - PARAMETER);
                    out.append(row, argument, over(row, argument));
                } else {
                    out.put(code);
                }
            }
        }

        /** Whether the other TYPE is an ANCESTOR of this one, both of KINDS; it need not be put anywhere. */
        boolean isAncestor(Row row, int at, Row other, int otherAt) {
            int kind = other.get(otherAt);
            if (!hasAncestor(row.get(at), kind)) {
                return false;
            }
            int form = place(row.get(at), kind);
            int end = over(forms, form);
            int seen = otherAt;
            for (int i = form; i < end; i++) {
                int code = forms.get(i);
                int from = isParameter(code) ? part(row, at, code - PARAMETER) : i;
                Row source = isParameter(code) ? row : forms;
                int to = isParameter(code) ? over(row, from) : i + 1;
                if (!source.isSame(from, to, other, seen, seen + to - from)) {
                    return false;
                }
                seen += to - from;
            }
            return true;
        }
    }

    /** Reads a text from the tape, and tells the first FAULT of it. */
    private static final class Reader {
        private static final int END = 0, WRONG = 1, NAME = 2, DOLLAR = 3;

        private final Row tape;
        private final Row codes = new Row(64);
        private final Row starts = new Row(8);
        private final int[] parameterFrom = new int[MOST_PARAMETERS];
        private final int[] parameterTo = new int[MOST_PARAMETERS];
        private Kinds kinds;
        private int parameters;
        private int variables;
        private boolean isTelling;
        private int token;
        private int from;
        private int to;
        private int sign;
        private int fault;
        private int place;

        Reader(Row tape, Kinds kinds) {
            this.tape = tape;
            this.kinds = kinds;
        }

        int faultNumber() {
            return fault;
        }

        int faultPlace() {
            return place;
        }

        int sign() {
            return sign;
        }

        Row codes() {
            return codes;
        }

        Row starts() {
            return starts;
        }

        int start(int i) {
            return starts.get(i);
        }

        boolean readKinds(Kinds spare) {
            spare.startAnew();
            begin(spare, 0);
            isTelling = true;
            for (int n = 0; n < MOST_BYTES && token != END; n++) {
                if (!readKind()) {
                    return false;
                }
            }
            return true;
        }

        boolean readPair(Kinds known, int toldVariables, boolean mayBeEqual) {
            begin(known, toldVariables);
            starts.put(codes.size());
            if (!readType(0, false)) {
                return false;
            }
            if (token != ':' && !(mayBeEqual && token == '=')) {
                return failToken();
            }
            sign = token == ':' ? BELOW : EQUAL;
            advance();
            starts.put(codes.size());
            return readType(0, false) && (token == END || failToken());
        }

        boolean readTypes(Kinds known) {
            begin(known, 0);
            boolean isMore = true;
            for (int n = 0; n <= MOST_JOINED && isMore; n++) {
                starts.put(codes.size());
                if (!readType(0, n >= MOST_JOINED)) {
                    return false;
                }
                isMore = token == ',';
                if (isMore) {
                    advance();
                }
            }
            return token == END || failToken();
        }

        private void begin(Kinds known, int toldVariables) {
            kinds = known;
            variables = toldVariables;
            isTelling = false;
            parameters = 0;
            codes.cut(0);
            starts.cut(0);
            fault = 0;
            place = 0;
            to = 0;
            advance();
        }

        private boolean readKind() {
            if (token != NAME) {
                return failToken();
            }
            if (kinds.named(tape, from, to) >= 0) {
                return fail(3, from);
            }
            if (kinds.count() >= MOST_KINDS) {
                return fail(5, from);
            }
            int nameAt = from;
            kinds.begin(tape, from, to);
            parameters = 0;
            codes.cut(0);
            starts.cut(0);
            advance();
            if (token == '<' && !readParameters()) {
                return false;
            }
            kinds.setParameters(parameters);
            if (token == ':' && !readParents()) {
                return false;
            }
            if (token != ';') {
                return failToken();
            }
            if (starts.size() == 0) {
                starts.put(codes.size());
                codes.put(OBJECT);
            }
            int found = kinds.settle(codes, starts);
            if (found != 0) {
                return fail(found, nameAt);
            }
            advance();
            return true;
        }

        private boolean readParameters() {
            boolean isMore = true;
            for (int n = 0; n <= MOST_PARAMETERS && isMore; n++) {
                advance();
                if (token != NAME) {
                    return failToken();
                }
                if (parameterNamed() >= 0) {
                    return fail(3, from);
                }
                if (n >= MOST_PARAMETERS) {
                    return fail(5, from);
                }
                parameterFrom[n] = from;
                parameterTo[n] = to;
                parameters = n + 1;
                advance();
                isMore = token == ',';
            }
            if (token != '>') {
                return failToken();
            }
            advance();
            return true;
        }

        private boolean readParents() {
            boolean isMore = true;
            for (int n = 0; n <= MOST_PARENTS && isMore; n++) {
                advance();
                starts.put(codes.size());
                if (!readType(0, n >= MOST_PARENTS)) {
                    return false;
                }
                isMore = token == ',';
            }
            return true;
        }

        /** One TYPE, which stands within as many others as depth tells. */
        private boolean readType(int depth, boolean isTooMany) {
            boolean isRefused = isTooMany || depth > DEEPEST;
            if (token == DOLLAR) {
                return readLeaf(VARIABLE + variableNumber(), variableNumber() < variables, isRefused);
            }
            if (token != NAME) {
                return failToken();
            }
            int parameter = parameterNamed();
            if (parameter >= 0) {
                return readLeaf(PARAMETER + parameter, depth > 0, isRefused);
            }
            int kind = kindNamed(depth > 0);
            if (kind < 0) {
                return fail(4, from);
            }
            if (isRefused) {
                return fail(5, from);
            }
            int nameAt = from;
            codes.put(kind);
            advance();
            int arguments = token == '<' ? readArguments(depth) : 0;
            if (arguments < 0) {
                return false;
            }
            return arguments == kinds.partsOf(kind) || fail(4, nameAt);
        }

        private boolean readLeaf(int code, boolean mayCome, boolean isRefused) {
            if (!mayCome) {
                return fail(2, from);
            }
            if (isRefused) {
                return fail(5, from);
            }
            codes.put(code);
            advance();
            return true;
        }

        /** How many ARGUMENTS there are, or -1 behind a FAULT. */
        private int readArguments(int depth) {
            int count = 0;
            boolean isMore = true;
            while (isMore && count < MOST_BYTES) {
                advance();
                if (!readType(depth + 1, false)) {
                    return -1;
                }
                count++;
                isMore = token == ',';
            }
            if (token != '>') {
                failToken();
                return -1;
            }
            advance();
            return count;
        }

        private int variableNumber() {
            return tape.get(from + 1) - '0';
        }

        private int parameterNamed() {
            for (int n = 0; n < parameters && n < MOST_PARAMETERS; n++) {
                if (tape.isSame(from, to, tape, parameterFrom[n], parameterTo[n])) {
                    return n;
                }
            }
            return -1;
        }

        private int kindNamed(boolean isWithin) {
            int kind = kinds.named(tape, from, to);
            if (kind < 0 && isTelling && isWithin && kinds.isNamed(kinds.count(), tape, from, to)) {
                return kinds.count();
            }
            return kind;
        }

        private boolean failToken() {
            return fail(token == WRONG ? 1 : 2, from);
        }

        private boolean fail(int number, int at) {
            fault = number;
            place = at;
            return false;
        }

        /** A token that is none is told only when it is its turn: what ended ahead of it is met first. */
        private void advance() {
            int i = to;
            while (i < tape.size() && tape.get(i) == ' ') {
                i++;
            }
            from = i;
            int c = tape.get(i);
            to = i < tape.size() ? i + 1 : i;
            if (i >= tape.size()) {
                token = END;
            } else if (c >= 'A' && c <= 'Z') {
                to = nameOver(i);
                token = to - from > LONGEST_NAME ? WRONG : NAME;
            } else if (c == '$') {
                boolean hasDigit = tape.get(i + 1) >= '0' && tape.get(i + 1) < '0' + MOST_VARIABLES;
                to = hasDigit ? i + 2 : i + 1;
                token = hasDigit ? DOLLAR : WRONG;
            } else {
                token = isSign(c) ? c : WRONG;
            }
        }

        private int nameOver(int start) {
            int i = start;
            boolean isPart = true;
            while (isPart && i >= 0 && i < tape.size) {
                int c = tape.cells[i];
                isPart = c >= 'A' && c <= 'Z' || c >= 'a' && c <= 'z' || c >= '0' && c <= '9';
                i += isPart ? 1 : 0;
            }
            return i;
        }

        private static boolean isSign(int c) {
            return c == '<' || c == '>' || c == ',' || c == ';' || c == ':' || c == '=';
        }
    }

    /** Puts TYPES as they are WRITTEN. */
    private static final class Writer {
        /** A TYPE that is WRITTEN is never deeper than this: none of more than 24 NAMES or 5 levels is. */
        private static final int DEEPEST_WRITTEN = 40;

        private final Kinds kinds;

        Writer(Kinds kinds) {
            this.kinds = kinds;
        }

        /** Where the TYPE is over. */
        int putType(Row from, int at, Row out, int depth) {
            int code = from.get(at);
            if (depth > DEEPEST_WRITTEN) {
                return kinds.over(from, at);
            }
            if (isMeet(code)) {
                return putTypes(from, at, '&', out, depth);
            }
            if (isVariable(code)) {
                out.put('$');
                out.put('0' + code - VARIABLE);
                return at + 1;
            }
            kinds.putName(code, out);
            if (kinds.partsOf(code) == 0) {
                return at + 1;
            }
            out.put('<');
            int end = putTypes(from, at, ',', out, depth);
            out.put('>');
            return end;
        }

        private int putTypes(Row from, int at, int between, Row out, int depth) {
            int part = at + 1;
            int count = kinds.partsOf(from.get(at));
            for (int n = 0; n < count; n++) {
                if (n > 0) {
                    out.put(between);
                }
                part = putType(from, part, out, depth + 1);
            }
            return part;
        }
    }

    /** The BOUNDS, in the order in which they came: a ROUND looks at those that were there ahead of it. */
    private static final class Bounds {
        private static final int CHAINS = 64;

        private final Kinds kinds;
        private final Row codes = new Row(256);
        private final Row signs = new Row(32);
        private final Row lefts = new Row(32);
        private final Row rights = new Row(32);
        private final Row ends = new Row(32);
        private final Row links = new Row(32);
        private final int[] chains = new int[CHAINS];
        private int changes;

        Bounds(Kinds kinds) {
            this.kinds = kinds;
            Arrays.fill(chains, -1);
        }

        Row codes() {
            return codes;
        }

        int count() {
            return signs.size();
        }

        /** A number that is another one whenever the BOUNDS are others. */
        int changes() {
            return changes;
        }

        int sign(int b) {
            return signs.get(b);
        }

        int left(int b) {
            return lefts.get(b);
        }

        int right(int b) {
            return rights.get(b);
        }

        int over(int b) {
            return ends.get(b);
        }

        int leftCode(int b) {
            return codes.get(lefts.get(b));
        }

        int rightCode(int b) {
            return codes.get(rights.get(b));
        }

        boolean isProperLeft(int b) {
            return codes.variablesIn(left(b), right(b)) == 0;
        }

        boolean isProperRight(int b) {
            return codes.variablesIn(right(b), over(b)) == 0;
        }

        boolean isSolution(int b) {
            return sign(b) == EQUAL && isVariable(leftCode(b)) && isProperRight(b);
        }

        void clear() {
            codes.cut(0);
            signs.cut(0);
            lefts.cut(0);
            rights.cut(0);
            ends.cut(0);
            links.cut(0);
            Arrays.fill(chains, -1);
            changes++;
        }

        /** The BOUND is there behind this, unless it says nothing; of = the VARIABLE comes first. */
        void add(int sign, Row a, int aAt, Row b, int bAt) {
            int s = a.get(aAt);
            int t = b.get(bAt);
            if (isVariable(s) && (s == t || sign == BELOW && t == OBJECT)) {
                return;
            }
            boolean isTurned = sign == EQUAL && isVariable(t) && (!isVariable(s) || t < s);
            Row first = isTurned ? b : a;
            Row second = isTurned ? a : b;
            int firstAt = isTurned ? bAt : aAt;
            int secondAt = isTurned ? aAt : bAt;
            int left = codes.size();
            codes.append(first, firstAt, kinds.over(first, firstAt));
            int right = codes.size();
            codes.append(second, secondAt, kinds.over(second, secondAt));
            // chained by a sum of their numbers, so that few BOUNDS are compared
            int chain = codes.sum(left, codes.size()) & CHAINS - 1;
            int known = chains[chain];
            for (int n = 0; n < signs.size() && known >= 0; n++) {
                if (signs.get(known) == sign
                        && codes.isSame(lefts.get(known), ends.get(known), codes, left, codes.size())) {
                    codes.cut(left);
                    return;
                }
                known = links.get(known);
            }
            links.put(chains[chain]);
            chains[chain] = signs.size();
            signs.put(sign);
            lefts.put(left);
            rights.put(right);
            ends.put(codes.size());
            changes++;
        }
    }

    /** The BOUNDS in the order of what is WRITTEN of them. */
    private static final class Order {
        private final Bounds bounds;
        private final Writer writer;
        private final Row letters = new Row(256);
        private final Row lefts = new Row(32);
        private final Row rights = new Row(32);
        private final Row ranks = new Row(32);
        private int seenChanges = -1;

        Order(Bounds bounds, Writer writer) {
            this.bounds = bounds;
            this.writer = writer;
        }

        void refresh() {
            if (seenChanges == bounds.changes()) {
                return;
            }
            seenChanges = bounds.changes();
            letters.cut(0);
            lefts.cut(0);
            rights.cut(0);
            ranks.cut(0);
            for (int b = 0; b < bounds.count(); b++) {
                lefts.put(letters.size());
                writer.putType(bounds.codes(), bounds.left(b), letters, 0);
                rights.put(letters.size());
                writer.putType(bounds.codes(), bounds.right(b), letters, 0);
            }
            for (int b = 0; b < bounds.count(); b++) {
                ranks.insert(rankOf(b), b);
            }
        }

        void putBound(int rank, Row out) {
            int b = ranks.get(rank);
            out.cut(0);
            out.append(letters, lefts.get(b), rights.get(b));
            out.put(bounds.sign(b) == EQUAL ? '=' : ':');
            out.append(letters, rights.get(b), over(b));
        }

        /** Whether there is one. */
        boolean putSolution(int variable, Row out) {
            for (int rank = 0; rank < ranks.size(); rank++) {
                int b = ranks.get(rank);
                if (bounds.isSolution(b) && bounds.leftCode(b) == VARIABLE + variable) {
                    out.cut(0);
                    out.append(letters, rights.get(b), over(b));
                    return true;
                }
            }
            return false;
        }

        private int over(int b) {
            return b + 1 < lefts.size() ? lefts.get(b + 1) : letters.size();
        }

        private int rankOf(int b) {
            int low = 0;
            int high = ranks.size();
            // each turn leaves at most half of what lay between
            for (int turn = 0; turn < 32 && low < high; turn++) {
                int middle = (low + high) / 2;
                if (compare(ranks.get(middle), b) < 0) {
                    low = middle + 1;
                } else {
                    high = middle;
                }
            }
            return low;
        }

        private int compare(int b, int c) {
            if (bounds.sign(b) != bounds.sign(c)) {
                return bounds.sign(b) == EQUAL ? -1 : 1;
            }
            int byLeft = compareLetters(lefts.get(b), rights.get(b), lefts.get(c), rights.get(c));
            return byLeft != 0 ? byLeft : compareLetters(rights.get(b), over(b), rights.get(c), over(c));
        }

        private int compareLetters(int start, int end, int otherStart, int otherEnd) {
            int common = Math.min(end - start, otherEnd - otherStart);
            for (int i = 0; i < common; i++) {
                int difference = letters.get(start + i) - letters.get(otherStart + i);
                if (difference != 0) {
                    return difference;
                }
            }
            return (end - start) - (otherEnd - otherStart);
        }
    }

    /** REDUCES what is told to BOUNDS, and notes whether FALSE or LONG came. */
    private static final class Reducer {
        private final Kinds kinds;
        private final Bounds bounds;
        private final Row ancestor = new Row(48);
        private boolean isFalse;
        private boolean isLong;

        Reducer(Kinds kinds, Bounds bounds) {
            this.kinds = kinds;
            this.bounds = bounds;
        }

        void start(boolean wasLong) {
            isFalse = false;
            isLong = wasLong;
        }

        boolean isFalse() {
            return isFalse;
        }

        boolean isLong() {
            return isLong;
        }

        void noteLong() {
            isLong = true;
        }

        /** So many TYPES, one behind the other in both rows, two by two. */
        void reduceEqual(Row a, int aAt, Row b, int bAt, int count) {
            int i = aAt;
            int j = bAt;
            for (int n = 0; n < count; n++) {
                if (kinds.length(a, i) + kinds.length(b, j) > LONGEST) {
                    isLong = true;
                } else {
                    walkBoth(a, i, b, j);
                }
                i = kinds.over(a, i);
                j = kinds.over(b, j);
            }
        }

        /** As long as the KINDS are the same, their ARGUMENTS lie next in both. */
        private void walkBoth(Row a, int aAt, Row b, int bAt) {
            int end = kinds.over(a, aAt);
            int i = aAt;
            int j = bAt;
            // each turn goes on in both by one number at least
            for (int turn = aAt; turn < end && i < end; turn++) {
                int s = a.get(i);
                int t = b.get(j);
                if (s == t && s < PARAMETER) {
                    i++;
                    j++;
                    continue;
                }
                int iOver = kinds.over(a, i);
                int jOver = kinds.over(b, j);
                if (isVariable(s) || isVariable(t)) {
                    bounds.add(EQUAL, a, i, b, j);
                } else if (!a.isSame(i, iOver, b, j, jOver)) {
                    isFalse = true;
                }
                i = iOver;
                j = jOver;
            }
        }

        void reduceBelow(Row a, int aAt, Row b, int bAt) {
            int code = b.get(bAt);
            if (kinds.length(a, aAt) + kinds.length(b, bAt) > LONGEST) {
                isLong = true;
                return;
            }
            if (isVariable(a.get(aAt)) || isVariable(code)) {
                bounds.add(BELOW, a, aAt, b, bAt);
                return;
            }
            int members = isMeet(code) ? kinds.partsOf(code) : 1;
            int member = isMeet(code) ? bAt + 1 : bAt;
            for (int n = 0; n < members; n++) {
                int kind = b.get(member);
                int holder = kinds.holder(a, aAt, kind);
                if (holder < 0) {
                    isFalse = true;
                } else if (kinds.ancestorLength(a, holder, kind) > LONGEST) {
                    isLong = true;
                } else {
                    ancestor.cut(0);
                    kinds.putAncestor(a, holder, kind, ancestor);
                    reduceEqual(ancestor, 1, b, member + 1, kinds.partsOf(kind));
                }
                member = kinds.over(b, member);
            }
        }
    }

    /** CLOSING: ROUND after ROUND. */
    private static final class Closer {
        /** Each ROUND but the last brings a BOUND, and more than 48 end it: no more ROUNDS can be. */
        private static final int MOST_ROUNDS = 100;

        private final Kinds kinds;
        private final Bounds bounds;
        private final Reducer reducer;
        private final Row sames = new Row(32);
        private final Row lowers = new Row(32);
        private final Row uppers = new Row(32);
        private final Row filled = new Row(64);
        private final Row first = new Row(48);
        private final Row second = new Row(48);
        private int rounds;

        Closer(Kinds kinds, Bounds bounds, Reducer reducer) {
            this.kinds = kinds;
            this.bounds = bounds;
            this.reducer = reducer;
        }

        int rounds() {
            return rounds;
        }

        void forgetRounds() {
            rounds = 0;
        }

        int closing(int variables, boolean beganLong) {
            rounds = 0;
            while (rounds < MOST_ROUNDS) {
                int before = bounds.count();
                reducer.start(beganLong);
                for (int variable = 0; variable < variables; variable++) {
                    sortOut(VARIABLE + variable, before);
                    pairSames();
                    pairLowers();
                    pairUppers();
                    fillIn(VARIABLE + variable, before);
                }
                rounds++;
                if (reducer.isFalse()) {
                    return FALSE;
                }
                if (reducer.isLong() || bounds.count() > MOST_BOUNDS) {
                    return CUT;
                }
                if (bounds.count() == before) {
                    return OPEN;
                }
            }
            return CUT;
        }

        /** What the VARIABLE is told to be, to be above, and to be below. */
        private void sortOut(int variable, int before) {
            sames.cut(0);
            lowers.cut(0);
            uppers.cut(0);
            for (int b = 0; b < before; b++) {
                if (bounds.leftCode(b) == variable) {
                    (bounds.sign(b) == EQUAL ? sames : uppers).put(bounds.right(b));
                }
                if (bounds.rightCode(b) == variable) {
                    (bounds.sign(b) == EQUAL ? sames : lowers).put(bounds.left(b));
                }
            }
        }

        private void pairSames() {
            Row codes = bounds.codes();
            for (int i = 0; i < sames.size(); i++) {
                for (int j = i; j < sames.size(); j++) {
                    reducer.reduceEqual(codes, sames.get(i), codes, sames.get(j), 1);
                }
                for (int j = 0; j < uppers.size(); j++) {
                    reducer.reduceBelow(codes, sames.get(i), codes, uppers.get(j));
                }
                for (int j = 0; j < lowers.size(); j++) {
                    reducer.reduceBelow(codes, lowers.get(j), codes, sames.get(i));
                }
            }
        }

        private void pairLowers() {
            Row codes = bounds.codes();
            for (int i = 0; i < lowers.size(); i++) {
                for (int j = 0; j < uppers.size(); j++) {
                    reducer.reduceBelow(codes, lowers.get(i), codes, uppers.get(j));
                }
            }
        }

        private void pairUppers() {
            Row codes = bounds.codes();
            for (int i = 0; i < uppers.size(); i++) {
                for (int j = i; j < uppers.size(); j++) {
                    matchAncestors(codes, uppers.get(i), uppers.get(j));
                }
            }
        }

        /** One that is BELOW two TYPES has their ANCESTORS of one KIND as one. */
        private void matchAncestors(Row codes, int s, int t) {
            int shared = kinds.ancestors(codes, s) & kinds.ancestors(codes, t);
            for (int kind = 0; kind < kinds.count(); kind++) {
                if ((shared >> kind & 1) == 0 || kinds.partsOf(kind) == 0) {
                    continue;
                }
                int sHolder = kinds.holder(codes, s, kind);
                int tHolder = kinds.holder(codes, t, kind);
                if (kinds.ancestorLength(codes, sHolder, kind) > LONGEST
                        || kinds.ancestorLength(codes, tHolder, kind) > LONGEST) {
                    reducer.noteLong();
                    continue;
                }
                first.cut(0);
                second.cut(0);
                kinds.putAncestor(codes, sHolder, kind, first);
                kinds.putAncestor(codes, tHolder, kind, second);
                reducer.reduceEqual(first, 1, second, 1, kinds.partsOf(kind));
            }
        }

        /** Puts what the VARIABLE is into the BOUNDS in which it stands within an ARGUMENT. */
        private void fillIn(int variable, int before) {
            Row codes = bounds.codes();
            for (int i = 0; i < sames.size(); i++) {
                int start = sames.get(i);
                int end = kinds.over(codes, start);
                if (codes.variablesIn(start, end) != 0) {
                    continue;
                }
                for (int b = 0; b < before; b++) {
                    if (!isWithin(variable, b)) {
                        continue;
                    }
                    int right = putFilled(b, variable, start, end);
                    if (bounds.sign(b) == EQUAL) {
                        reducer.reduceEqual(filled, 0, filled, right, 1);
                    } else {
                        reducer.reduceBelow(filled, 0, filled, right);
                    }
                }
            }
        }

        /** Whether it stands within an ARGUMENT: on a side where it is not alone. */
        private boolean isWithin(int variable, int b) {
            int left = bounds.left(b);
            int right = bounds.right(b);
            int over = bounds.over(b);
            return right - left > 1 && bounds.codes().has(variable, left, right)
                    || over - right > 1 && bounds.codes().has(variable, right, over);
        }

        /** Where the right side begins of the BOUND with what lies from start to end for the VARIABLE. */
        private int putFilled(int b, int variable, int start, int end) {
            Row codes = bounds.codes();
            int filledRight = 0;
            filled.cut(0);
            for (int i = bounds.left(b); i < bounds.over(b); i++) {
                if (i == bounds.right(b)) {
                    filledRight = filled.size();
                }
                if (codes.get(i) == variable) {
                    filled.append(codes, start, end);
                } else {
                    filled.put(codes.get(i));
                }
            }
            return filledRight;
        }
    }

    /** THE JOIN and THE MEETING of PROPER TYPES. */
    private static final class Lattice {
        private final Kinds kinds;
        private final Row members = new Row(32);
        private final int[] kept = new int[MOST_KINDS];

        Lattice(Kinds kinds) {
            this.kinds = kinds;
        }

        /** Whether there is one. */
        boolean putJoin(Row from, Row starts, Row out) {
            if (areAllSame(from, starts)) {
                out.append(from, starts.get(0), kinds.over(from, starts.get(0)));
                return true;
            }
            int least = leastKinds(from, starts);
            if (Integer.bitCount(least) > 1) {
                out.put(MEET + Integer.bitCount(least));
            }
            for (int kind = 0; kind < MOST_KINDS; kind++) {
                if ((least >> kind & 1) != 0 && !putShared(from, starts, kind, out)) {
                    return false;
                }
            }
            return true;
        }

        private boolean areAllSame(Row from, Row starts) {
            int first = starts.get(0);
            int firstOver = kinds.over(from, first);
            for (int i = 1; i < starts.size(); i++) {
                int start = starts.get(i);
                if (!from.isSame(first, firstOver, from, start, kinds.over(from, start))) {
                    return false;
                }
            }
            return true;
        }

        private int leastKinds(Row from, Row starts) {
            int shared = -1;
            for (int i = 0; i < starts.size(); i++) {
                shared &= kinds.ancestors(from, starts.get(i));
            }
            int least = shared;
            for (int kind = 0; kind < MOST_KINDS; kind++) {
                if ((shared >> kind & 1) != 0) {
                    least &= ~kinds.maskAbove(kind);
                }
            }
            return least;
        }

        /** The ANCESTOR of this KIND that all have: whether it is one, and not too long. */
        private boolean putShared(Row from, Row starts, int kind, Row out) {
            int holder = kinds.holder(from, starts.get(0), kind);
            if (kinds.ancestorLength(from, holder, kind) > LONGEST) {
                return false;
            }
            int place = out.size();
            kinds.putAncestor(from, holder, kind, out);
            spread(from, starts);
            for (int i = 0; i < members.size(); i++) {
                int member = members.get(i);
                if (kinds.hasAncestor(from.get(member), kind)
                        && !kinds.isAncestor(from, member, out, place)) {
                    return false;
                }
            }
            return true;
        }

        /** Lays the TYPES of MEETS out one by one. */
        private void spread(Row from, Row starts) {
            members.cut(0);
            for (int i = 0; i < starts.size(); i++) {
                int code = from.get(starts.get(i));
                int count = isMeet(code) ? kinds.partsOf(code) : 1;
                int member = isMeet(code) ? starts.get(i) + 1 : starts.get(i);
                for (int n = 0; n < count; n++) {
                    members.put(member);
                    member = kinds.over(from, member);
                }
            }
        }

        /** Whether there is one. */
        boolean putMeeting(Row from, Row starts, Row out) {
            spread(from, starts);
            Arrays.fill(kept, -1);
            int count = 0;
            for (int i = 0; i < members.size(); i++) {
                int kind = from.get(members.get(i));
                if (kind < 0 || kind >= MOST_KINDS || isOutdone(from, i)) {
                    continue;
                }
                if (kept[kind] >= 0) {
                    return false;
                }
                kept[kind] = members.get(i);
                count++;
            }
            putKept(from, count, out);
            return true;
        }

        private void putKept(Row from, int count, Row out) {
            if (count == 0) {
                out.put(OBJECT);
            }
            if (count > 1) {
                out.put(MEET + count);
            }
            for (int kind = 0; kind < MOST_KINDS; kind++) {
                if (kept[kind] >= 0) {
                    out.append(from, kept[kind], kinds.over(from, kept[kind]));
                }
            }
        }

        /** Whether another one is BELOW it; of the same ones the first stays. */
        private boolean isOutdone(Row from, int i) {
            int member = members.get(i);
            for (int j = 0; j < members.size(); j++) {
                int other = members.get(j);
                boolean mayOutdo = j < i || from.get(other) != from.get(member);
                if (mayOutdo && kinds.isAncestor(from, other, from, member)) {
                    return true;
                }
            }
            return false;
        }
    }

    /** Finds which VARIABLES are next, and what they are. */
    private static final class Solver {
        private final Bounds bounds;
        private final Lattice lattice;
        private final int[] leans = new int[MOST_VARIABLES];
        private final Row lowers = new Row(32);
        private final Row uppers = new Row(32);
        private final Row chosen = new Row(64);
        private final Row chosenStarts = new Row(MOST_VARIABLES);

        Solver(Bounds bounds, Lattice lattice) {
            this.bounds = bounds;
            this.lattice = lattice;
        }

        /** The SOLVED VARIABLES, as bits. */
        int solved() {
            int found = 0;
            for (int b = 0; b < bounds.count(); b++) {
                if (bounds.isSolution(b)) {
                    found |= 1 << (bounds.leftCode(b) - VARIABLE);
                }
            }
            return found;
        }

        int nextSet(int variables) {
            int unsolved = (1 << variables) - 1 & ~solved();
            findLeans();
            int least = 0;
            for (int variable = 0; variable < variables && variable < MOST_VARIABLES; variable++) {
                int set = leans[variable] & unsolved;
                boolean isCandidate = (unsolved >> variable & 1) != 0;
                if (isCandidate && (least == 0 || Integer.bitCount(set) < Integer.bitCount(least))) {
                    least = set;
                }
            }
            return least;
        }

        private void findLeans() {
            for (int variable = 0; variable < MOST_VARIABLES; variable++) {
                leans[variable] = 1 << variable;
            }
            for (int b = 0; b < bounds.count(); b++) {
                lean(bounds.leftCode(b), bounds.right(b), bounds.over(b));
                lean(bounds.rightCode(b), bounds.left(b), bounds.right(b));
            }
            for (int between = 0; between < MOST_VARIABLES; between++) {
                for (int variable = 0; variable < MOST_VARIABLES; variable++) {
                    if ((leans[variable] >> between & 1) != 0) {
                        leans[variable] |= leans[between];
                    }
                }
            }
        }

        private void lean(int code, int start, int end) {
            if (isVariable(code)) {
                leans[code - VARIABLE] |= bounds.codes().variablesIn(start, end);
            }
        }

        /** Whether each VARIABLE of the SET gets a TYPE. */
        boolean choose(int set, int throwing) {
            chosen.cut(0);
            chosenStarts.cut(0);
            for (int variable = 0; variable < MOST_VARIABLES; variable++) {
                if ((set >> variable & 1) == 0) {
                    continue;
                }
                chosenStarts.put(chosen.size());
                chosen.put(VARIABLE + variable);
                gather(VARIABLE + variable);
                if (!putChoice((throwing >> variable & 1) != 0)) {
                    return false;
                }
            }
            return true;
        }

        private boolean putChoice(boolean hasThrows) {
            if (lowers.size() > 0) {
                return lattice.putJoin(bounds.codes(), lowers, chosen);
            }
            if (hasThrows && areThrown()) {
                chosen.put(RUN);
                return true;
            }
            return lattice.putMeeting(bounds.codes(), uppers, chosen);
        }

        /** The PROPER ones that the VARIABLE is above and below. */
        private void gather(int variable) {
            lowers.cut(0);
            uppers.cut(0);
            for (int b = 0; b < bounds.count(); b++) {
                if (bounds.sign(b) != BELOW) {
                    continue;
                }
                if (bounds.rightCode(b) == variable && bounds.isProperLeft(b)) {
                    lowers.put(bounds.left(b));
                }
                if (bounds.leftCode(b) == variable && bounds.isProperRight(b)) {
                    uppers.put(bounds.right(b));
                }
            }
        }

        private boolean areThrown() {
            for (int i = 0; i < uppers.size(); i++) {
                int code = bounds.codes().get(uppers.get(i));
                if (code != THROW && code != EXCEPT) {
                    return false;
                }
            }
            return true;
        }

        void tellChosen(Reducer reducer) {
            for (int i = 0; i < chosenStarts.size(); i++) {
                int start = chosenStarts.get(i);
                reducer.reduceEqual(chosen, start, chosen, start + 1, 1);
            }
        }
    }
}
