/** An object under test that is told whole texts. It counts the calls: what comes behind the 512th is free. */
final class Talk {
    private static final int MOST_CALLS = 512;

    /** The test asked more of one object than is promised. */
    static final class Over extends RuntimeException {
        private static final long serialVersionUID = 1L;

        Over() {
            super("more than 512 calls of one object");
        }
    }

    private final InferResolve x = new InferResolve();
    private int calls = 0;

    private InferResolve called() {
        calls++;
        if (calls > MOST_CALLS) {
            throw new Over();
        }
        return x;
    }

    int calls() {
        return calls;
    }

    int feed(long w, int n) {
        return called().feed(w, n);
    }

    int kinds() {
        return called().kinds();
    }

    int fault() {
        return called().fault();
    }

    int variable(boolean hasThrows) {
        return called().variable(hasThrows);
    }

    int fresh() {
        return called().fresh();
    }

    int bound() {
        return called().bound();
    }

    int close() {
        return called().close();
    }

    int told(int what) {
        return called().told(what);
    }

    int written(int k) {
        return called().written(k);
    }

    int letter(int i) {
        return called().letter(i);
    }

    int next() {
        return called().next();
    }

    int step() {
        return called().step();
    }

    int solution(int variable) {
        return called().solution(variable);
    }

    int join() {
        return called().join();
    }

    int below() {
        return called().below();
    }

    /** Puts the text behind the tape, as many bytes at a time as can be. */
    Talk tape(String text) {
        for (int i = 0; i < text.length(); i += 8) {
            int n = Math.min(8, text.length() - i);
            long w = 0;
            for (int j = 0; j < n; j++) {
                w = w << 8 | text.charAt(i + j);
            }
            feed(w, n);
        }
        return this;
    }

    int kinds(String text) {
        return tape(text).kinds();
    }

    int bound(String text) {
        return tape(text).bound();
    }

    int join(String text) {
        return tape(text).join();
    }

    int below(String text) {
        return tape(text).below();
    }

    Talk variables(int count) {
        for (int i = 0; i < count; i++) {
            variable(false);
        }
        return this;
    }

    Talk bounds(String... texts) {
        for (String text : texts) {
            bound(text);
        }
        return this;
    }

    boolean hasLetter(int i) {
        try {
            letter(i);
            return true;
        } catch (IndexOutOfBoundsException e) {
            if (e.getClass() != IndexOutOfBoundsException.class) {
                throw new IllegalStateException("letter throws " + e.getClass());
            }
            return false;
        }
    }

    /** So many bytes of what was WRITTEN latest. */
    String latest(int length) {
        StringBuilder b = new StringBuilder();
        for (int i = 0; i < length; i++) {
            b.append((char) letter(i));
        }
        return b.toString();
    }

    /** All that was WRITTEN latest. */
    String latest() {
        int length = 0;
        while (hasLetter(length)) {
            length++;
        }
        return latest(length);
    }

    String boundAt(int k) {
        return latest(written(k));
    }

    /** All BOUNDS, in their order. */
    String all() {
        StringBuilder b = new StringBuilder();
        int count = told(2);
        for (int k = 0; k < count; k++) {
            b.append(k == 0 ? "" : " ").append(boundAt(k));
        }
        return b.toString();
    }

    String solutionOf(int variable) {
        return latest(solution(variable));
    }

    String joinOf(String text) {
        return latest(join(text));
    }
}
