import java.util.ArrayList;
import java.util.Collections;
import java.util.LinkedHashSet;
import java.util.List;
import java.util.Map;
import java.util.Random;
import java.util.Set;
import java.util.TreeMap;
import java.util.TreeSet;

/** Plays random runs of calls, with fixed seeds, on the class and on a simple model of the document. */
public final class ModelTests {
    private static final int RUNS = 8000;
    private static final int CALLS = 160;

    private static final Map<String, Integer> seen = new TreeMap<>();
    private static int wrong = 0;

    public static void main(String[] args) {
        int runs = args.length > 0 ? Integer.parseInt(args[0]) : RUNS;
        long first = args.length > 1 ? Long.parseLong(args[1]) : 1;
        for (int run = 0; run < runs && wrong < 5; run++) {
            new Run(first + run).play();
        }
        if (args.length > 2) {
            seen.forEach((what, n) -> System.out.println(what + ": " + n));
        }
        if (wrong == 0) {
            // a run that never meets a case tests nothing of it
            for (String what : MUST_BE_SEEN) {
                if (!seen.containsKey(what) && runs >= RUNS) {
                    wrong++;
                    System.out.println("never seen: " + what);
                }
            }
        }
        System.out.println(wrong == 0 ? "all answers are as the model's" : wrong + " wrong");
        if (wrong != 0) {
            System.exit(1);
        }
    }

    private static final String[] MUST_BE_SEEN = {
        "kinds fault 1", "kinds fault 2", "kinds fault 3", "kinds fault 4", "kinds fault 5", "kinds fault 6",
        "bound fault 1", "bound fault 2", "bound fault 4", "bound fault 5",
        "join fault 1", "join fault 2", "join fault 4", "join fault 5",
        "below fault 1", "below fault 2", "below fault 4", "below fault 5",
        "close 0", "close 1", "close 2", "close -4", "bound false", "bound long", "step fails, no type",
        "step fails, closing", "step 0", "step -4", "solution with &", "join with &", "join none",
        "bound with & within", "bound with & below", "bound with & above", "join of &", "meeting of &",
        "set of 2", "set of 3", "below 0", "below 1", "throws gives Run",
    };

    private static void note(String what) {
        seen.merge(what, 1, Integer::sum);
    }

    // ---------------------------------------------------------------- the model

    /** form: 'k' a KIND's, 'p' a PARAMETER, 'v' a VARIABLE, '&' a MEET. */
    private record Type(char form, int number, List<Type> args) {
        int length() {
            int sum = form == '&' ? 0 : 1;
            for (Type t : args) {
                sum += t.length();
            }
            return sum;
        }

        boolean isVariable() {
            return form == 'v';
        }

        boolean has(int variable) {
            return form == 'v' && number == variable || hasWithin(variable);
        }

        boolean hasWithin(int variable) {
            for (Type t : args) {
                if (t.has(variable)) {
                    return true;
                }
            }
            return false;
        }

        boolean isProper() {
            for (int v = 0; v < 6; v++) {
                if (has(v)) {
                    return false;
                }
            }
            return true;
        }

        Type with(int variable, Type u) {
            if (form == 'v' && number == variable) {
                return u;
            }
            List<Type> others = new ArrayList<>();
            for (Type t : args) {
                others.add(t.with(variable, u));
            }
            return new Type(form, number, others);
        }
    }

    private record Kind(String name, List<String> parameters, List<Type> parents) { }

    private record Bound(boolean isEqual, Type s, Type t) { }

    private static final class Fault extends RuntimeException {
        private static final long serialVersionUID = 1L;
        final int number;
        final int place;

        Fault(int number, int place) {
            super(null, null, false, false);
            this.number = number;
            this.place = place;
        }
    }

    private record Token(String text, int at) {
        boolean isName() {
            return text.matches("[A-Z][A-Za-z0-9]*");
        }
    }

    private static final class Model {
        List<Kind> kinds = new ArrayList<>();
        List<Boolean> variables = new ArrayList<>();
        Set<Bound> bounds = new LinkedHashSet<>();
        int state = 0;
        int rounds = 0;
        int fault = 0;
        String written = "";
        StringBuilder tape = new StringBuilder();
        boolean cameFalse;
        boolean cameLong;
        Set<Bound> came = new LinkedHashSet<>();

        Model() {
            kinds = firstKinds();
        }

        static Type plain(int kind) {
            return new Type('k', kind, List.of());
        }

        static List<Kind> firstKinds() {
            List<Kind> first = new ArrayList<>();
            first.add(new Kind("Object", List.of(), List.of()));
            first.add(new Kind("Throw", List.of(), List.of(plain(0))));
            first.add(new Kind("Except", List.of(), List.of(plain(1))));
            first.add(new Kind("Run", List.of(), List.of(plain(2))));
            return first;
        }

        // ---- reading

        final class Text {
            final String bytes = tape.toString();
            final List<Kind> known;
            final int told;
            int at = 0;
            Kind own = null;

            Text(List<Kind> known, int told) {
                this.known = known;
                this.told = told;
            }

            /** The next token, not taken; "" at the end, null if none begins or it is too long. */
            Token peek() {
                int i = at;
                while (i < bytes.length() && bytes.charAt(i) == ' ') {
                    i++;
                }
                if (i == bytes.length()) {
                    return new Token("", i);
                }
                char c = bytes.charAt(i);
                if (c >= 'A' && c <= 'Z') {
                    int j = i;
                    while (j < bytes.length() && String.valueOf(bytes.charAt(j)).matches("[A-Za-z0-9]")) {
                        j++;
                    }
                    return new Token(j - i > 8 ? "bad" : bytes.substring(i, j), i);
                }
                if (c == '$' && i + 1 < bytes.length() && "012345".indexOf(bytes.charAt(i + 1)) >= 0) {
                    return new Token(bytes.substring(i, i + 2), i);
                }
                return new Token("<>,;:=".indexOf(c) >= 0 ? String.valueOf(c) : "bad", i);
            }

            Token take() {
                Token token = peek();
                at = token.at + token.text.length();
                return token;
            }

            Fault unfit(Token token) {
                return new Fault(token.text.equals("bad") ? 1 : 2, token.at);
            }

            void want(String sign) {
                Token token = peek();
                if (!token.text.equals(sign)) {
                    throw unfit(token);
                }
                take();
            }

            boolean next(String sign) {
                return peek().text.equals(sign);
            }

            int kindNamed(String name, boolean within) {
                for (int k = 0; k < known.size(); k++) {
                    if (known.get(k).name.equals(name)) {
                        return k;
                    }
                }
                return own != null && within && own.name.equals(name) ? known.size() : -1;
            }

            Type type(int depth, boolean tooMany) {
                Token token = peek();
                boolean five = tooMany || depth > 4;
                if (token.text.startsWith("$")) {
                    int v = token.text.charAt(1) - '0';
                    if (v >= told) {
                        throw new Fault(2, token.at);
                    }
                    if (five) {
                        throw new Fault(5, token.at);
                    }
                    take();
                    return new Type('v', v, List.of());
                }
                if (!token.isName()) {
                    throw unfit(token);
                }
                if (own != null && own.parameters.contains(token.text)) {
                    if (depth == 0) {
                        throw new Fault(2, token.at);
                    }
                    if (five) {
                        throw new Fault(5, token.at);
                    }
                    take();
                    return new Type('p', own.parameters.indexOf(token.text), List.of());
                }
                int kind = kindNamed(token.text, depth > 0);
                if (kind < 0) {
                    throw new Fault(4, token.at);
                }
                if (five) {
                    throw new Fault(5, token.at);
                }
                take();
                List<Type> args = new ArrayList<>();
                if (next("<")) {
                    do {
                        take();
                        args.add(type(depth + 1, false));
                    } while (next(","));
                    want(">");
                }
                int due = kind == known.size() ? own.parameters.size() : known.get(kind).parameters.size();
                if (args.size() != due) {
                    throw new Fault(4, token.at);
                }
                return new Type('k', kind, args);
            }

            void kind() {
                Token name = peek();
                if (!name.isName()) {
                    throw unfit(name);
                }
                if (kindNamed(name.text, false) >= 0) {
                    throw new Fault(3, name.at);
                }
                if (known.size() == 20) {
                    throw new Fault(5, name.at);
                }
                take();
                List<String> parameters = new ArrayList<>();
                List<Type> parents = new ArrayList<>();
                if (next("<")) {
                    do {
                        take();
                        Token parameter = peek();
                        if (!parameter.isName()) {
                            throw unfit(parameter);
                        }
                        if (parameters.contains(parameter.text)) {
                            throw new Fault(3, parameter.at);
                        }
                        if (parameters.size() == 3) {
                            throw new Fault(5, parameter.at);
                        }
                        take();
                        parameters.add(parameter.text);
                    } while (next(","));
                    want(">");
                }
                own = new Kind(name.text, parameters, parents);
                if (next(":")) {
                    do {
                        take();
                        parents.add(type(0, parents.size() == 4));
                    } while (next(","));
                } else {
                    parents.add(plain(0));
                }
                want(";");
                List<Type> all = new ArrayList<>();
                for (Type parent : parents) {
                    addAncestors(known, parent, all);
                }
                for (Type t : all) {
                    if (t.length() > 16) {
                        throw new Fault(5, name.at);
                    }
                }
                for (Type t : all) {
                    for (Type u : all) {
                        if (t.number == u.number && !t.equals(u)) {
                            throw new Fault(6, name.at);
                        }
                    }
                }
                known.add(own);
                own = null;
            }

            Bound pair(boolean mayBeEqual) {
                Type s = type(0, false);
                boolean isEqual = mayBeEqual && next("=");
                want(isEqual ? "=" : ":");
                Type t = type(0, false);
                want("");
                return new Bound(isEqual, s, t);
            }

            List<Type> types() {
                List<Type> all = new ArrayList<>();
                all.add(type(0, false));
                while (next(",")) {
                    take();
                    all.add(type(0, all.size() == 6));
                }
                want("");
                return all;
            }
        }

        int fail(Fault f) {
            fault = f.number;
            return -10 - f.place;
        }

        // ---- TYPES

        static void addAncestors(List<Kind> known, Type t, List<Type> all) {
            if (t.form == '&') {
                for (Type u : t.args) {
                    addAncestors(known, u, all);
                }
                return;
            }
            all.add(t);
            for (Type parent : known.get(t.number).parents) {
                addAncestors(known, fill(parent, t.args), all);
            }
        }

        /** All at once: the ARGUMENTS may hold PARAMETERS, of another KIND. */
        static Type fill(Type t, List<Type> args) {
            if (t.form == 'p') {
                return args.get(t.number);
            }
            List<Type> others = new ArrayList<>();
            for (Type u : t.args) {
                others.add(fill(u, args));
            }
            return new Type(t.form, t.number, others);
        }

        List<Type> ancestors(Type t) {
            List<Type> all = new ArrayList<>();
            addAncestors(kinds, t, all);
            return all;
        }

        Type ancestor(Type t, int kind) {
            for (Type u : ancestors(t)) {
                if (u.number == kind) {
                    return u;
                }
            }
            return null;
        }

        String write(Type t) {
            if (t.form == 'v') {
                return "$" + t.number;
            }
            List<String> parts = new ArrayList<>();
            for (Type u : t.args) {
                parts.add(write(u));
            }
            if (t.form == '&') {
                return String.join("&", parts);
            }
            return kinds.get(t.number).name + (parts.isEmpty() ? "" : "<" + String.join(",", parts) + ">");
        }

        String write(Bound b) {
            return write(b.s) + (b.isEqual ? "=" : ":") + write(b.t);
        }

        List<Bound> inOrder() {
            List<Bound> all = new ArrayList<>(bounds);
            all.sort((b, c) -> {
                if (b.isEqual != c.isEqual) {
                    return b.isEqual ? -1 : 1;
                }
                int byS = write(b.s).compareTo(write(c.s));
                return byS != 0 ? byS : write(b.t).compareTo(write(c.t));
            });
            return all;
        }

        Type together(Set<Type> types) {
            List<Type> all = new ArrayList<>(types);
            all.sort((t, u) -> t.number - u.number);
            return all.size() == 1 ? all.get(0) : new Type('&', 0, all);
        }

        Type join(List<Type> types) {
            if (new LinkedHashSet<>(types).size() == 1) {
                return types.get(0);
            }
            if (types.stream().anyMatch(t -> t.form == '&')) {
                note("join of &");
            }
            Set<Integer> shared = new TreeSet<>();
            for (int k = 0; k < kinds.size(); k++) {
                boolean all = true;
                for (Type t : types) {
                    all &= ancestor(t, k) != null;
                }
                if (all) {
                    shared.add(k);
                }
            }
            Set<Type> found = new LinkedHashSet<>();
            for (int k : shared) {
                boolean isLeast = true;
                for (int other : shared) {
                    isLeast &= other == k || !kindsAbove(other).contains(k);
                }
                if (!isLeast) {
                    continue;
                }
                Set<Type> same = new LinkedHashSet<>();
                for (Type t : types) {
                    for (Type u : ancestors(t)) {
                        if (u.number == k) {
                            same.add(u);
                        }
                    }
                }
                if (same.size() != 1 || same.iterator().next().length() > 24) {
                    return null;
                }
                found.addAll(same);
            }
            return together(found);
        }

        Set<Integer> kindsAbove(int kind) {
            Set<Integer> all = new TreeSet<>();
            all.add(kind);
            for (Type parent : kinds.get(kind).parents) {
                all.addAll(kindsAbove(parent.number));
            }
            return all;
        }

        Type meeting(List<Type> types) {
            if (types.size() > 1 && types.stream().anyMatch(t -> t.form == '&')) {
                note("meeting of &");
            }
            Set<Type> all = new LinkedHashSet<>();
            for (Type t : types) {
                all.addAll(t.form == '&' ? t.args : List.of(t));
            }
            Set<Type> left = new LinkedHashSet<>(all);
            for (Type t : all) {
                for (Type u : all) {
                    if (!t.equals(u) && ancestors(t).contains(u)) {
                        left.remove(u);
                    }
                }
            }
            Set<Integer> used = new TreeSet<>();
            for (Type t : left) {
                if (!used.add(t.number)) {
                    return null;
                }
            }
            return left.isEmpty() ? plain(0) : together(left);
        }

        // ---- BOUNDS

        void comes(boolean isEqual, Type s, Type t) {
            if (s.isVariable() && (s.equals(t) || !isEqual && t.equals(plain(0)))) {
                return;
            }
            boolean turn = isEqual && t.isVariable() && (!s.isVariable() || t.number < s.number);
            came.add(turn ? new Bound(true, t, s) : new Bound(isEqual, s, t));
        }

        void equal(Type s, Type t) {
            if (s.length() + t.length() > 24) {
                cameLong = true;
            } else if (s.equals(t)) {
                return;
            } else if (s.isVariable() || t.isVariable()) {
                comes(true, s, t);
            } else if (s.form == '&' || t.form == '&' || s.number != t.number) {
                cameFalse = true;
            } else {
                equalArgs(s, t);
            }
        }

        void equalArgs(Type s, Type t) {
            for (int i = 0; i < s.args.size(); i++) {
                equal(s.args.get(i), t.args.get(i));
            }
        }

        void below(Type s, Type t) {
            if (s.length() + t.length() > 24) {
                cameLong = true;
            } else if (s.isVariable() || t.isVariable()) {
                comes(false, s, t);
            } else if (t.form == '&') {
                for (Type u : t.args) {
                    below(s, u);
                }
            } else {
                Type u = ancestor(s, t.number);
                if (u == null) {
                    cameFalse = true;
                } else if (u.length() > 24) {
                    cameLong = true;
                } else {
                    equalArgs(u, t);
                }
            }
        }

        void reduce(Bound b) {
            if (b.isEqual) {
                equal(b.s, b.t);
            } else {
                below(b.s, b.t);
            }
        }

        void pair(int i, Bound b, Bound c) {
            Type v = new Type('v', i, List.of());
            Type bEqual = !b.isEqual ? null : b.s.equals(v) ? b.t : b.t.equals(v) ? b.s : null;
            Type cEqual = !c.isEqual ? null : c.s.equals(v) ? c.t : c.t.equals(v) ? c.s : null;
            Type bUpper = !b.isEqual && b.s.equals(v) ? b.t : null;
            Type cUpper = !c.isEqual && c.s.equals(v) ? c.t : null;
            Type cLower = !c.isEqual && c.t.equals(v) ? c.s : null;
            if (bEqual != null && cEqual != null) {
                equal(bEqual, cEqual);
            }
            if (bEqual != null && cUpper != null) {
                below(bEqual, cUpper);
            }
            if (bEqual != null && cLower != null) {
                below(cLower, bEqual);
            }
            if (cLower != null && bUpper != null) {
                below(cLower, bUpper);
            }
            if (bEqual != null && bEqual.isProper() && (c.s.hasWithin(i) || c.t.hasWithin(i))) {
                reduce(new Bound(c.isEqual, c.s.with(i, bEqual), c.t.with(i, bEqual)));
            }
            if (bUpper != null && cUpper != null && !bUpper.isVariable() && !cUpper.isVariable()) {
                for (int k = 0; k < kinds.size(); k++) {
                    Type s = ancestor(bUpper, k);
                    Type t = ancestor(cUpper, k);
                    if (kinds.get(k).parameters.isEmpty() || s == null || t == null) {
                        continue;
                    }
                    if (s.length() > 24 || t.length() > 24) {
                        cameLong = true;
                    } else {
                        equalArgs(s, t);
                    }
                }
            }
        }

        void startCame(boolean wasLong) {
            came.clear();
            cameFalse = false;
            cameLong = wasLong;
        }

        int closing(boolean wasLong) {
            rounds = 0;
            while (true) {
                startCame(wasLong);
                for (int i = 0; i < variables.size(); i++) {
                    for (Bound b : bounds) {
                        for (Bound c : bounds) {
                            pair(i, b, c);
                        }
                    }
                }
                boolean isNew = bounds.addAll(came);
                rounds++;
                if (cameFalse) {
                    return 1;
                }
                if (cameLong || bounds.size() > 48) {
                    return 2;
                }
                if (!isNew) {
                    return 0;
                }
            }
        }

        // ---- SOLVING

        boolean isSolved(int i) {
            for (Bound b : bounds) {
                if (b.isEqual && b.s.isVariable() && b.s.number == i && b.t.isProper()) {
                    return true;
                }
            }
            return false;
        }

        void leans(int i, Set<Integer> found) {
            if (!found.add(i)) {
                return;
            }
            for (Bound b : bounds) {
                for (int j = 0; j < 6; j++) {
                    if (b.s.isVariable() && b.s.number == i && b.t.has(j)) {
                        leans(j, found);
                    }
                    if (b.t.isVariable() && b.t.number == i && b.s.has(j)) {
                        leans(j, found);
                    }
                }
            }
        }

        Set<Integer> nextSet() {
            Set<Integer> best = new TreeSet<>();
            for (int i = 0; i < variables.size(); i++) {
                if (isSolved(i)) {
                    continue;
                }
                Set<Integer> set = new TreeSet<>();
                leans(i, set);
                set.removeIf(this::isSolved);
                if (best.isEmpty() || set.size() < best.size()
                        || set.size() == best.size() && Collections.min(set) < Collections.min(best)) {
                    best = set;
                }
            }
            return best;
        }

        int bits(Set<Integer> set) {
            int sum = 0;
            for (int i : set) {
                sum |= 1 << i;
            }
            return sum;
        }

        Type choice(int i) {
            List<Type> lower = new ArrayList<>();
            List<Type> upper = new ArrayList<>();
            for (Bound b : bounds) {
                if (!b.isEqual && b.t.isVariable() && b.t.number == i && b.s.isProper()) {
                    lower.add(b.s);
                }
                if (!b.isEqual && b.s.isVariable() && b.s.number == i && b.t.isProper()) {
                    upper.add(b.t);
                }
            }
            if (!lower.isEmpty()) {
                return join(lower);
            }
            if (variables.get(i) && Set.of(plain(1), plain(2)).containsAll(upper)) {
                note("throws gives Run");
                return plain(3);
            }
            return meeting(upper);
        }

        // ---- the calls

        int feed(long w, int n) {
            if (n < 1 || n > 8) {
                return -2;
            }
            if (tape.length() + n > 600) {
                return -3;
            }
            for (int i = n - 1; i >= 0; i--) {
                tape.append((char) (w >> 8 * i & 255));
            }
            return tape.length();
        }

        int kinds() {
            fault = 0;
            Text text = new Text(firstKinds(), 0);
            tape.setLength(0);
            try {
                while (!text.next("")) {
                    text.kind();
                }
            } catch (Fault f) {
                return fail(f);
            }
            kinds = text.known;
            fresh();
            return kinds.size();
        }

        int variable(boolean hasThrows) {
            if (variables.size() == 6) {
                return -3;
            }
            variables.add(hasThrows);
            return variables.size() - 1;
        }

        int fresh() {
            int count = bounds.size();
            variables.clear();
            bounds.clear();
            state = 0;
            rounds = 0;
            return count;
        }

        int bound() {
            if (state != 0 || bounds.size() >= 24) {
                return -4;
            }
            fault = 0;
            Text text = new Text(kinds, variables.size());
            tape.setLength(0);
            Bound b;
            try {
                b = text.pair(true);
            } catch (Fault f) {
                return fail(f);
            }
            startCame(false);
            reduce(b);
            bounds.addAll(came);
            state = cameFalse ? 1 : cameLong ? 2 : 0;
            if (state != 0) {
                note(state == 1 ? "bound false" : "bound long");
            }
            return bounds.size();
        }

        int close() {
            if (state != 0) {
                return -4;
            }
            state = closing(false);
            return state;
        }

        int told(int what) {
            int solved = 0;
            for (int i = 0; i < variables.size(); i++) {
                solved += isSolved(i) ? 1 : 0;
            }
            int[] all = {kinds.size(), variables.size(), bounds.size(), state, rounds, tape.length(), solved};
            return what < 0 || what > 6 ? -2 : all[what];
        }

        int written(int k) {
            if (k < 0 || k >= bounds.size()) {
                return -1;
            }
            Bound bound = inOrder().get(k);
            written = write(bound);
            if (!bound.isEqual && bound.s.form == '&' && bound.t.isVariable()) {
                note("bound with & below");
            }
            if (!bound.isEqual && bound.t.form == '&') {
                note("bound with & above");
            }
            if (written.matches(".*<.*&.*>.*")) {
                note("bound with & within");
            }
            return written.length();
        }

        int next() {
            return state != 0 ? -4 : bits(nextSet());
        }

        int step() {
            if (state != 0) {
                return -4;
            }
            Set<Integer> set = nextSet();
            if (set.isEmpty()) {
                return 0;
            }
            note("set of " + set.size());
            List<Bound> chosen = new ArrayList<>();
            for (int i : set) {
                Type t = choice(i);
                if (t == null) {
                    state = 3;
                    note("step fails, no type");
                    return -10 - Collections.min(set);
                }
                chosen.add(new Bound(true, new Type('v', i, List.of()), t));
            }
            startCame(false);
            for (Bound b : chosen) {
                reduce(b);
            }
            bounds.addAll(came);
            if (cameLong) {
                note("step began long");
            }
            if (closing(cameLong) != 0) {
                state = 3;
                note("step fails, closing");
                return -10 - Collections.min(set);
            }
            return bits(set);
        }

        int solution(int i) {
            if (i < 0 || i >= variables.size()) {
                return -1;
            }
            for (Bound b : inOrder()) {
                if (b.isEqual && b.s.isVariable() && b.s.number == i && b.t.isProper()) {
                    written = write(b.t);
                    if (written.contains("&")) {
                        note("solution with &");
                    }
                    return written.length();
                }
            }
            return 0;
        }

        int join() {
            fault = 0;
            Text text = new Text(kinds, 0);
            tape.setLength(0);
            Type t;
            try {
                t = join(text.types());
            } catch (Fault f) {
                return fail(f);
            }
            if (t == null) {
                note("join none");
                return 0;
            }
            written = write(t);
            if (t.form == '&') {
                note("join with &");
            }
            return written.length();
        }

        int below() {
            fault = 0;
            Text text = new Text(kinds, 0);
            tape.setLength(0);
            try {
                Bound b = text.pair(false);
                return ancestors(b.s).contains(b.t) ? 1 : 0;
            } catch (Fault f) {
                return fail(f);
            }
        }
    }

    // ---------------------------------------------------------------- one run

    /** KINDS whose TYPES and ANCESTORS are easily long, or that make MEETS and many BOUNDS. */
    private static final String[] RICH = {
        "F<A,B,C>;G<T>:F<T,F<T,T,T>,T>;H<U,V>:G<U>;Int;Str;L<E>;M<E>:L<E>,G<E>;",
        "P<A,B>;Q<T>:P<P<T,T>,P<T,P<T,T>>>;R<T>:Q<T>,L;",
        "P<A,B>;Q<T>:P<P<T,T>,P<T,P<T,T>>>;R<T>:Q<T>;S<T>:P<P<T,T>,P<T,P<T,T>>>;I;J<T>;X:I,J<X>,R<X>;Y:I,J<Y>;",
        "F<A,B,C>;T3<A,B,C>:F<A,B,C>;Q<A,B>:T3<A,B,A>;I;J;K;A:I,J;B:J,I;C:I,K;",
        "I;J;K<T>;L<T>:K<T>;A:I,J,L<I>;B:J,I,L<I>;C:I,K<I>,J;D<T>:L<T>;E:A,D<I>;",
        "N1<T>;N2<T>:N1<N1<T>>;N3<T>:N2<N2<T>>;N4<T>:N3<N2<T>>;Z;",
    };

    private static final class Run {
        final long seed;
        final Random random;
        final Talk real = new Talk();
        final Model model = new Model();
        final StringBuilder log = new StringBuilder();
        boolean isWrong = false;
        final List<Type> secret = new ArrayList<>();
        List<Kind> secretKinds = null;
        String latestParents = "";
        final boolean isRich;
        final int trueChance;
        final int pureChance;
        final int denseChance;
        final int longChance;
        final int depthChance;

        Run(long seed) {
            this.seed = seed;
            random = new Random(seed * 7919);
            trueChance = 100 - one(40) * one(3);
            isRich = one(4) == 0;
            depthChance = isRich ? 4 + one(6) : one(6);
            pureChance = one(3) == 0 ? one(80) : 0;
            denseChance = one(5) == 0 ? 60 + one(40) : 0;
            longChance = isRich && one(2) == 0 ? 10 + one(60) : 0;
        }

        void check(String call, int got, int due) {
            log.append("  ").append(call).append(" = ").append(got).append('\n');
            if (got != due && !isWrong) {
                isWrong = true;
                wrong++;
                System.out.println("seed " + seed + ": " + call + " answered " + got + ", the model " + due);
                System.out.print(log);
            }
        }

        int one(int n) {
            return random.nextInt(n);
        }

        /** Goes on till one object has had all the calls that are promised. */
        void play() {
            try {
                playOn();
            } catch (Talk.Over e) {
                note("a run to its end");
            }
        }

        void playOn() {
            kinds();
            for (int i = 0; i < CALLS && !isWrong; i++) {
                if (one(3) == 0) {
                    episode();
                } else {
                    call();
                }
                if (one(3) == 0) {
                    look();
                }
            }
        }

        /** As the calls are meant: VARIABLES and BOUNDS, then CLOSING, then STEPS to the end. */
        void episode() {
            if (one(4) == 0) {
                kinds();
            }
            check("fresh()", real.fresh(), model.fresh());
            secretKinds = null;
            manyVariables();
            if (one(2) == 0) {
                manyVariables();
            }
            int count = 1 + one(12) + one(12);
            for (int i = 0; i < count && model.state == 0; i++) {
                bound();
            }
            if (one(3) != 0) {
                close();
            }
            steps();
            if (one(2) == 0) {
                secondPart();
            }
        }

        /** More VARIABLES, told of by those that are SOLVED: so MEETS come above and below these. */
        void secondPart() {
            int old = model.variables.size();
            if (model.state != 0 || old == 0 || old == 6) {
                return;
            }
            manyVariables();
            int count = 1 + one(6);
            boolean isOneWay = one(2) == 0;
            boolean isFromBelow = one(2) == 0;
            for (int i = 0; i < count && model.state == 0; i++) {
                String s = "$" + one(old);
                String t = "$" + (one(3) == 0 || model.variables.size() == old
                        ? one(model.variables.size()) : old + one(model.variables.size() - old));
                if (one(3) == 0) {
                    s = type(isOneWay ? 0 : one(2), true, isOneWay ? 0 : 20);
                }
                boolean isUpward = isOneWay ? isFromBelow : one(2) == 0;
                boolean isEqual = !isOneWay && one(6) == 0;
                feedText(isEqual ? s + "=" + t : isUpward ? s + ":" + t : t + ":" + s);
                check("bound()", real.bound(), model.bound());
            }
            if (one(3) != 0) {
                close();
            }
            steps();
        }

        void steps() {
            boolean isMore = true;
            for (int i = 0; i < 7 && model.state == 0 && isMore; i++) {
                isMore = model.next() != 0;
                step();
                look();
            }
        }

        void close() {
            int due = model.close();
            note("close " + due);
            note("rounds " + model.rounds);
            if (due == 2) {
                note(model.bounds.size() > 48 ? "cut by many" : "cut by long");
                note("bounds of hundreds " + model.bounds.size() / 100);
            }
            check("close()", real.close(), due);
            if (one(2) == 0) {
                seeBounds();
            }
        }

        void step() {
            check("next()", real.next(), model.next());
            int due = model.step();
            note("step " + Math.max(Math.min(due, 1), -4));
            check("step()", real.step(), due);
            if (due < 0 && due != -4 && one(2) == 0) {
                seeBounds();
            }
        }

        void call() {
            int what = one(100);
            if (what < 3) {
                kinds();
            } else if (what < 5 || model.variables.isEmpty()) {
                boolean hasThrows = one(4) == 0;
                check("variable(" + hasThrows + ")", real.variable(hasThrows), model.variable(hasThrows));
            } else if (what < 52) {
                bound();
            } else if (what < 62) {
                close();
            } else if (what < 78) {
                step();
            } else if (what < 86) {
                feedText(mutated(types(1 + one(one(10) == 0 ? 8 : 3))));
                check("join()", real.join(), model.join());
                noteFault("join");
                seeWritten();
            } else if (what < 90) {
                feedText(mutated(pair(":", false)));
                int due = model.below();
                note("below " + Math.max(due, -1));
                check("below()", real.below(), due);
                noteFault("below");
            } else if (what < 92 || model.state != 0) {
                check("fresh()", real.fresh(), model.fresh());
                manyVariables();
            } else if (what < 97) {
                manyVariables();
            } else if (one(3) == 0) {
                long w = random.nextLong();
                int n = one(12) - 1;
                check("feed(" + w + "," + n + ")", real.feed(w, n), model.feed(w, n));
            }
        }

        void noteFault(String call) {
            note(call + " fault " + model.fault);
            check("fault()", real.fault(), model.fault);
        }

        void look() {
            int what = one(9) - 1;
            check("told(" + what + ")", real.told(what), model.told(what));
            int i = one(8) - 1;
            check("solution(" + i + ")", real.solution(i), model.solution(i));
            seeWritten();
            if (one(3) == 0) {
                seeBounds();
            }
        }

        void seeBounds() {
            check("told(2)", real.told(2), model.told(2));
            for (int k = -1; k <= model.bounds.size(); k++) {
                check("written(" + k + ")", real.written(k), model.written(k));
                if (k % 5 < 2) {
                    seeWritten();
                }
            }
        }

        /** Now and then all bytes, else a few and those at the ends: calls are dear. */
        void seeWritten() {
            int length = model.written.length();
            if (one(5) == 0) {
                for (int i = -1; i <= length; i++) {
                    seeLetter(i);
                }
            } else {
                seeLetter(length - 1);
                seeLetter(one(length + 2) - 1);
                seeLetter(length);
            }
        }

        void seeLetter(int i) {
            int due = i < 0 || i >= model.written.length() ? -99 : model.written.charAt(i);
            int got;
            try {
                got = real.letter(i);
            } catch (IndexOutOfBoundsException e) {
                got = e.getClass() == IndexOutOfBoundsException.class ? -99 : -98;
            }
            if (got != due) {
                check("letter(" + i + ")", got, due);
            }
        }

        void feedText(String text) {
            log.append("  tape ").append(text).append('\n');
            int i = 0;
            while (i < text.length()) {
                int n = Math.min(one(4) == 0 ? 1 + one(8) : 8, text.length() - i);
                long w = random.nextLong();
                for (int j = 0; j < n; j++) {
                    w = w << 8 | text.charAt(i + j);
                }
                int due = model.feed(w, n);
                int got = real.feed(w, n);
                if (got != due) {
                    check("feed(" + w + "," + n + ")", got, due);
                }
                i += n;
            }
        }

        void kinds() {
            feedText(mutated(kindsText()));
            check("kinds()", real.kinds(), model.kinds());
            noteFault("kinds");
        }

        void manyVariables() {
            int count = one(7);
            for (int i = 0; i < count; i++) {
                boolean hasThrows = one(4) == 0;
                check("variable(" + hasThrows + ")", real.variable(hasThrows), model.variable(hasThrows));
            }
        }

        void bound() {
            String text = one(100) < longChance ? longPair()
                    : one(100) < denseChance ? densePair() : one(100) < pureChance ? purePair()
                    : one(100) < trueChance ? truePair() : pair(one(2) == 0 ? "=" : ":", true);
            feedText(mutated(text));
            int due = model.bound();
            check("bound()", real.bound(), due);
            if (due != -4) {
                noteFault("bound");
            } else if (one(5) != 0) {
                check("below()", real.below(), model.below());
            }
        }

        /** A VARIABLE and a TYPE of one KIND with VARIABLES as ARGUMENTS, so that none is FALSE soon. */
        String densePair() {
            String s = "$" + one(Math.max(1, model.variables.size()));
            int k = Math.min(4, model.kinds.size() - 1);
            for (int i = 0; i < 4 && model.kinds.get(k).parameters.isEmpty(); i++) {
                k = one(model.kinds.size());
            }
            StringBuilder b = new StringBuilder(model.kinds.get(k).name);
            int count = model.kinds.get(k).parameters.size();
            for (int a = 0; a < count; a++) {
                b.append(a == 0 ? "<" : ",").append("$").append(one(Math.max(1, model.variables.size())));
            }
            b.append(count > 0 ? ">" : "");
            return one(4) == 0 ? b + ":" + s : s + ":" + b;
        }

        /** TYPES whose lengths are near to those that make something LONG. */
        String longPair() {
            int[] lengths = {6, 7, 8, 9, 10, 11, 11, 12, 12, 12, 13, 13, 22, 23, 23, 24, 24};
            String t = sized(lengths[one(lengths.length)], one(3) == 0);
            String s = "$" + one(Math.max(1, model.variables.size()));
            if (one(6) == 0) {
                s = one(2) == 0 ? t : sized(8 + one(6), true);
            }
            return one(4) == 0 ? s + "=" + t : one(2) == 0 ? s + ":" + t : t + ":" + s;
        }

        /** A TYPE of about so many NAMES. */
        String sized(int length, boolean hasVariables) {
            if (length <= 1) {
                return type(0, hasVariables, 40);
            }
            int k = 4 + one(Math.max(1, model.kinds.size() - 4));
            for (int i = 0; i < 20 && (k >= model.kinds.size() || model.kinds.get(k).parameters.isEmpty()); i++) {
                k = one(model.kinds.size());
            }
            int count = k < model.kinds.size() ? model.kinds.get(k).parameters.size() : 0;
            if (count == 0) {
                return "Run";
            }
            StringBuilder b = new StringBuilder(model.kinds.get(k).name);
            int left = length - 1;
            for (int a = 0; a < count; a++) {
                int share = a == count - 1 ? left : Math.max(1, left / (count - a));
                b.append(a == 0 ? "<" : ",").append(sized(share, hasVariables));
                left -= share;
            }
            return b.append('>').toString();
        }

        /** Two VARIABLES, or a VARIABLE and a TYPE above or below it. */
        String purePair() {
            String s = "$" + one(Math.max(1, model.variables.size()));
            String t = "$" + one(Math.max(1, model.variables.size()));
            if (one(2) == 0) {
                t = type(one(2), true, 15);
            }
            return one(5) == 0 ? s + "=" + t : one(2) == 0 ? s + ":" + t : t + ":" + s;
        }

        /** Something told of VARIABLES that holds if they are what this run has set them to in secret. */
        String truePair() {
            if (secretKinds != model.kinds) {
                secretKinds = model.kinds;
                secret.clear();
                for (int v = 0; v < 6; v++) {
                    secret.add(proper(one(10) < depthChance ? 2 + one(2) : one(2)));
                    if (v > 0 && one(4) == 0) {
                        List<Type> all = model.ancestors(secret.get(one(v)));
                        secret.set(v, all.get(one(all.size())));
                    }
                }
            }
            Type s = one(3) == 0 ? proper(one(isRich ? 4 : 3)) : secret.get(one(6));
            if (one(3) == 0) {
                int below = one(model.kinds.size());
                String above = told(s, 90);
                if (model.kinds.get(below).parameters.isEmpty() && above.startsWith("$")) {
                    return model.kinds.get(below).name + ":" + above;
                }
            }
            if (one(4) == 0) {
                return told(s, 80) + "=" + told(s, 80);
            }
            List<Type> all = model.ancestors(s);
            return told(s, 60) + ":" + told(all.get(one(all.size())), 60);
        }

        /** The TYPE, some of it told by VARIABLES. */
        String told(Type t, int chance) {
            int from = one(6);
            for (int i = 0; i < 6; i++) {
                int v = (from + i) % 6;
                if (v < model.variables.size() && secret.get(v).equals(t) && one(100) < chance) {
                    return "$" + v;
                }
            }
            StringBuilder b = new StringBuilder(model.kinds.get(t.number).name);
            for (int a = 0; a < t.args.size(); a++) {
                b.append(a == 0 ? "<" : ",").append(told(t.args.get(a), chance));
            }
            return b.append(t.args.isEmpty() ? "" : ">").toString();
        }

        // ---- texts

        /** Tokens, and what is none, in any order. */
        String soup() {
            String[] tokens = {"<", "<", ">", ">", ",", ",", ";", ";", ":", ":", "=", " ", "$0", "$1", "$5", "$6", "$",
                "A", "B", "T", "U", "Run", "Object", "Throw", "Abcdefgh", "Abcdefghi", "a", "9", "&", "\u0000", "\u00ff"};
            int kindsKnown = model.kinds.size();
            StringBuilder b = new StringBuilder();
            int count = one(one(20) == 0 ? 300 : 12);
            int fine = one(3) == 0 ? tokens.length : tokens.length - 6;
            for (int i = 0; i < count && b.length() < 590; i++) {
                b.append(one(4) == 0 ? model.kinds.get(one(kindsKnown)).name : tokens[one(fine)]);
            }
            return b.toString();
        }

        String mutated(String text) {
            if (one(60) == 0) {
                return soup();
            }
            if (one(12) != 0) {
                return text;
            }
            StringBuilder b = new StringBuilder(text);
            String[] pieces = {"<", ">", ",", ";", ":", "=", "$0", "$5", "$12", "A", "A<A>", "Zz", "Abcdefgh",
                "Abcdefghi", "&", "%", " ", "  ", "$", "$6", "a", "0", "Object", "Run", "\u00ff", "T"};
            int count = 1 + one(2);
            for (int i = 0; i < count; i++) {
                int at = one(b.length() + 1);
                switch (one(4)) {
                    case 0 -> b.insert(at, pieces[one(pieces.length)]);
                    case 1 -> {
                        if (at < b.length()) {
                            b.deleteCharAt(at);
                        }
                    }
                    case 2 -> b.setLength(at);
                    default -> {
                        if (at < b.length()) {
                            b.replace(at, at + 1, pieces[one(pieces.length)]);
                        }
                    }
                }
            }
            return b.toString();
        }

        /** Mostly right: a KIND that has a FAULT is mostly told anew. */
        String kindsText() {
            if (isRich) {
                return RICH[one(RICH.length)];
            }
            StringBuilder b = new StringBuilder();
            int count = one(25) == 0 ? 15 + one(4) : 2 + one(13);
            List<String> names = new ArrayList<>(List.of("Object", "Throw", "Except", "Run"));
            List<Integer> arity = new ArrayList<>(List.of(0, 0, 0, 0));
            int chance = one(4);
            for (int k = 0; k < count; k++) {
                int length = b.length();
                for (int tries = 0; tries < 8; tries++) {
                    b.setLength(length);
                    addKind(b, k, names, arity, chance);
                    Model trial = new Model();
                    trial.tape.append(b);
                    if (b.length() <= 600 && trial.kinds() > 0 || one(40) == 0) {
                        break;
                    }
                    names.remove(names.size() - 1);
                    arity.remove(arity.size() - 1);
                    b.setLength(length);
                }
            }
            return b.toString();
        }

        void addKind(StringBuilder b, int k, List<String> names, List<Integer> arity, int chance) {
            String name = one(200) == 0 ? names.get(one(names.size())) : nameOf(k);
            int parameters = one(6) < chance ? 1 + one(one(2) == 0 ? 3 : 1) : 0;
            if (one(200) == 0) {
                parameters = 4;
            }
            b.append(name);
            List<String> own = new ArrayList<>();
            for (int p = 0; p < parameters; p++) {
                String usual = "TUVW".substring(p, p + 1);
                own.add(one(90) == 0 ? "Object" : one(90) == 0 ? name : one(90) == 0 ? "T" : usual);
                b.append(p == 0 ? "<" : ",").append(own.get(p));
            }
            b.append(parameters > 0 ? ">" : "");
            if (own.isEmpty() && !latestParents.isEmpty() && one(3) == 0) {
                // the same PARENTS once more: these make MEETS
                b.append(latestParents).append(";");
                names.add(name);
                arity.add(parameters);
                return;
            }
            int start = b.length();
            int parents = one(4) == 0 ? 0 : 1 + one(one(3) == 0 ? 4 : 2);
            if (one(150) == 0) {
                parents = 5;
            }
            List<String> usable = new ArrayList<>(names);
            List<Integer> usableArity = new ArrayList<>(arity);
            usable.add(name);
            usableArity.add(parameters);
            Set<Integer> used = new TreeSet<>();
            for (int p = 0; p < parents; p++) {
                int parent = one(20) == 0 ? one(names.size()) : Math.max(names.size() - 1 - one(10), 0);
                if (names.size() > 4 && parent < 4 && one(4) != 0) {
                    parent = 4 + one(names.size() - 4);
                }
                if (!used.add(parent) && one(20) != 0) {
                    continue;
                }
                b.append(used.size() == 1 && p == 0 ? ":" : ",").append(names.get(parent));
                for (int a = 0; a < arity.get(parent); a++) {
                    b.append(a == 0 ? "<" : ",").append(argument(usable, usableArity, own, one(20) == 0 ? 4 : one(3)));
                }
                b.append(arity.get(parent) > 0 ? ">" : "");
            }
            if (own.isEmpty() && parents > 1 || one(9) == 0) {
                latestParents = b.substring(start);
            }
            b.append(one(30) == 0 ? " ; " : ";");
            names.add(name);
            arity.add(parameters);
        }

        String nameOf(int k) {
            String[] odd = {"A", "Ab", "A0", "B", "B9", "Bz", "BZ", "Comp", "Coll", "List", "Long1234",
                "M", "N", "Num", "O", "P", "Q", "R", "S"};
            return odd[k % odd.length];
        }

        String argument(List<String> names, List<Integer> arity, List<String> own, int depth) {
            if (!own.isEmpty() && one(10) < 7) {
                return own.get(one(own.size()));
            }
            int k = one(names.size());
            StringBuilder b = new StringBuilder(names.get(k));
            if (depth <= 0 && arity.get(k) > 0) {
                return own.isEmpty() ? "Run" : own.get(0);
            }
            for (int a = 0; a < arity.get(k); a++) {
                b.append(a == 0 ? "<" : ",").append(argument(names, arity, own, depth - 1));
            }
            return b.append(arity.get(k) > 0 ? ">" : "").toString();
        }

        /** A TYPE of the KINDS that are there; with VARIABLES, too, where these may come. */
        String type(int depth, boolean hasVariables, int chance) {
            if (hasVariables && !model.variables.isEmpty() && one(100) < chance) {
                int v = one(100) == 0 ? one(6) : one(model.variables.size());
                return "$" + v;
            }
            int k = one(model.kinds.size());
            if (one(3) == 0) {
                k = Math.max(k, one(model.kinds.size()));
            }
            int arity = model.kinds.get(k).parameters.size();
            if (depth <= 0 && arity > 0) {
                k = one(4);
                arity = 0;
            }
            StringBuilder b = new StringBuilder(model.kinds.get(k).name);
            for (int a = 0; a < arity; a++) {
                b.append(a == 0 ? "<" : one(20) == 0 ? " , " : ",").append(type(depth - 1, hasVariables, chance));
            }
            return b.append(arity > 0 ? ">" : "").toString();
        }

        /** Two TYPES; of PROPER ones the second is often an ANCESTOR of the first. */
        String pair(String sign, boolean hasVariables) {
            int depth = one(15) == 0 ? 5 : one(3);
            String s = hasVariables && one(3) != 0 ? type(0, true, 100) : type(depth, hasVariables, 40);
            String t = type(one(15) == 0 ? 5 : one(3), hasVariables, 30);
            if (!hasVariables && one(2) == 0) {
                t = related();
                if (one(2) == 0) {
                    return t;
                }
            }
            return one(2) == 0 ? s + sign + t : t + sign + s;
        }

        String related() {
            int k = 4 + one(Math.max(1, model.kinds.size() - 4));
            if (k >= model.kinds.size()) {
                return "Run:Throw";
            }
            List<Type> args = new ArrayList<>();
            int depth = one(12) == 0 ? 3 : 1;
            for (int a = 0; a < model.kinds.get(k).parameters.size(); a++) {
                args.add(proper(depth));
            }
            Type t = new Type('k', k, args);
            List<Type> all = model.ancestors(t);
            return model.write(t) + ":" + model.write(all.get(one(all.size())));
        }

        Type proper(int depth) {
            int k = one(model.kinds.size());
            if (isRich && depth > 0 && model.kinds.size() > 4) {
                k = 4 + one(model.kinds.size() - 4);
            }
            int arity = model.kinds.get(k).parameters.size();
            if (depth <= 0 && arity > 0) {
                return Model.plain(one(4));
            }
            List<Type> args = new ArrayList<>();
            for (int a = 0; a < arity; a++) {
                args.add(proper(depth - 1));
            }
            return new Type('k', k, args);
        }

        String types(int count) {
            StringBuilder b = new StringBuilder();
            String same = type(one(15) == 0 ? 4 : 2, false, 0);
            for (int i = 0; i < count; i++) {
                String t = one(5) == 0 ? same : type(one(12) == 0 ? 5 : one(3), false, 0);
                b.append(i == 0 ? "" : ",").append(t);
            }
            return b.toString();
        }
    }
}
