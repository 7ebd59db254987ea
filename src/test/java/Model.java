import java.math.BigInteger;
import java.util.ArrayList;
import java.util.Collections;
import java.util.HashMap;
import java.util.List;
import java.util.Map;
import java.util.NoSuchElementException;
import java.util.Set;

/**
 * The document a second time, told as plainly as the Java library allows and with no regard to cost: a text as a
 * tree, every round tried, every state copied. ModelTest asks it and the class the same things.
 */
final class Model {
    static final Set<String> WORDS = Set.of("man", "thought", "reader", "rate", "dull", "seed", "law", "read", "due",
        "hide", "or", "and", "not", "worth", "skill", "purse", "wiles", "dulled", "there", "week");
    static final Set<String> NAMES = Set.of("worth", "skill", "purse", "wiles", "dulled", "there", "week");
    static final BigInteger LIMIT = BigInteger.TEN.pow(12);

    static final class Fault extends RuntimeException {
        final int kind;
        final int place;

        Fault(int kind, int place) {
            this.kind = kind;
            this.place = place;
        }
    }

    static final class Wrong extends RuntimeException {
    }

    record Token(String text, int place) {
    }

    interface Tree {
        BigInteger value(Map<String, Integer> names);
    }

    static final class Man {
        String name;
        int purse;
        int wiles;
        int paid;
        int owed;
        int dull;
        int round = -1;

        Man copy() {
            Man m = new Man();
            m.name = name;
            m.purse = purse;
            m.wiles = wiles;
            m.paid = paid;
            m.owed = owed;
            m.dull = dull;
            m.round = round;
            return m;
        }
    }

    static final class Thought {
        int owner;
        int worth;
        int week;
        int tongue;
        int state;
        int holder = -1;
        int read;

        Thought copy() {
            Thought t = new Thought();
            t.owner = owner;
            t.worth = worth;
            t.week = week;
            t.tongue = tongue;
            t.state = state;
            t.holder = holder;
            t.read = read;
            return t;
        }
    }

    static final class Reader {
        String name;
        int skill;
        int tongues;

        Reader copy() {
            Reader r = new Reader();
            r.name = name;
            r.skill = skill;
            r.tongues = tongues;
            return r;
        }
    }

    static final class State {
        List<Man> men = new ArrayList<>();
        List<Thought> thoughts = new ArrayList<>();
        List<Reader> readers = new ArrayList<>();
        Map<String, Tree> laws = new HashMap<>();
        int rate = 20;
        int dull = 5;
        long number;
        int week;
        int knots;
        int lines;
        Map<String, Boolean> once = new HashMap<>();

        State copy() {
            State s = new State();
            men.forEach(m -> s.men.add(m.copy()));
            thoughts.forEach(t -> s.thoughts.add(t.copy()));
            readers.forEach(r -> s.readers.add(r.copy()));
            s.laws = laws;
            s.rate = rate;
            s.dull = dull;
            s.number = number;
            s.week = week;
            s.knots = knots;
            s.lines = lines;
            return s;
        }

        List<Thought> heldBy(int man) {
            List<Thought> held = new ArrayList<>();
            for (Thought t : thoughts) {
                if (t.state == 1 && t.holder == man) {
                    held.add(t);
                }
            }
            return held;
        }

        BigInteger law(String law, int worth, int reader, int man) {
            Tree tree = laws.get(law);
            if (tree == null) {
                return null;
            }
            Map<String, Integer> names = new HashMap<>();
            names.put("worth", worth);
            names.put("skill", reader < 0 ? 0 : readers.get(reader).skill);
            names.put("purse", men.get(man).purse);
            names.put("wiles", men.get(man).wiles);
            names.put("dulled", men.get(man).dull);
            names.put("there", heldBy(man).size());
            names.put("week", week);
            try {
                return tree.value(names);
            } catch (Wrong e) {
                return null;
            }
        }

        static int clamp(BigInteger value, int most) {
            return value.max(BigInteger.ZERO).min(BigInteger.valueOf(most)).intValueExact();
        }

        int likely(Thought t, int reader) {
            BigInteger e = law("read", t.worth, reader, t.holder);
            if (e == null) {
                Man m = men.get(t.holder);
                e = BigInteger.valueOf(10 * readers.get(reader).skill - 5 * m.wiles - 10 * m.dull);
            }
            return clamp(e, 100);
        }

        boolean reads(Thought t, int reader, boolean drawn) {
            if ((readers.get(reader).tongues & 1 << t.tongue) == 0) {
                return false;
            }
            int e = likely(t, reader);
            if (!drawn) {
                return e >= 50;
            }
            if (e == 0) {
                return false;
            }
            if (e == 100) {
                return true;
            }
            number = (number * 1103515245L + 12345L) % (1L << 31);
            return e > number / 65536 % 100;
        }

        void think() {
            for (Thought t : thoughts) {
                if (t.state == 0 && t.week == week) {
                    t.state = 1;
                    t.holder = t.owner;
                }
            }
        }

        void visit(boolean drawn) {
            for (int door = 0; door < men.size(); door++) {
                Man m = men.get(door);
                if (m.round < 0) {
                    continue;
                }
                int best = 0;
                for (Thought t : heldBy(door)) {
                    if (reads(t, m.round, drawn)) {
                        t.read = 1;
                        best = Math.max(best, t.worth);
                    }
                }
                int due = 0;
                if (best > 0) {
                    BigInteger e = law("due", best, m.round, door);
                    due = e == null ? best * rate / 100 : clamp(e, 999);
                }
                int pays = Math.min(m.purse, due);
                m.purse -= pays;
                m.paid += pays;
                m.owed += due - pays;
                m.dull = 0;
            }
        }

        void forget() {
            for (Thought t : thoughts) {
                if (t.state == 1) {
                    BigInteger e = law("hide", t.worth, -1, t.holder);
                    int weeks = e == null ? 8 + men.get(t.holder).wiles : clamp(e, 99);
                    if (week - t.week > weeks) {
                        t.state = 2;
                        t.holder = -1;
                    }
                }
            }
        }

        State go(int n, boolean drawn) {
            for (int i = 0; i < n; i++) {
                think();
                if (week % 4 == 3) {
                    visit(drawn);
                }
                forget();
                week++;
            }
            return this;
        }

        int paid() {
            return men.stream().mapToInt(m -> m.paid).sum();
        }

        int owed() {
            return men.stream().mapToInt(m -> m.owed).sum();
        }

        int tax(int man) {
            return men.get(man).paid + men.get(man).owed;
        }

        int states(int state) {
            return (int) thoughts.stream().filter(t -> t.state == state).count();
        }
    }

    /** Recursive descent over all tokens at once. */
    static final class Parser {
        final List<Token> tokens = new ArrayList<>();
        final int length;
        int at;
        int open;
        State state = new State();

        Parser(byte[] bytes) {
            length = bytes.length;
            int i = 0;
            while (i < bytes.length) {
                int c = bytes[i] & 255;
                int from = i;
                if (c == 10 || c == 32) {
                    i++;
                    continue;
                }
                if (letter(c)) {
                    while (i < bytes.length && letter(bytes[i])) {
                        i++;
                    }
                } else if (digit(c)) {
                    while (i < bytes.length && digit(bytes[i])) {
                        i++;
                    }
                } else {
                    i++;
                    if (i < bytes.length && (c == '<' || c == '>') && (bytes[i] == '=' || c == '<' && bytes[i] == '>')) {
                        i++;
                    }
                }
                StringBuilder b = new StringBuilder();
                for (int k = from; k < i; k++) {
                    b.append((char) (bytes[k] & 255));
                }
                tokens.add(new Token(b.toString(), from));
            }
        }

        static boolean letter(int c) {
            return c >= 97 && c <= 122;
        }

        static boolean digit(int c) {
            return c >= 48 && c <= 57;
        }

        String see() {
            return at < tokens.size() ? tokens.get(at).text : "";
        }

        int place() {
            return at < tokens.size() ? tokens.get(at).place : length;
        }

        Fault fault(int kind) {
            return new Fault(kind, place());
        }

        void take(String text) {
            if (!see().equals(text)) {
                throw fault(1);
            }
            at++;
        }

        int number(int least, int most) {
            if (!see().matches("[0-9]+")) {
                throw fault(1);
            }
            BigInteger n = new BigInteger(see());
            if (n.compareTo(BigInteger.valueOf(least)) < 0 || n.compareTo(BigInteger.valueOf(most)) > 0) {
                throw fault(2);
            }
            at++;
            return n.intValueExact();
        }

        String name() {
            if (!see().matches("[a-z]{1,6}") || WORDS.contains(see())) {
                throw fault(1);
            }
            return see();
        }

        State parse() {
            while (at < tokens.size()) {
                line();
                take(";");
                state.lines++;
            }
            for (int i = 0; i < state.men.size(); i++) {
                state.men.get(i).round = state.readers.isEmpty() ? -1 : i % state.readers.size();
            }
            return state;
        }

        void line() {
            switch (see()) {
                case "man" -> man();
                case "thought" -> thought();
                case "reader" -> reader();
                case "rate" -> state.rate = once(0, 100);
                case "dull" -> state.dull = once(1, 99);
                case "seed" -> state.number = once(0, 99999);
                case "law" -> law();
                default -> throw fault(1);
            }
        }

        int once(int least, int most) {
            if (state.once.put(see(), true) != null) {
                throw fault(3);
            }
            at++;
            return number(least, most);
        }

        void man() {
            if (state.men.size() == 6) {
                throw fault(2);
            }
            at++;
            Man m = new Man();
            m.name = name();
            if (state.men.stream().anyMatch(x -> x.name.equals(m.name))) {
                throw fault(3);
            }
            at++;
            m.purse = number(0, 999);
            m.wiles = number(0, 9);
            state.men.add(m);
        }

        void reader() {
            if (state.readers.size() == 4) {
                throw fault(2);
            }
            at++;
            Reader r = new Reader();
            r.name = name();
            if (state.readers.stream().anyMatch(x -> x.name.equals(r.name))) {
                throw fault(3);
            }
            at++;
            r.skill = number(0, 9);
            r.tongues = number(0, 15);
            state.readers.add(r);
        }

        void thought() {
            if (state.thoughts.size() == 12) {
                throw fault(2);
            }
            at++;
            Thought t = new Thought();
            String name = name();
            t.owner = -1;
            for (int i = 0; i < state.men.size(); i++) {
                if (state.men.get(i).name.equals(name)) {
                    t.owner = i;
                }
            }
            if (t.owner < 0) {
                throw fault(4);
            }
            at++;
            t.worth = number(1, 99);
            t.week = number(0, 99);
            t.tongue = number(0, 3);
            state.thoughts.add(t);
        }

        void law() {
            at++;
            String law = see();
            if (!Set.of("read", "due", "hide").contains(law)) {
                throw fault(1);
            }
            if (state.laws.containsKey(law)) {
                throw fault(3);
            }
            at++;
            Tree tree = or();
            if (!see().equals(";")) {
                throw fault(1);
            }
            state.laws.put(law, tree);
        }

        void knot() {
            if (state.knots == 64) {
                throw fault(2);
            }
            state.knots++;
        }

        static BigInteger bool(boolean b) {
            return b ? BigInteger.ONE : BigInteger.ZERO;
        }

        Tree or() {
            Tree left = and();
            while (see().equals("or")) {
                knot();
                at++;
                Tree a = left;
                Tree b = and();
                left = n -> {
                    BigInteger x = a.value(n);
                    BigInteger y = b.value(n);
                    return bool(x.signum() != 0 || y.signum() != 0);
                };
            }
            return left;
        }

        Tree and() {
            Tree left = not();
            while (see().equals("and")) {
                knot();
                at++;
                Tree a = left;
                Tree b = not();
                left = n -> {
                    BigInteger x = a.value(n);
                    BigInteger y = b.value(n);
                    return bool(x.signum() != 0 && y.signum() != 0);
                };
            }
            return left;
        }

        Tree not() {
            if (see().equals("not")) {
                knot();
                at++;
                Tree a = not();
                return n -> bool(a.value(n).signum() == 0);
            }
            return compare();
        }

        Tree compare() {
            Tree a = sum();
            String sign = see();
            if (!Set.of("<", "<=", "=", "<>", ">=", ">").contains(sign)) {
                return a;
            }
            knot();
            at++;
            Tree b = sum();
            return n -> {
                int c = a.value(n).compareTo(b.value(n));
                return bool(switch (sign) {
                    case "<" -> c < 0;
                    case "<=" -> c <= 0;
                    case "=" -> c == 0;
                    case "<>" -> c != 0;
                    case ">=" -> c >= 0;
                    default -> c > 0;
                });
            };
        }

        static BigInteger check(BigInteger value) {
            if (value.abs().compareTo(LIMIT) > 0) {
                throw new Wrong();
            }
            return value;
        }

        Tree sum() {
            Tree left = term();
            while (see().equals("+") || see().equals("-")) {
                boolean plus = see().equals("+");
                knot();
                at++;
                Tree a = left;
                Tree b = term();
                left = n -> {
                    BigInteger x = a.value(n);
                    BigInteger y = b.value(n);
                    return check(plus ? x.add(y) : x.subtract(y));
                };
            }
            return left;
        }

        Tree term() {
            Tree left = part();
            while (see().equals("*") || see().equals("/")) {
                boolean times = see().equals("*");
                knot();
                at++;
                Tree a = left;
                Tree b = part();
                left = n -> {
                    BigInteger x = a.value(n);
                    BigInteger y = b.value(n);
                    if (!times && y.signum() == 0) {
                        throw new Wrong();
                    }
                    return check(times ? x.multiply(y) : x.divide(y));
                };
            }
            return left;
        }

        Tree part() {
            String text = see();
            if (text.matches("[0-9]+")) {
                knot();
                BigInteger n = BigInteger.valueOf(number(0, 9999));
                return names -> n;
            }
            if (NAMES.contains(text)) {
                knot();
                at++;
                return names -> BigInteger.valueOf(names.get(text));
            }
            if (text.equals("(")) {
                if (open == 8) {
                    throw fault(2);
                }
                open++;
                at++;
                Tree inner = or();
                take(")");
                open--;
                return inner;
            }
            throw fault(1);
        }
    }

    record Find(int weeks, int thought, boolean isRead, int strikes) {
    }

    final List<Byte> tape = new ArrayList<>();
    final List<Find> found = new ArrayList<>();
    final List<State> before = new ArrayList<>();
    State told = new State();
    State now = told.copy();
    State image;
    int known = -1;
    int faultKind;
    int faultPlace = -1;

    boolean isMan(int man) {
        return man >= 0 && man < now.men.size();
    }

    boolean isThought(int thought) {
        return thought >= 0 && thought < now.thoughts.size();
    }

    boolean isReader(int reader) {
        return reader >= 0 && reader < now.readers.size();
    }

    boolean isHeld(int thought) {
        return isThought(thought) && now.thoughts.get(thought).state == 1;
    }

    static boolean in(int x, int least, int most) {
        return x >= least && x <= most;
    }

    int feed(int a, int b, int c, int d, int e) {
        if (tape.size() + 20 > 700) {
            return -1;
        }
        for (int x : new int[] {a, b, c, d, e}) {
            for (int i = 3; i >= 0; i--) {
                tape.add((byte) (x >>> 8 * i));
            }
        }
        return tape.size();
    }

    int text(int n) {
        if (n < 0 || n > tape.size()) {
            return -2;
        }
        byte[] bytes = new byte[n];
        for (int i = 0; i < n; i++) {
            bytes[i] = tape.get(i);
        }
        tape.clear();
        try {
            told = new Parser(bytes).parse();
        } catch (Fault f) {
            faultKind = f.kind;
            faultPlace = f.place;
            return -1;
        }
        faultKind = 0;
        faultPlace = -1;
        now = told.copy();
        found.clear();
        known = -1;
        image = null;
        before.clear();
        return told.lines;
    }

    int fault(int what) {
        return what == 0 ? faultKind : what == 1 ? faultPlace : -1;
    }

    static int letters(String name) {
        int letters = 0;
        for (int i = 0; i < 6; i++) {
            letters = letters * 32 + (i < name.length() ? name.charAt(i) - 'a' + 1 : 0);
        }
        return letters;
    }

    int named(int what, int letters) {
        int size = what == 0 ? now.men.size() : what == 1 ? now.readers.size() : 0;
        for (int i = 0; i < size; i++) {
            if (letters(what == 0 ? now.men.get(i).name : now.readers.get(i).name) == letters) {
                return i;
            }
        }
        return -1;
    }

    int thought(int thought, int what) {
        if (!isThought(thought)) {
            throw new IndexOutOfBoundsException();
        }
        if (!in(what, 0, 6)) {
            throw new NoSuchElementException();
        }
        Thought t = now.thoughts.get(thought);
        return new int[] {t.owner, t.worth, t.week, t.tongue, t.state, t.holder, t.read}[what];
    }

    int man(int man, int what) {
        if (!isMan(man) || !in(what, 0, 5)) {
            return -1;
        }
        Man m = now.men.get(man);
        return new int[] {m.purse, m.wiles, m.paid, m.owed, m.dull, m.round}[what];
    }

    int reader(int reader, int what) {
        if (!isReader(reader) || !in(what, 0, 1)) {
            return -1;
        }
        return what == 0 ? now.readers.get(reader).skill : now.readers.get(reader).tongues;
    }

    long law(int what, int which) {
        BigInteger e = null;
        if (what == 0 && isHeld(which)) {
            Thought t = now.thoughts.get(which);
            e = now.law("read", t.worth, now.men.get(t.holder).round, t.holder);
        } else if (what == 1 && isMan(which)) {
            int best = now.heldBy(which).stream().mapToInt(t -> t.worth).max().orElse(0);
            e = now.law("due", best, now.men.get(which).round, which);
        } else if (what == 2 && isHeld(which)) {
            Thought t = now.thoughts.get(which);
            e = now.law("hide", t.worth, -1, t.holder);
        }
        return e == null ? Long.MIN_VALUE : e.longValueExact();
    }

    void remember() {
        before.add(now.copy());
        if (before.size() > 20) {
            before.remove(0);
        }
    }

    boolean hide(int thought, int man) {
        if (!isHeld(thought) || !isMan(man) || now.thoughts.get(thought).holder == man) {
            return false;
        }
        remember();
        now.thoughts.get(thought).holder = man;
        return true;
    }

    int buy(int man, int many) {
        if (!isMan(man) || !in(many, 1, 9) || now.men.get(man).dull + many > 9) {
            return -1;
        }
        if (now.men.get(man).purse < many * now.dull) {
            return -2;
        }
        remember();
        now.men.get(man).purse -= many * now.dull;
        return now.men.get(man).dull += many;
    }

    boolean round(int man, int reader) {
        if (!isMan(man) || !isReader(reader) || now.men.get(man).round == reader) {
            return false;
        }
        remember();
        now.men.get(man).round = reader;
        return true;
    }

    boolean rate(int rate) {
        if (!in(rate, 0, 100) || now.rate == rate) {
            return false;
        }
        remember();
        now.rate = rate;
        return true;
    }

    int weeks(int n) {
        if (!in(n, 0, 99) || now.week + n > 9900) {
            return -1;
        }
        if (n > 0) {
            before.clear();
        }
        return now.go(n, true).week;
    }

    int ahead(int n, int what) {
        if (!in(n, 0, 99) || !in(what, 0, 3)) {
            return -1;
        }
        State s = now.copy().go(n, false);
        return new int[] {s.paid() - now.paid(), s.owed() - now.owed(), s.states(2) - now.states(2), s.states(1)}[what];
    }

    int likely(int thought) {
        if (!isThought(thought)) {
            return -1;
        }
        if (!isHeld(thought)) {
            return -2;
        }
        Thought t = now.thoughts.get(thought);
        int reader = now.men.get(t.holder).round;
        return reader < 0 || (now.readers.get(reader).tongues & 1 << t.tongue) == 0 ? 0 : now.likely(t, reader);
    }

    int bestRound(int what) {
        if (!in(what, 0, 4) || now.readers.isEmpty()) {
            return -1;
        }
        int doors = Math.min(4, now.men.size());
        if (what < 4 && what >= doors) {
            return -2;
        }
        int many = now.readers.size();
        int tries = (int) Math.pow(many, doors);
        int most = -1;
        int[] best = null;
        for (int i = 0; i < tries; i++) {
            State s = now.copy();
            int[] chosen = new int[doors];
            int rest = i;
            for (int door = doors - 1; door >= 0; door--) {
                chosen[door] = rest % many;
                rest /= many;
                s.men.get(door).round = chosen[door];
            }
            s.think();
            s.visit(false);
            int tax = s.paid() + s.owed() - now.paid() - now.owed();
            if (tax > most) {
                most = tax;
                best = chosen;
            }
        }
        return what == 4 ? most : best[what];
    }

    int hideIn(int thought, int what) {
        if (!isThought(thought) || !in(what, 0, 1)) {
            return -1;
        }
        if (!isHeld(thought)) {
            return -2;
        }
        int best = -1;
        int least = Integer.MAX_VALUE;
        for (int man = 0; man < now.men.size(); man++) {
            State s = now.copy();
            s.thoughts.get(thought).holder = man;
            s.go(12, false);
            int tax = s.paid() + s.owed() - now.paid() - now.owed();
            if (tax < least) {
                least = tax;
                best = man;
            }
        }
        return what == 0 ? best : least;
    }

    int bestRate(int n, int what) {
        if (!in(n, 1, 40) || !in(what, 0, 1)) {
            return -1;
        }
        int best = -1;
        int most = -1;
        for (int rate = 0; rate <= 100; rate++) {
            State s = now.copy();
            s.rate = rate;
            int paid = s.go(n, false).paid() - now.paid();
            if (paid > most) {
                most = paid;
                best = rate;
            }
        }
        return what == 0 ? best : most;
    }

    int worthless() {
        int bits = 0;
        for (int t = 0; t < now.thoughts.size(); t++) {
            if (now.thoughts.get(t).state == 0) {
                int owner = now.thoughts.get(t).owner;
                State with = now.copy().go(20, false);
                State without = now.copy();
                without.thoughts.remove(t);
                without.go(20, false);
                bits |= without.tax(owner) < with.tax(owner) ? 1 << t : 0;
            }
        }
        return bits;
    }

    int share(int one, int other, int what) {
        if (!isThought(one) || !isThought(other) || !in(what, 0, 1)) {
            return -1;
        }
        Thought a = now.thoughts.get(one);
        Thought b = now.thoughts.get(other);
        if (a.owner == b.owner) {
            return -1;
        }
        int due = Math.max(a.worth, b.worth) * now.rate / 100;
        int first = due * a.worth / (a.worth + b.worth);
        return what == 0 ? first : due - first;
    }

    int chain(int readers) {
        if (readers < 0 || readers >> now.readers.size() != 0) {
            return -1;
        }
        List<Integer> skills = new ArrayList<>();
        for (int r = 0; r < now.readers.size(); r++) {
            if ((readers & 1 << r) != 0) {
                skills.add(now.readers.get(r).skill);
            }
        }
        Collections.sort(skills);
        int left = 100;
        for (int skill : skills) {
            left = left * skill / 10;
        }
        return left;
    }

    List<Integer> allRests() {
        int all = now.thoughts.stream().filter(t -> t.state == 1).mapToInt(t -> t.worth).sum();
        int[][] tax = {{all / 2 * now.rate / 100, 0}, {all * now.rate / 100, all / 2 * now.rate / 100}};
        List<Integer> rests = new ArrayList<>();
        for (int s = 0; s < 2; s++) {
            for (int r = 0; r < 2; r++) {
                boolean street = -tax[s][r] - 5 * (1 - s) >= -tax[1 - s][r] - 5 * s;
                boolean reader = tax[s][r] - 3 * (1 - r) >= tax[s][1 - r] - 3 * r;
                if (street && reader) {
                    rests.add(10 * s + r);
                }
            }
        }
        return rests;
    }

    int rests() {
        return allRests().size();
    }

    int rest(int k) {
        return k < 0 ? -1 : k >= rests() ? -2 : allRests().get(k);
    }

    int first() {
        if (now.men.isEmpty()) {
            return -1;
        }
        int best = -2;
        int most = 0;
        for (int m = 0; m < now.men.size(); m++) {
            int worth = now.heldBy(m).stream().mapToInt(t -> t.worth).sum();
            if (worth > most) {
                most = worth;
                best = m;
            }
        }
        return best;
    }

    int farthing(int worth) {
        for (int rate = 1; in(worth, 1, 99) && rate <= 100; rate++) {
            if (worth * rate / 100 >= 1) {
                return rate;
            }
        }
        return -1;
    }

    int enough(int man) {
        if (!isMan(man)) {
            return -1;
        }
        int round = now.men.get(man).round;
        for (int more = 0; now.men.get(man).dull + more <= 9; more++) {
            State s = now.copy();
            s.men.get(man).dull += more;
            if (round < 0 || s.heldBy(man).stream().noneMatch(t -> s.reads(t, round, false))) {
                return more;
            }
        }
        return -2;
    }

    int vote(int n, int rate, int what) {
        if (!in(n, 1, 40) || !in(rate, 0, 100) || !in(what, 0, 1)) {
            return -1;
        }
        State by = now.copy();
        by.rate = rate;
        by.go(n, false);
        State asIs = now.copy().go(n, false);
        int many = 0;
        for (int m = 0; m < now.men.size(); m++) {
            int more = by.tax(m) - asIs.tax(m);
            many += what == 0 && more < 0 || what == 1 && more > 0 ? 1 : 0;
        }
        return many;
    }

    int whose(int worth, int tongue) {
        if (!in(worth, 1, 99) || !in(tongue, 0, 3)) {
            return -1;
        }
        int bits = 0;
        for (int m = 0; m < now.men.size(); m++) {
            bits |= now.heldBy(m).stream().anyMatch(t -> t.worth == worth && t.tongue == tongue) ? 1 << m : 0;
        }
        return bits;
    }

    int debtor() {
        int best = -2;
        int most = 0;
        for (int m = 0; m < now.men.size(); m++) {
            if (now.men.get(m).owed > most) {
                most = now.men.get(m).owed;
                best = m;
            }
        }
        return best;
    }

    int nextRead(int thought) {
        if (!isThought(thought)) {
            return -1;
        }
        State s = now.copy();
        s.thoughts.get(thought).read = 0;
        for (int n = 1; n <= 99; n++) {
            if (s.go(1, false).thoughts.get(thought).read == 1) {
                return n;
            }
        }
        return -2;
    }

    int richest(int n) {
        if (!in(n, 0, 99) || now.men.isEmpty()) {
            return -1;
        }
        State s = now.copy().go(n, false);
        int best = 0;
        for (int m = 1; m < s.men.size(); m++) {
            best = s.men.get(m).purse > s.men.get(best).purse ? m : best;
        }
        return best;
    }

    int bits(int holder, boolean hidden) {
        int bits = 0;
        for (int i = 0; i < now.thoughts.size(); i++) {
            Thought t = now.thoughts.get(i);
            bits |= t.state == 1 && (hidden ? t.holder != t.owner : t.holder == holder) ? 1 << i : 0;
        }
        return bits;
    }

    int holds(int man) {
        return isMan(man) ? bits(man, false) : -1;
    }

    int hidden() {
        return bits(0, true);
    }

    int find(int weeks, int thought, boolean isRead) {
        if (!in(weeks, 1, 40) || !isThought(thought) || found.size() == 24) {
            return -1;
        }
        found.add(new Find(weeks, thought, isRead, -1));
        return found.size() - 1;
    }

    int strike(int target) {
        if (!in(target, 0, found.size() - 1) || found.size() == 24) {
            return -1;
        }
        found.add(new Find(0, 0, false, target));
        return found.size() - 1;
    }

    boolean known(int n) {
        if (!in(n, -1, found.size())) {
            return false;
        }
        known = n;
        return true;
    }

    boolean isStruck(int i, int size) {
        for (int k = i + 1; k < size; k++) {
            if (found.get(k).strikes == i && !isStruck(k, size)) {
                return true;
            }
        }
        return false;
    }

    int skills(int reader) {
        if (!isReader(reader)) {
            return -1;
        }
        int size = known < 0 ? found.size() : known;
        int bits = 0;
        for (int skill = 0; skill < 10; skill++) {
            boolean all = true;
            for (int i = 0; i < size; i++) {
                Find f = found.get(i);
                if (f.strikes < 0 && !isStruck(i, size)) {
                    State s = told.copy();
                    s.readers.get(reader).skill = skill;
                    s.go(f.weeks, false);
                    all &= f.isRead == (s.thoughts.get(f.thought).read == 1);
                }
            }
            bits |= all ? 1 << skill : 0;
        }
        return bits;
    }

    int chance(int seed, int n, int paid) {
        if (seed < 0 || !in(n, 1, 99) || !in(paid, 0, 999)) {
            return -1;
        }
        long number = seed;
        int times = 0;
        for (int i = 0; i < 10; i++) {
            State s = now.copy();
            s.number = number;
            s.go(n, true);
            number = s.number;
            times += s.paid() - now.paid() >= paid ? 1 : 0;
        }
        return times;
    }

    int tried(int what, int i, int n) {
        if (!in(what, 0, 4) || !in(n, 0, 99) || (what == 2 ? !isMan(i) : i != 0)) {
            return -1;
        }
        State s = now.copy();
        switch (what) {
            case 0 -> s.men.forEach(m -> m.wiles = 0);
            case 1 -> s.men.forEach(m -> m.dull = 0);
            case 2 -> s.thoughts.removeIf(t -> t.state == 0 && t.owner == i);
            case 3 -> s.readers.forEach(r -> r.tongues = 15);
            default -> s.readers.forEach(r -> r.skill = 9);
        }
        return s.go(n, false).paid() - now.paid();
    }

    int undo() {
        if (before.isEmpty()) {
            return -1;
        }
        now = before.remove(before.size() - 1);
        return before.size();
    }

    int keep() {
        image = now.copy();
        return now.week;
    }

    int back() {
        if (image == null) {
            return -1;
        }
        now = image.copy();
        before.clear();
        return now.week;
    }

    int count(int what) {
        if (!in(what, 0, 12)) {
            return -1;
        }
        return new int[] {now.men.size(), now.thoughts.size(), now.readers.size(), now.knots, now.week, now.rate,
            now.states(1), now.states(2), now.paid(), now.owed(), found.size(), known < 0 ? found.size() : known,
            before.size()}[what];
    }
}
