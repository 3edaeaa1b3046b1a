import java.util.ArrayList;
import java.util.HashMap;
import java.util.HashSet;
import java.util.List;
import java.util.Map;
import java.util.Random;
import java.util.Set;

/**
 * Drawn runs of calls (always the same ones, unless another first seed and number of runs are given), each answer
 * compared with that of a model, which follows the document by other means: trees of elements, a list of all threads,
 * each with its whole past, and sets of what may come behind an element.
 */
public final class ModelRuns {
    private static final int MOST_THREADS = 4000;
    private static final Map<String, Integer> seen = new HashMap<>();
    private static int wrong = 0;

    public static void main(String[] args) {
        long first = args.length > 0 ? Long.parseLong(args[0]) : 1;
        int runs = args.length > 1 ? Integer.parseInt(args[1]) : 6000;
        for (int i = 0; i < runs && wrong < 10; i++) {
            new Run(first + i).go();
        }
        for (String due : List.of("-1000", "-1001", "-1002", "-1003", "-1004", "fault of a definition", "defined",
                "-2000", "-2001", "-2002", "-2003", "-2004", "-2005", "fault of a text", "expanded", "means one",
                "all of an object's calls")) {
            if (seen.getOrDefault(due, 0) == 0 && args.length == 0) {
                wrong++;
                System.out.println("no run came to: " + due);
            }
        }
        if (args.length > 0) {
            System.out.println(seen);
        }
        System.out.println(wrong == 0 ? "all answers are the model's" : wrong + " answers are not the model's");
        if (wrong != 0) {
            System.exit(1);
        }
    }

    private static void count(String what) {
        seen.merge(what, 1, Integer::sum);
    }

    // ---- the model ----

    private static final class Fault extends RuntimeException {
        private static final long serialVersionUID = 1L;
        final int at;

        Fault(int at) {
            this.at = at;
        }
    }

    private static final class Failure extends RuntimeException {
        private static final long serialVersionUID = 1L;
        final int code;

        Failure(int code) {
            this.code = code;
        }
    }

    private static final class TooManyThreads extends RuntimeException {
        private static final long serialVersionUID = 1L;
    }

    private interface Node { }

    private record Literal(int code) implements Node { }

    private record Bracket(int opening, List<Node> inside) implements Node { }

    private record Variable(String word, String kind) implements Node { }

    private static final class Repetition implements Node {
        List<Node> inside;
        int separator;
        int mark;
    }

    private record Arm(List<Node> pattern, List<Node> body) { }

    private record Definition(String name, List<Arm> arms) { }

    private record Token(int code, int mark) { }

    private static int wordCode(String word) {
        int digits = 0;
        for (char c : word.toCharArray()) {
            digits = digits * 27 + (c - 'a' + 1);
        }
        return 1000 + digits;
    }

    private static boolean word(int code) {
        return code > 1000;
    }

    private static boolean number(int code) {
        return code >= 300 && code <= 399;
    }

    private static boolean opening(int code) {
        return code == '(' || code == '[' || code == '{';
    }

    private static boolean closing(int code) {
        return code == ')' || code == ']' || code == '}';
    }

    private static int closes(int opening) {
        return opening == '(' ? ')' : opening == '[' ? ']' : '}';
    }

    private static final class Parser {
        final String text;
        int at = 0;
        int depth = 0;
        int repetitions = 0;
        String read = "";

        Parser(String text) {
            this.text = text;
        }

        int place() {
            while (at < text.length() && text.charAt(at) == ' ') {
                at++;
            }
            return at;
        }

        boolean ended() {
            return place() == text.length();
        }

        /** Looks at the next token; 0 at the end. */
        int peek() {
            int from = place();
            if (from == text.length()) {
                read = "";
                return 0;
            }
            for (String row : List.of("[a-z]+", "[0-9]+", "[^a-z0-9]")) {
                java.util.regex.Matcher m = java.util.regex.Pattern.compile(row).matcher(text);
                m.region(from, text.length());
                if (m.lookingAt()) {
                    read = m.group();
                }
            }
            if (read.matches("[a-z]{1,3}")) {
                return wordCode(read);
            }
            if (read.matches("0|[1-9][0-9]?")) {
                return 300 + Integer.parseInt(read);
            }
            if (read.matches("[-+*,;=:!?>$()\\[\\]{}]") && !read.equals("-")) {
                return read.charAt(0);
            }
            throw new Fault(from);
        }

        int take(boolean allowed) {
            int code = peek();
            if (!allowed || code == 0) {
                throw new Fault(place());
            }
            at += read.length();
            return code;
        }

        void take(int code) {
            take(peek() == code);
        }

        Definition definition() {
            take(word(peek()));
            String name = read;
            List<Arm> arms = new ArrayList<>();
            do {
                if (!arms.isEmpty()) {
                    take(peek() == ';' && arms.size() < 3);
                }
                repetitions = 0;
                take(peek() == '(');
                List<Node> pattern = nodes('(', 0, true);
                take(peek() == '{');
                arms.add(new Arm(pattern, nodes('{', 0, false)));
            } while (peek() != 0);
            return new Definition(name, arms);
        }

        /** What is in the bracket that was just read, and its closing one. */
        List<Node> nodes(int bracket, int around, boolean pattern) {
            depth++;
            List<Node> nodes = new ArrayList<>();
            while (!closing(peek())) {
                if (peek() == '$') {
                    take('$');
                    nodes.add(word(peek()) ? variable(pattern) : repetition(around, pattern));
                } else if (opening(peek())) {
                    int own = take(depth < 10);
                    nodes.add(new Bracket(own, nodes(own, around, pattern)));
                } else {
                    nodes.add(new Literal(take(true)));
                }
            }
            take(peek() == closes(bracket));
            depth--;
            return nodes;
        }

        Node variable(boolean pattern) {
            take(true);
            String word = read;
            if (!pattern) {
                return new Variable(word, "");
            }
            take(':');
            peek();
            take(Set.of("id", "num", "tt", "ex").contains(read));
            return new Variable(word, read);
        }

        Node repetition(int around, boolean pattern) {
            take(peek() == '(' && around < 2 && depth < 10 && !(pattern && repetitions == 4));
            repetitions += pattern ? 1 : 0;
            Repetition own = new Repetition();
            own.inside = nodes('(', around + 1, pattern);
            int next = peek();
            if (next == '*' || next == '+' || next == '?') {
                own.mark = take(true);
            } else {
                own.separator = take(!opening(next) && !closing(next) && next != '$');
                own.mark = take(peek() == '*' || peek() == '+');
            }
            return own;
        }

        /** A text that is to be expanded: brackets alone count. */
        List<Token> tokens() {
            List<Token> tokens = new ArrayList<>();
            List<Integer> open = new ArrayList<>();
            while (peek() != 0) {
                int code = peek();
                if (opening(code)) {
                    take(open.size() < 10);
                    open.add(closes(code));
                } else if (closing(code)) {
                    take(!open.isEmpty() && open.get(open.size() - 1) == code);
                    open.remove(open.size() - 1);
                } else {
                    take(true);
                }
                tokens.add(new Token(code, 0));
            }
            if (!open.isEmpty()) {
                throw new Fault(text.length());
            }
            return tokens;
        }
    }

    // ---- checks ----

    private static final class Checks {
        /** For each word of a fragment the repetitions around it, from outside. */
        final Map<String, List<Repetition>> around = new HashMap<>();
        boolean twice = false;
        boolean nothing = false;
        boolean loose = false;
        boolean body = false;

        int of(Arm arm) {
            collect(arm.pattern, List.of());
            if (twice) {
                return -1000;
            }
            if (nothing) {
                return -1001;
            }
            follow(arm.pattern, Set.of((int) ')'));
            if (loose) {
                return -1002;
            }
            uses(arm.body, 0);
            return body ? -1003 : 0;
        }

        void collect(List<Node> nodes, List<Repetition> outer) {
            for (Node node : nodes) {
                if (node instanceof Variable v) {
                    twice |= around.put(v.word, outer) != null;
                } else if (node instanceof Bracket b) {
                    collect(b.inside, outer);
                } else if (node instanceof Repetition r) {
                    nothing |= r.inside.stream().allMatch(Checks::skippable);
                    List<Repetition> more = new ArrayList<>(outer);
                    more.add(r);
                    collect(r.inside, more);
                }
            }
        }

        static boolean skippable(Node node) {
            return node instanceof Repetition r && r.mark != '+';
        }

        /** What a row of elements begins with, if then comes the given. A fragment counts as 1. */
        static Set<Integer> begin(List<Node> nodes, Set<Integer> then) {
            if (nodes.isEmpty()) {
                return then;
            }
            Set<Integer> all = new HashSet<>();
            Node node = nodes.get(0);
            if (node instanceof Literal l) {
                all.add(l.code);
            } else if (node instanceof Bracket b) {
                all.add(b.opening);
            } else if (node instanceof Variable) {
                all.add(1);
            } else if (node instanceof Repetition r) {
                all.addAll(begin(r.inside, Set.of()));
            }
            if (skippable(node)) {
                all.addAll(begin(nodes.subList(1, nodes.size()), then));
            }
            return all;
        }

        void follow(List<Node> nodes, Set<Integer> then) {
            for (int i = 0; i < nodes.size(); i++) {
                Set<Integer> behind = begin(nodes.subList(i + 1, nodes.size()), then);
                Node node = nodes.get(i);
                if (node instanceof Variable v && v.kind.equals("ex")) {
                    loose |= !Set.of((int) ',', (int) ';', (int) ')', (int) ']', (int) '}').containsAll(behind);
                } else if (node instanceof Bracket b) {
                    follow(b.inside, Set.of(closes(b.opening)));
                } else if (node instanceof Repetition r) {
                    Set<Integer> last = new HashSet<>(behind);
                    if (r.separator != 0) {
                        last.add(r.separator);
                    } else if (r.mark != '?') {
                        last.addAll(begin(r.inside, Set.of()));
                    }
                    follow(r.inside, last);
                }
            }
        }

        int uses(List<Node> nodes, int depth) {
            int uses = 0;
            for (Node node : nodes) {
                if (node instanceof Variable v) {
                    uses++;
                    body |= !around.containsKey(v.word) || around.get(v.word).size() != depth;
                } else if (node instanceof Bracket b) {
                    uses += uses(b.inside, depth);
                } else if (node instanceof Repetition r) {
                    int own = uses(r.inside, depth + 1);
                    body |= own == 0;
                    uses += own;
                }
            }
            return uses;
        }
    }

    // ---- matching ----

    /** A round of a repetition, or the whole pattern: what its fragments took, and its repetitions' rounds. */
    private static final class Round {
        final Map<String, int[]> taken = new HashMap<>();
        final Map<Repetition, List<Round>> rounds = new HashMap<>();

        Round copy() {
            Round copy = new Round();
            copy.taken.putAll(taken);
            for (Map.Entry<Repetition, List<Round>> e : rounds.entrySet()) {
                List<Round> list = new ArrayList<>();
                for (Round round : e.getValue()) {
                    list.add(round.copy());
                }
                copy.rounds.put(e.getKey(), list);
            }
            return copy;
        }
    }

    /** Where in a row of elements; inside of what, and where that is. */
    private record Spot(List<Node> row, int next, Node owner, Spot outer) {
        Spot on() {
            return new Spot(row, next + 1, owner, outer);
        }
    }

    /** A thread that stands: before the end (what is null), or a token (code), or a fragment. */
    private record Thread(Spot spot, Round past, int code, Variable fragment, boolean separator) { }

    private static final class Match {
        final List<Token> tokens;

        Match(List<Token> tokens) {
            this.tokens = tokens;
        }

        private Round roundNow(Round whole, Spot spot) {
            List<Repetition> path = new ArrayList<>();
            for (Spot s = spot; s != null; s = s.outer) {
                if (s.owner instanceof Repetition r) {
                    path.add(0, r);
                }
            }
            Round round = whole;
            for (Repetition r : path) {
                List<Round> rounds = round.rounds.get(r);
                round = rounds.get(rounds.size() - 1);
            }
            return round;
        }

        private void begin(Repetition r, Spot at, Round past, List<Thread> out) {
            Round own = past.copy();
            roundNow(own, at).rounds.get(r).add(new Round());
            come(new Spot(r.inside, 0, r, at), own, out);
        }

        void come(Spot spot, Round past, List<Thread> out) {
            if (out.size() > MOST_THREADS) {
                throw new TooManyThreads();
            }
            if (spot.next == spot.row.size()) {
                if (spot.owner instanceof Repetition r) {
                    come(spot.outer.on(), past.copy(), out);
                    if (r.mark != '?' && r.separator != 0) {
                        out.add(new Thread(spot, past, r.separator, null, true));
                    } else if (r.mark != '?') {
                        begin(r, spot.outer, past, out);
                    }
                } else {
                    int code = spot.owner instanceof Bracket b ? closes(b.opening) : 0;
                    out.add(new Thread(spot, past, code, null, false));
                }
                return;
            }
            Node node = spot.row.get(spot.next);
            if (node instanceof Literal l) {
                out.add(new Thread(spot, past, l.code, null, false));
            } else if (node instanceof Bracket b) {
                out.add(new Thread(spot, past, b.opening, null, false));
            } else if (node instanceof Variable v) {
                out.add(new Thread(spot, past, 0, v, false));
            } else if (node instanceof Repetition r) {
                Round own = past.copy();
                roundNow(own, spot).rounds.put(r, new ArrayList<>());
                if (r.mark != '+') {
                    come(spot.on(), own.copy(), out);
                }
                begin(r, spot, own, out);
            }
        }

        void stepOver(Thread t, List<Thread> out) {
            Spot spot = t.spot;
            if (t.separator) {
                begin((Repetition) spot.owner, spot.outer, t.past, out);
            } else if (spot.next == spot.row.size()) {
                come(spot.outer.on(), t.past, out);
            } else if (spot.row.get(spot.next) instanceof Bracket b) {
                come(new Spot(b.inside, 0, b, spot), t.past, out);
            } else {
                come(spot.on(), t.past, out);
            }
        }

        static boolean fits(Variable v, int code) {
            return switch (v.kind) {
                case "id" -> word(code);
                case "num" -> number(code);
                case "tt" -> !closing(code);
                default -> word(code) || number(code) || code == '(';
            };
        }

        /** What the pattern took, or null if it does not match. */
        Round of(List<Node> pattern, int from, int to) {
            List<Thread> threads = new ArrayList<>();
            come(new Spot(pattern, 0, null, null), new Round(), threads);
            int at = from;
            while (at < to) {
                int code = tokens.get(at).code;
                List<Thread> fitting = new ArrayList<>();
                List<Thread> stepping = new ArrayList<>();
                for (Thread t : threads) {
                    if (t.fragment != null && fits(t.fragment, code)) {
                        fitting.add(t);
                    } else if (t.fragment == null && t.code == code) {
                        stepping.add(t);
                    }
                }
                if (fitting.size() > 1 || fitting.size() == 1 && !stepping.isEmpty()) {
                    throw new Failure(-2002);
                }
                threads = new ArrayList<>();
                int behind = at + 1;
                if (fitting.size() == 1) {
                    Thread t = fitting.get(0);
                    behind = behindTaken(t.fragment, at, to);
                    if (behind < 0) {
                        return null;
                    }
                    Round past = t.past.copy();
                    roundNow(past, t.spot).taken.put(t.fragment.word, new int[] {at, behind});
                    come(t.spot.on(), past, threads);
                }
                for (Thread t : stepping) {
                    stepOver(t, threads);
                }
                if (threads.isEmpty()) {
                    return null;
                }
                at = behind;
            }
            List<Thread> ended = new ArrayList<>();
            for (Thread t : threads) {
                if (t.fragment == null && t.code == 0) {
                    ended.add(t);
                }
            }
            if (ended.size() > 1) {
                throw new Failure(-2002);
            }
            return ended.isEmpty() ? null : ended.get(0).past;
        }

        int behindTaken(Variable v, int at, int to) {
            if (v.kind.equals("ex")) {
                for (int end = to; end > at; end--) {
                    if (expression(at, end, 0)) {
                        return end;
                    }
                }
                return -1;
            }
            return v.kind.equals("tt") ? behindTree(tokens, at) : at + 1;
        }

        /** Whether all of from .. to - 1 is one expression, in so many brackets of it. */
        boolean expression(int from, int to, int depth) {
            int open = 0;
            for (int i = from; i < to; i++) {
                int code = tokens.get(i).code;
                open += opening(code) ? 1 : closing(code) ? -1 : 0;
                if (open < 0) {
                    return false;
                }
                if (open == 0 && (code == '+' || code == '*')) {
                    return operand(from, i, depth) && expression(i + 1, to, depth);
                }
            }
            return operand(from, to, depth);
        }

        boolean operand(int from, int to, int depth) {
            if (to <= from) {
                return false;
            }
            int code = tokens.get(from).code;
            if (to - from == 1) {
                return word(code) || number(code);
            }
            return code == '(' && depth < 6 && behindTree(tokens, from) == to
                    && expression(from + 1, to - 1, depth + 1);
        }
    }

    private static int behindTree(List<Token> tokens, int at) {
        int open = 0;
        int i = at;
        do {
            int code = tokens.get(i).code;
            open += opening(code) ? 1 : closing(code) ? -1 : 0;
            i++;
        } while (open > 0);
        return i;
    }

    // ---- what comes from a body ----

    private static final class Output {
        final List<Token> source;
        final Map<String, List<Repetition>> around;
        final Map<String, String> kinds = new HashMap<>();
        final Round match;
        final int number;
        final List<Token> out = new ArrayList<>();

        Output(Arm arm, Map<String, List<Repetition>> around, Round match, List<Token> source, int number) {
            this.around = around;
            this.match = match;
            this.source = source;
            this.number = number;
            kinds(arm.pattern);
            parts(arm.body, List.of());
        }

        void kinds(List<Node> nodes) {
            for (Node node : nodes) {
                if (node instanceof Variable v) {
                    kinds.put(v.word, v.kind);
                } else if (node instanceof Bracket b) {
                    kinds(b.inside);
                } else if (node instanceof Repetition r) {
                    kinds(r.inside);
                }
            }
        }

        /** The round of the pattern that the word's fragment is in, as far out as rounds are given. */
        Round at(String word, List<Integer> rounds) {
            Round round = match;
            for (int i = 0; i < rounds.size(); i++) {
                round = round.rounds.get(around.get(word).get(i)).get(rounds.get(i));
            }
            return round;
        }

        void parts(List<Node> nodes, List<Integer> rounds) {
            for (Node node : nodes) {
                if (node instanceof Literal l) {
                    out.add(new Token(l.code, number));
                } else if (node instanceof Bracket b) {
                    out.add(new Token(b.opening, number));
                    parts(b.inside, rounds);
                    out.add(new Token(closes(b.opening), number));
                } else if (node instanceof Variable v) {
                    int[] taken = at(v.word, rounds).taken.get(v.word);
                    boolean brackets = kinds.get(v.word).equals("ex") && taken[1] - taken[0] > 1;
                    if (brackets) {
                        out.add(new Token('(', number));
                    }
                    out.addAll(source.subList(taken[0], taken[1]));
                    if (brackets) {
                        out.add(new Token(')', number));
                    }
                } else if (node instanceof Repetition r) {
                    repetition(r, rounds);
                }
            }
        }

        void repetition(Repetition r, List<Integer> rounds) {
            Set<Integer> numbers = new HashSet<>();
            for (String word : words(r.inside)) {
                numbers.add(at(word, rounds).rounds.get(around.get(word).get(rounds.size())).size());
            }
            if (numbers.size() != 1) {
                throw new Failure(-2003);
            }
            int most = numbers.iterator().next();
            for (int i = 0; i < most; i++) {
                if (i > 0 && r.separator != 0) {
                    out.add(new Token(r.separator, number));
                }
                List<Integer> more = new ArrayList<>(rounds);
                more.add(i);
                parts(r.inside, more);
            }
        }

        static List<String> words(List<Node> nodes) {
            List<String> words = new ArrayList<>();
            for (Node node : nodes) {
                if (node instanceof Variable v) {
                    words.add(v.word);
                } else if (node instanceof Bracket b) {
                    words.addAll(words(b.inside));
                } else if (node instanceof Repetition r) {
                    words.addAll(words(r.inside));
                }
            }
            return words;
        }
    }

    private static final class Model {
        final List<Definition> definitions = new ArrayList<>();
        List<Token> outcome = new ArrayList<>();
        List<Integer> used = new ArrayList<>();

        int define(String text) {
            Definition definition;
            try {
                definition = new Parser(text).definition();
            } catch (Fault f) {
                return -1 - f.at;
            }
            for (Arm arm : definition.arms) {
                int failed = new Checks().of(arm);
                if (failed != 0) {
                    return failed;
                }
            }
            if (definitions.size() == 5) {
                return -1004;
            }
            definitions.add(definition);
            return definitions.size();
        }

        int expand(String text) {
            used = new ArrayList<>();
            outcome = new ArrayList<>();
            try {
                List<Token> tokens = new Parser(text).tokens();
                int at = 0;
                while (at + 2 < tokens.size()) {
                    if (word(tokens.get(at).code) && tokens.get(at + 1).code == '!'
                            && opening(tokens.get(at + 2).code)) {
                        tokens = replace(tokens, at);
                    } else {
                        at++;
                    }
                }
                outcome = tokens;
                return tokens.size();
            } catch (Fault f) {
                return -1 - f.at;
            } catch (Failure f) {
                return f.code;
            }
        }

        List<Token> replace(List<Token> tokens, int at) {
            Definition definition = null;
            for (Definition d : definitions) {
                definition = wordCode(d.name) == tokens.get(at).code ? d : definition;
            }
            if (definition == null) {
                throw new Failure(-2000);
            }
            int behind = behindTree(tokens, at + 2);
            for (int i = 0; i < definition.arms.size(); i++) {
                Arm arm = definition.arms.get(i);
                Checks checks = new Checks();
                checks.collect(arm.pattern, List.of());
                Round round = new Match(tokens).of(arm.pattern, at + 3, behind - 1);
                if (round == null) {
                    continue;
                }
                if (used.size() == 10) {
                    throw new Failure(-2004);
                }
                List<Token> next = new ArrayList<>(tokens.subList(0, at));
                next.addAll(new Output(arm, checks.around, round, tokens, used.size() + 1).out);
                next.addAll(tokens.subList(behind, tokens.size()));
                if (next.size() > 150) {
                    throw new Failure(-2005);
                }
                used.add(i);
                return next;
            }
            throw new Failure(-2001);
        }

        int means(int k) {
            if (k < 0 || k >= outcome.size() || !word(outcome.get(k).code)) {
                return -1;
            }
            // Read from the left: the binders that are in force, and where each open bracket began to add its own.
            List<Integer> inForce = new ArrayList<>();
            List<Integer> begun = new ArrayList<>();
            for (int i = 0; i <= k; i++) {
                int code = outcome.get(i).code;
                if (opening(code)) {
                    begun.add(inForce.size());
                } else if (closing(code)) {
                    int size = begun.remove(begun.size() - 1);
                    inForce.subList(size, inForce.size()).clear();
                } else if (word(code) && i > 0 && outcome.get(i - 1).code == wordCode("let")) {
                    inForce.add(i);
                }
            }
            for (int i = inForce.size() - 1; i >= 0; i--) {
                if (outcome.get(inForce.get(i)).equals(outcome.get(k))) {
                    return inForce.get(i);
                }
            }
            return -1;
        }
    }

    // ---- drawn texts ----

    private static final class Run {
        final long seed;
        final Random random;
        final Calls program = new Calls();
        final Model model = new Model();
        final StringBuilder told = new StringBuilder();
        final Map<String, Integer> depths = new HashMap<>();
        int names = 0;

        Run(long seed) {
            this.seed = seed;
            this.random = new Random(seed * 7919);
        }

        /** The run ends, wherever it is, where the object has answered all calls that are promised. */
        void go() {
            try {
                goOn();
            } catch (Calls.Spent e) {
                count("all of an object's calls");
            }
        }

        void goOn() {
            int steps = 4 + random.nextInt(14);
            for (int i = 0; i < steps && wrong < 10; i++) {
                if (random.nextInt(3) == 0 || i < 2) {
                    define(mutated(definition(), 12));
                } else {
                    expand(mutated(text(), 9));
                }
            }
        }

        void due(String call, int got, int want) {
            if (got != want) {
                wrong++;
                System.out.println("seed " + seed + ": " + call + " answered " + got + ", due is " + want + told);
            }
        }

        void type(String text) {
            for (int i = 0; i < text.length();) {
                int n = Math.min(1 + random.nextInt(4), text.length() - i);
                int word = random.nextInt(256);
                for (int j = 0; j < n; j++) {
                    word = word << 8 | text.charAt(i + j);
                }
                if (random.nextInt(20) == 0) {
                    refusedType(word, n);
                }
                due("type", program.type(word, n) ? 1 : 0, 1);
                i += n;
            }
            if (text.length() > 116) {
                due("type of too many", program.type(0x2B2B2B2B, 4) ? 1 : 0, 0);
            }
        }

        void refusedType(int word, int n) {
            if (random.nextBoolean()) {
                due("type of a wrong number", program.type(word, pick(-1, 0, 5, 257, Integer.MIN_VALUE)) ? 1 : 0, 0);
            } else {
                int place = 8 * random.nextInt(n);
                int spoilt = word & ~(255 << place) | pick(0, 31, 127, 128, 255) << place;
                due("type of a wrong character", program.type(spoilt, n) ? 1 : 0, 0);
            }
        }

        void define(String text) {
            type(text);
            told.append("\n  define ").append(text);
            int want = model.define(text);
            count(want > 0 ? "defined" : want > -1000 ? "fault of a definition" : "" + want);
            due("define", program.define(), want);
            due("definitions", program.definitions(), model.definitions.size());
            for (int k = -1; k <= 5; k++) {
                boolean there = k >= 0 && k < model.definitions.size();
                due("arms " + k, program.arms(k), there ? model.definitions.get(k).arms.size() : -1);
            }
            due("expansions behind define", program.expansions(), model.used.size());
            due("token 0 behind define", program.token(0), model.outcome.isEmpty() ? -1 : model.outcome.get(0).code);
        }

        void expand(String text) {
            told.append("\n  expand ").append(text);
            int want;
            try {
                want = model.expand(text);
            } catch (TooManyThreads e) {
                count("too many threads for the model");
                return;
            }
            type(text);
            count(want >= 0 ? "expanded" : want > -1000 ? "fault of a text" : "" + want);
            due("expand", program.expand(), want);
            due("expansions", program.expansions(), model.used.size());
            for (int k = -1; k <= 12; k++) {
                boolean there = k >= 1 && k <= model.used.size();
                due("used " + k, program.used(k), there ? model.used.get(k - 1) : -1);
            }
            for (int k = -1; k <= model.outcome.size(); k++) {
                boolean there = k >= 0 && k < model.outcome.size();
                due("token " + k, program.token(k), there ? model.outcome.get(k).code : -1);
                due("mark " + k, program.mark(k), there ? model.outcome.get(k).mark : -1);
                int meant = model.means(k);
                due("means " + k, program.means(k), meant);
                count(meant >= 0 && meant != k ? "means one" : "means none or itself");
            }
        }

        String pick(String... of) {
            return of[random.nextInt(of.length)];
        }

        String mutated(String text, int seldom) {
            StringBuilder out = new StringBuilder(text);
            while (random.nextInt(seldom) == 0) {
                int at = random.nextInt(out.length() + 1);
                if (random.nextInt(3) == 0 && at < out.length()) {
                    out.deleteCharAt(at);
                } else {
                    out.insert(at, pick("$", "(", ")", "[", "}", "{", ";", ",", "*", "+", "?", "!", "a", "let ", "12",
                            "0", ":", ":id", "A", "-", " ", "$(", "=", "$x", "((", "$x:ex", "$($x)*", "$(a)?"));
                }
            }
            return out.length() > 120 ? out.substring(0, 120) : out.toString();
        }

        String definition() {
            for (int i = 0; i < 50; i++) {
                String text = drawnDefinition();
                if (text.length() <= 120) {
                    return text;
                }
            }
            return "m(){}";
        }

        String drawnDefinition() {
            StringBuilder out = new StringBuilder(pick("m", "m", "n", "let", "a")).append(pick("", " "));
            int arms = pick(1, 1, 1, 2, 2, 3);
            for (int i = 0; i < arms; i++) {
                depths.clear();
                names = 0;
                String pattern = elements(1 + random.nextInt(3), 0, 0);
                String body = parts(1 + random.nextInt(4), 0, 0);
                out.append(i > 0 ? pick(";", " ; ") : "").append("(").append(pattern).append(")").append(pick("", " "));
                out.append("{").append(body).append("}");
            }
            return out.toString();
        }

        int pick(Integer... of) {
            return of[random.nextInt(of.length)];
        }

        String elements(int most, int inRepetitions, int inBrackets) {
            StringBuilder out = new StringBuilder();
            for (int i = 0; i < most; i++) {
                int way = random.nextInt(20);
                if (way < 8) {
                    String word = pick("x", "y", "z", "w", "v") + (random.nextInt(12) == 0 ? "" : name());
                    depths.put(word, inRepetitions);
                    String kind = pick("id", "num", "tt", "ex", "ex", "tt");
                    out.append("$").append(word).append(":").append(kind);
                    out.append(kind.equals("ex") && random.nextInt(5) > 0 ? pick(",", ";", ",") : " ");
                } else if (way < 14 && inRepetitions < 2) {
                    String inside = elements(1 + random.nextInt(2), inRepetitions + 1, inBrackets + 1);
                    String mark = pick("*", "+", "?");
                    String separator = mark.equals("?") ? "" : pick("", ",", ";", "a ", "", ",");
                    if (inside.endsWith(",") && !separator.isEmpty()) {
                        inside = inside.substring(0, inside.length() - 1);
                    }
                    out.append("$(").append(inside).append(")").append(separator).append(mark);
                } else if (way < 16 && inBrackets < 3) {
                    String bracket = pick("()", "[]", "{}");
                    out.append(bracket.charAt(0)).append(elements(random.nextInt(3), inRepetitions, inBrackets + 1));
                    out.append(bracket.charAt(1));
                } else {
                    out.append(pick("a ", "b ", ",", ";", "=", "+", "!", "7 ", "let ", ":", "a "));
                }
            }
            return out.toString();
        }

        String name() {
            return String.valueOf((char) ('a' + names++ % 26));
        }

        String parts(int most, int inRepetitions, int inBrackets) {
            StringBuilder out = new StringBuilder();
            for (int i = 0; i < most; i++) {
                int way = random.nextInt(20);
                List<String> words = new ArrayList<>();
                List<String> deeper = new ArrayList<>();
                for (String word : new java.util.TreeSet<>(depths.keySet())) {
                    (depths.get(word) == inRepetitions ? words : deeper).add(word);
                    if (depths.get(word) < inRepetitions) {
                        deeper.remove(word);
                    }
                }
                // Mostly uses in repetitions: different ones there are what can be unequal.
                if (way < (inRepetitions > 0 ? 14 : 7) && !words.isEmpty()) {
                    out.append("$").append(words.get(random.nextInt(words.size()))).append(" ");
                } else if (way < 12 && !deeper.isEmpty() && inRepetitions < 2) {
                    out.append("$(").append(parts(1 + random.nextInt(3), inRepetitions + 1, inBrackets + 1));
                    out.append(")").append(pick("", ",", ";", "a ")).append(pick("*", "+"));
                } else if (way < 13 && inBrackets < 4) {
                    String bracket = pick("()", "[]", "{}");
                    out.append(bracket.charAt(0)).append(parts(random.nextInt(3), inRepetitions, inBrackets + 1));
                    out.append(bracket.charAt(1));
                } else if (way < 15) {
                    String use = words.isEmpty() ? "a" : "$" + words.get(random.nextInt(words.size()));
                    out.append(pick("m!(", "n!(", "a!(")).append(pick("", use, use)).append(")");
                } else {
                    String bound = "let " + use(words);
                    out.append(pick("a ", "b ", ",", "let a ", "=", "+", "!", "7 ", "let ", bound, "m", "n!"));
                }
            }
            return out.toString();
        }

        String use(List<String> words) {
            return words.isEmpty() ? "b " : "$" + words.get(random.nextInt(words.size())) + " ";
        }

        String text() {
            for (int i = 0; i < 50; i++) {
                StringBuilder out = new StringBuilder();
                int most = 1 + random.nextInt(3);
                for (int j = 0; j < most; j++) {
                    boolean plain = random.nextInt(3) == 0;
                    out.append(plain ? pick("let a ", "let b=", "a ", "(a let a)", "let ", "b+", "m", "a!") : call(0));
                }
                if (out.length() <= 120) {
                    return out.toString();
                }
            }
            return "";
        }

        String call(int depth) {
            if (model.definitions.isEmpty() || random.nextInt(25) == 0) {
                return pick("m!()", "n!(a)", "a!{}", "zz![]");
            }
            Definition d = model.definitions.get(random.nextInt(model.definitions.size()));
            Arm arm = d.arms.get(random.nextInt(d.arms.size()));
            String bracket = pick("()", "()", "[]", "{}");
            return d.name + "!" + bracket.charAt(0) + derived(arm.pattern, depth) + bracket.charAt(1) + " ";
        }

        String derived(List<Node> nodes, int depth) {
            StringBuilder out = new StringBuilder();
            for (Node node : nodes) {
                if (node instanceof Literal l) {
                    out.append(shown(l.code));
                } else if (node instanceof Bracket b) {
                    out.append(shown(b.opening)).append(derived(b.inside, depth)).append(shown(closes(b.opening)));
                } else if (node instanceof Variable v) {
                    out.append(taken(v, depth));
                } else if (node instanceof Repetition r) {
                    int rounds = r.mark == '?' ? random.nextInt(2) : (r.mark == '+' ? 1 : 0) + random.nextInt(3);
                    for (int i = 0; i < rounds; i++) {
                        out.append(i > 0 && r.separator != 0 ? shown(r.separator) : "");
                        out.append(derived(r.inside, depth));
                    }
                }
            }
            return out.toString();
        }

        String taken(Variable v, int depth) {
            switch (v.kind) {
                case "id":
                    return pick("a ", "b ", "let ", "c ");
                case "num":
                    return pick("0 ", "7 ", "12 ");
                case "tt":
                    int way = random.nextInt(6);
                    return way == 0 && depth < 2 ? "(" + call(depth + 1) + ")" : way == 1 && depth < 2 ? "{let a}"
                            : pick("a ", "=", "$", "!", "(b)", "[]", "let ", "7 ", "c ");
                default:
                    return expression(random.nextInt(12) == 0 ? 8 : 2);
            }
        }

        String expression(int deep) {
            StringBuilder out = new StringBuilder();
            int operands = pick(1, 1, 2, 3);
            for (int i = 0; i < (deep > 2 ? 1 : operands); i++) {
                out.append(i > 0 ? pick("+", "*") : "");
                boolean bracket = deep > 2 || deep > 0 && random.nextInt(4) == 0;
                out.append(bracket ? "(" + expression(deep - 1) + ")" : pick("a ", "b ", "3 ", "c "));
            }
            return out + (random.nextInt(25) == 0 ? "+" : "");
        }

        static String shown(int code) {
            if (number(code)) {
                return (code - 300) + " ";
            }
            if (!word(code)) {
                return String.valueOf((char) code);
            }
            StringBuilder out = new StringBuilder();
            for (int rest = code - 1000; rest > 0; rest /= 27) {
                out.insert(0, (char) ('a' + rest % 27 - 1));
            }
            return out + " ";
        }
    }
}
