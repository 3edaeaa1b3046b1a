import java.util.Arrays;

/** Macros by example: definitions of arms, texts in which calls of them are expanded, and what each name means. */
public final class ArmExpander {
    private static final int TEXT_LIMIT = 120;
    private static final int ROW_LIMIT = 150;
    private static final int NESTING_LIMIT = 10;
    private static final int DEFINITION_LIMIT = 5;
    private static final int ARM_LIMIT = 3;
    private static final int REPETITION_LIMIT = 4;
    private static final int EXPANSION_LIMIT = 10;
    private static final int EXPRESSION_NESTING_LIMIT = 6;

    private static final int NONE = -1;
    private static final int OK = 0;
    private static final int SAME_WORD = -1000;
    private static final int MATCHES_NOTHING = -1001;
    private static final int LOOSE_EXPRESSION = -1002;
    private static final int WRONG_BODY = -1003;
    private static final int TOO_MANY_DEFINITIONS = -1004;
    private static final int NO_DEFINITION = -2000;
    private static final int NO_ARM_MATCHES = -2001;
    private static final int AMBIGUOUS = -2002;
    private static final int UNEQUAL = -2003;
    private static final int TOO_MANY_EXPANSIONS = -2004;
    private static final int TOO_MANY_TOKENS = -2005;

    private static final int NUMBER_BASE = 300;
    private static final int WORD_BASE = 1000;
    private static final int LETTER_BASE = 27;
    private static final int KIND_ID = 1247;
    private static final int KIND_NUM = 11786;
    private static final int KIND_TT = 1560;
    private static final int KIND_EX = 1159;
    private static final int LET = 9903;

    private static final String SIGNS_AND_BRACKETS = "+*,;=:!?>$()[]{}";

    private final TypedText text = new TypedText();
    private final DefinitionReader reader = new DefinitionReader();
    private final Checker checker = new Checker();
    private final Expander expander = new Expander();
    // One place more than definitions may be made: a definition is read where it will stay.
    private final Definition[] places = new Definition[DEFINITION_LIMIT + 1];
    private int count;

    public ArmExpander() {
        for (int i = 0; i < places.length; i++) {
            places[i] = new Definition();
        }
    }

    public boolean type(int word, int n) {
        return text.append(word, n);
    }

    public int define() {
        Definition candidate = places[count];
        int fault = reader.read(text, candidate);
        text.clear();
        if (fault != NONE) {
            return -1 - fault;
        }
        int failed = checker.check(candidate);
        if (failed != OK) {
            return failed;
        }
        if (count >= DEFINITION_LIMIT) {
            return TOO_MANY_DEFINITIONS;
        }
        count++;
        return count;
    }

    public int expand() {
        int fault = expander.read(text);
        text.clear();
        return fault != NONE ? -1 - fault : expander.run(places, count);
    }

    public int definitions() {
        return count;
    }

    public int arms(int k) {
        return k >= 0 && k < count ? places[k].armCount() : NONE;
    }

    public int token(int k) {
        return expander.outcome().codeAt(k);
    }

    public int mark(int k) {
        return expander.outcome().originAt(k);
    }

    public int means(int k) {
        return expander.outcome().binderOf(k);
    }

    public int expansions() {
        return expander.done();
    }

    public int used(int k) {
        return expander.armOf(k);
    }

    private static boolean isWord(int code) {
        return code > WORD_BASE;
    }

    private static boolean isNumber(int code) {
        return code >= NUMBER_BASE && code < WORD_BASE;
    }

    private static boolean isOpening(int code) {
        return code == '(' || code == '[' || code == '{';
    }

    private static boolean isClosing(int code) {
        return code == ')' || code == ']' || code == '}';
    }

    private static boolean isRepetitionMark(int code) {
        return code == '*' || code == '+' || code == '?';
    }

    private static boolean isKind(int code) {
        return code == KIND_ID || code == KIND_NUM || code == KIND_TT || code == KIND_EX;
    }

    private static int closingOf(int opening) {
        return opening == '(' ? ')' : opening == '[' ? ']' : '}';
    }

    /** What is typed, and the reading of it token by token. */
    private static final class TypedText {
        static final int END = 0;
        static final int BAD = -1;

        private final int[] characters = new int[TEXT_LIMIT];
        private int length;
        private int next;
        private int start;

        boolean append(int word, int n) {
            if (n < 1 || n > 4 || length + n > TEXT_LIMIT) {
                return false;
            }
            for (int i = 0; i < n; i++) {
                int character = byteOf(word, i);
                if (character < 32 || character > 126) {
                    return false;
                }
            }
            for (int i = n - 1; i >= 0; i--) {
                characters[length] = byteOf(word, i);
                length++;
            }
            return true;
        }

        void clear() {
            length = 0;
            next = 0;
            start = 0;
        }

        int length() {
            return length;
        }

        /** Where the token that was read last begins. */
        int start() {
            return start;
        }

        /** The code of the next token, BAD if there stands none, END behind the last one. */
        int read() {
            while (next < length && characters[next] == ' ') {
                next++;
            }
            start = next;
            if (next >= length) {
                return END;
            }
            int character = characters[next];
            next++;
            if (isLetter(character)) {
                return readWord();
            }
            if (isDigit(character)) {
                return readNumber();
            }
            return SIGNS_AND_BRACKETS.indexOf((char) character) >= 0 ? character : BAD;
        }

        private int readWord() {
            while (next < length && isLetter(characters[next])) {
                next++;
            }
            if (next - start > 3) {
                return BAD;
            }
            int digits = 0;
            for (int i = start; i < next; i++) {
                digits = digits * LETTER_BASE + characters[i] - 'a' + 1;
            }
            return WORD_BASE + digits;
        }

        private int readNumber() {
            while (next < length && isDigit(characters[next])) {
                next++;
            }
            int digits = next - start;
            if (digits > 2 || digits == 2 && characters[start] == '0') {
                return BAD;
            }
            int value = 0;
            for (int i = start; i < next; i++) {
                value = value * 10 + characters[i] - '0';
            }
            return NUMBER_BASE + value;
        }

        private static int byteOf(int word, int i) {
            return word >>> 8 * i & 255;
        }

        private static boolean isLetter(int character) {
            return character >= 'a' && character <= 'z';
        }

        private static boolean isDigit(int character) {
            return character >= '0' && character <= '9';
        }
    }

    /** The brackets that are open while a text is read. */
    private static final class Nesting {
        private final int[] places = new int[NESTING_LIMIT];
        private final int[] closings = new int[NESTING_LIMIT];
        private int depth;

        void clear() {
            depth = 0;
        }

        boolean isEmpty() {
            return depth == 0;
        }

        /** False if the bracket would be in too many others. */
        boolean open(int place, int opening) {
            if (depth >= NESTING_LIMIT) {
                return false;
            }
            places[depth] = place;
            closings[depth] = closingOf(opening);
            depth++;
            return true;
        }

        /** The place of the opening bracket, or NONE if the innermost one is of another sort or there is none. */
        int close(int closing) {
            if (depth <= 0 || closings[depth - 1] != closing) {
                return NONE;
            }
            depth--;
            return places[depth];
        }
    }

    /** The tokens of a definition, with what belongs together in it; a repetition is named by the place of its $. */
    private static final class Definition {
        private final int[] code = new int[TEXT_LIMIT];
        private final int[] partner = new int[TEXT_LIMIT];
        private final int[] around = new int[TEXT_LIMIT];
        private final int[] markPlace = new int[TEXT_LIMIT];
        private final int[] order = new int[TEXT_LIMIT];
        private final int[] armPlace = new int[ARM_LIMIT];
        private int size;
        private int armCount;

        void clear() {
            size = 0;
            armCount = 0;
        }

        /** Appends a token that is in the given repetition, or in NONE. */
        void append(int token, int repetition) {
            if (size < TEXT_LIMIT) {
                code[size] = token;
                partner[size] = NONE;
                around[size] = repetition;
                markPlace[size] = NONE;
                order[size] = NONE;
                size++;
            }
        }

        void beginArm(int place) {
            if (armCount < ARM_LIMIT) {
                armPlace[armCount] = place;
                armCount++;
            }
        }

        void join(int opening, int closing) {
            if (opening >= 0 && opening < size && closing >= 0 && closing < size) {
                partner[opening] = closing;
                partner[closing] = opening;
            }
        }

        void setMark(int repetition, int place) {
            if (repetition >= 0 && repetition < size && place >= 0 && place < size) {
                markPlace[repetition] = place;
            }
        }

        void setOrder(int repetition, int number) {
            if (repetition >= 0 && repetition < size) {
                order[repetition] = number;
            }
        }

        int name() {
            return size > 0 ? code[0] : NONE;
        }

        int armCount() {
            return armCount;
        }

        int codeAt(int place) {
            return place >= 0 && place < size ? code[place] : NONE;
        }

        int partnerOf(int bracket) {
            return bracket >= 0 && bracket < size ? partner[bracket] : NONE;
        }

        int patternStart(int arm) {
            return arm >= 0 && arm < armCount ? armPlace[arm] + 1 : 0;
        }

        /** The place of the bracket that closes the pattern. */
        int patternEnd(int arm) {
            return arm >= 0 && arm < armCount ? partner[armPlace[arm]] : 0;
        }

        int bodyStart(int arm) {
            return patternEnd(arm) + 2;
        }

        /** The place of the bracket that closes the body. */
        int bodyEnd(int arm) {
            return partnerOf(patternEnd(arm) + 1);
        }

        /** Whether a fragment (in a pattern) or a use (in a body) begins here: a $ that begins no repetition. */
        boolean startsVariable(int place) {
            return place >= 0 && place + 1 < size && code[place] == '$' && code[place + 1] != '(';
        }

        boolean startsRepetition(int place) {
            return place >= 0 && place + 1 < size && code[place] == '$' && code[place + 1] == '(';
        }

        /** The repetition whose ) stands here, or NONE. */
        int repetitionEndedAt(int place) {
            if (place < 0 || place >= size || code[place] != ')') {
                return NONE;
            }
            int start = partner[place] - 1;
            return start >= 0 && code[start] == '$' ? start : NONE;
        }

        int markOf(int repetition) {
            if (repetition < 0 || repetition >= size || markPlace[repetition] < 0) {
                return NONE;
            }
            return code[markPlace[repetition]];
        }

        int behind(int repetition) {
            if (repetition < 0 || repetition >= size || markPlace[repetition] < 0) {
                return size;
            }
            return markPlace[repetition] + 1;
        }

        /** The place of the repetition's separator, or NONE. */
        int separatorOf(int repetition) {
            if (repetition < 0 || repetition + 1 >= size) {
                return NONE;
            }
            int closing = partner[repetition + 1];
            return markPlace[repetition] == closing + 2 ? closing + 1 : NONE;
        }

        /** The innermost repetition around a place, or NONE. */
        int repetitionAround(int place) {
            return place >= 0 && place < size ? around[place] : NONE;
        }

        int repetitionsAround(int place) {
            int inner = repetitionAround(place);
            return inner == NONE ? 0 : repetitionAround(inner) == NONE ? 1 : 2;
        }

        /** The number in its pattern of a repetition that is in no other; NONE if it is in one. */
        int outerOrder(int repetition) {
            if (repetition < 0 || repetition >= size || around[repetition] != NONE) {
                return NONE;
            }
            return order[repetition];
        }

        /** The number in its pattern of the outermost repetition around a place, or NONE. */
        int orderAround(int place) {
            if (place < 0 || place >= size || around[place] < 0) {
                return NONE;
            }
            int inner = around[place];
            return around[inner] < 0 ? order[inner] : order[around[inner]];
        }

        /** The place of the fragment with the given word in the arm's pattern, or NONE. */
        int fragmentOf(int arm, int word) {
            if (arm < 0 || arm >= armCount) {
                return NONE;
            }
            int end = partner[armPlace[arm]];
            for (int i = armPlace[arm]; i < end && i + 1 < size; i++) {
                if (code[i] == '$' && code[i + 1] == word) {
                    return i;
                }
            }
            return NONE;
        }
    }

    /** Reads a definition token by token, so that the first one that may not stand where it does is found. */
    private static final class DefinitionReader {
        private static final int NAME = 0;
        private static final int PATTERN = 1;
        private static final int BODY = 2;
        private static final int ARM_END = 3;
        private static final int PART = 4;
        private static final int BEHIND_DOLLAR = 5;
        private static final int COLON = 6;
        private static final int KIND = 7;
        private static final int SEPARATOR_OR_MARK = 8;
        private static final int MARK_BEHIND_SEPARATOR = 9;

        private final Nesting nesting = new Nesting();
        private Definition into;
        private int expected;
        private int place;
        private boolean inPattern;
        private int repetitions;
        private int innermost;
        private int closed;

        /** The character at which the text is faulty as a definition, or NONE. */
        int read(TypedText text, Definition definition) {
            into = definition;
            into.clear();
            nesting.clear();
            expected = NAME;
            innermost = NONE;
            for (int i = 0; i < TEXT_LIMIT; i++) {
                int code = text.read();
                if (code == TypedText.END) {
                    break;
                }
                if (code == TypedText.BAD || !accepts(code, i)) {
                    return text.start();
                }
            }
            // Whatever is left unread here is spaces: no text has more tokens than characters.
            return expected == ARM_END ? NONE : text.length();
        }

        private boolean accepts(int code, int at) {
            place = at;
            into.append(code, innermost);
            switch (expected) {
                case NAME:
                    return acceptsIf(isWord(code), PATTERN);
                case PATTERN:
                    return acceptsPattern(code);
                case BODY:
                    inPattern = false;
                    return acceptsIf(code == '{' && nesting.open(place, code), PART);
                case ARM_END:
                    return acceptsIf(code == ';' && into.armCount() < ARM_LIMIT, PATTERN);
                case BEHIND_DOLLAR:
                    return acceptsBehindDollar(code);
                case COLON:
                    return acceptsIf(code == ':', KIND);
                case KIND:
                    return acceptsIf(isKind(code), PART);
                case SEPARATOR_OR_MARK:
                    return acceptsSeparatorOrMark(code);
                case MARK_BEHIND_SEPARATOR:
                    into.setMark(closed, place);
                    return acceptsIf(code == '*' || code == '+', PART);
                default:
                    return acceptsPart(code);
            }
        }

        private boolean acceptsIf(boolean allowed, int then) {
            expected = then;
            return allowed;
        }

        private boolean acceptsPattern(int code) {
            inPattern = true;
            repetitions = 0;
            into.beginArm(place);
            return acceptsIf(code == '(' && nesting.open(place, code), PART);
        }

        private boolean acceptsPart(int code) {
            if (code == '$') {
                return acceptsIf(true, BEHIND_DOLLAR);
            }
            if (isOpening(code)) {
                return nesting.open(place, code);
            }
            return !isClosing(code) || acceptsClosing(code);
        }

        private boolean acceptsClosing(int code) {
            int opening = nesting.close(code);
            if (opening == NONE) {
                return false;
            }
            into.join(opening, place);
            if (nesting.isEmpty()) {
                return acceptsIf(true, inPattern ? BODY : ARM_END);
            }
            closed = into.repetitionEndedAt(place);
            if (closed != NONE) {
                innermost = into.repetitionAround(closed);
                expected = SEPARATOR_OR_MARK;
            }
            return true;
        }

        private boolean acceptsBehindDollar(int code) {
            if (isWord(code)) {
                return acceptsIf(true, inPattern ? COLON : PART);
            }
            int repetition = place - 1;
            if (code != '(' || into.repetitionsAround(repetition) > 1 || !nesting.open(place, code)) {
                return false;
            }
            if (inPattern) {
                into.setOrder(repetition, repetitions);
                repetitions++;
            }
            innermost = repetition;
            return acceptsIf(repetitions <= REPETITION_LIMIT, PART);
        }

        private boolean acceptsSeparatorOrMark(int code) {
            if (isRepetitionMark(code)) {
                into.setMark(closed, place);
                return acceptsIf(true, PART);
            }
            return acceptsIf(code != '$' && !isOpening(code) && !isClosing(code), MARK_BEHIND_SEPARATOR);
        }
    }

    /** The checks of a definition that is not faulty. */
    private static final class Checker {
        private final Threads threads = new Threads();

        int check(Definition definition) {
            int failed = OK;
            for (int arm = 0; arm < definition.armCount() && failed == OK; arm++) {
                failed = checkArm(definition, arm);
            }
            return failed;
        }

        private int checkArm(Definition definition, int arm) {
            if (hasWordTwice(definition, arm)) {
                return SAME_WORD;
            }
            if (hasEmptyRepetition(definition, arm)) {
                return MATCHES_NOTHING;
            }
            if (hasLooseExpression(definition, arm)) {
                return LOOSE_EXPRESSION;
            }
            return hasWrongUse(definition, arm) || hasUselessRepetition(definition, arm) ? WRONG_BODY : OK;
        }

        private static boolean hasWordTwice(Definition definition, int arm) {
            int end = definition.patternEnd(arm);
            for (int i = definition.patternStart(arm); i < end; i++) {
                if (definition.startsVariable(i) && definition.fragmentOf(arm, definition.codeAt(i + 1)) != i) {
                    return true;
                }
            }
            return false;
        }

        private static boolean hasEmptyRepetition(Definition definition, int arm) {
            int end = definition.patternEnd(arm);
            for (int i = definition.patternStart(arm); i < end; i++) {
                if (definition.startsRepetition(i) && canMatchNothing(definition, i)) {
                    return true;
                }
            }
            return false;
        }

        private static boolean canMatchNothing(Definition definition, int repetition) {
            int end = definition.partnerOf(repetition + 1);
            int element = repetition + 2;
            for (int i = 0; i < REPETITION_LIMIT && element < end; i++) {
                if (!definition.startsRepetition(element) || definition.markOf(element) == '+') {
                    return false;
                }
                element = definition.behind(element);
            }
            return true;
        }

        private boolean hasLooseExpression(Definition definition, int arm) {
            int end = definition.patternEnd(arm);
            for (int i = definition.patternStart(arm); i < end; i++) {
                if (definition.startsVariable(i) && definition.codeAt(i + 3) == KIND_EX
                        && !isKeptApart(definition, i + 4, end)) {
                    return true;
                }
            }
            return false;
        }

        /** What may come at a place is where the threads stand that come there. */
        private boolean isKeptApart(Definition definition, int place, int end) {
            threads.clear(definition);
            threads.setOut();
            threads.arrive(place);
            for (int i = 0; i <= end; i++) {
                int code = definition.codeAt(i);
                if (threads.manyAt(i) > 0 && code != ',' && code != ';' && !isClosing(code)) {
                    return false;
                }
            }
            return true;
        }

        private static boolean hasWrongUse(Definition definition, int arm) {
            int end = definition.bodyEnd(arm);
            for (int i = definition.bodyStart(arm); i < end; i++) {
                if (definition.startsVariable(i)) {
                    int fragment = definition.fragmentOf(arm, definition.codeAt(i + 1));
                    if (fragment == NONE
                            || definition.repetitionsAround(fragment) != definition.repetitionsAround(i)) {
                        return true;
                    }
                }
            }
            return false;
        }

        private static boolean hasUselessRepetition(Definition definition, int arm) {
            int end = definition.bodyEnd(arm);
            for (int i = definition.bodyStart(arm); i < end; i++) {
                if (definition.startsRepetition(i) && !hasUse(definition, i)) {
                    return true;
                }
            }
            return false;
        }

        private static boolean hasUse(Definition definition, int repetition) {
            int end = definition.partnerOf(repetition + 1);
            for (int i = repetition + 2; i < end; i++) {
                if (definition.startsVariable(i)) {
                    return true;
                }
            }
            return false;
        }
    }

    /**
     * Threads, by the place of the pattern before which they stand. Those at one place have the same future, and two
     * are ambiguous as soon as they take something or end; so more than one are kept as MORE, with one's past.
     * Of its past a thread needs how many rounds it has begun of each repetition that is in no other: the rounds of
     * one that is in another are told by what its fragments took.
     */
    private static final class Threads {
        private static final int MORE = 2;
        // Far above any way without a token: no repetition's elements match nothing.
        private static final int WAY_LIMIT = 4 * REPETITION_LIMIT;

        private final int[] many = new int[TEXT_LIMIT];
        private final int[] rounds = new int[TEXT_LIMIT * REPETITION_LIMIT];
        private final int[] ownRounds = new int[REPETITION_LIMIT];
        private int weight;
        private Definition definition;

        void clear(Definition of) {
            definition = of;
            Arrays.fill(many, 0);
        }

        int manyAt(int place) {
            return place >= 0 && place < TEXT_LIMIT ? many[place] : 0;
        }

        int roundsAt(int place, int order) {
            if (place < 0 || place >= TEXT_LIMIT || order < 0 || order >= REPETITION_LIMIT) {
                return 0;
            }
            return rounds[place * REPETITION_LIMIT + order];
        }

        /** A first thread is on its way. */
        void setOut() {
            Arrays.fill(ownRounds, 0);
            weight = 1;
        }

        /** The threads at a place of other threads are on their way. */
        void setOutFrom(Threads others, int place) {
            for (int i = 0; i < REPETITION_LIMIT; i++) {
                ownRounds[i] = others.roundsAt(place, i);
            }
            weight = others.manyAt(place);
        }

        /** What is on its way comes to a place, and on from there until it stands before a token or the end. */
        void arrive(int place) {
            walk(place, 0);
        }

        /** What is on its way begins the elements of a repetition (anew, if it comes from its separator). */
        void beginRound(int repetition) {
            int order = definition.outerOrder(repetition);
            if (order >= 0 && order < REPETITION_LIMIT) {
                ownRounds[order]++;
            }
            walk(repetition + 2, 0);
        }

        private void walk(int place, int way) {
            if (way > WAY_LIMIT) {
                return;
            }
            int ended = definition.repetitionEndedAt(place);
            boolean begins = definition.startsRepetition(place);
            if (ended == NONE && !begins) {
                stand(place);
                return;
            }
            int repetition = begins ? place : ended;
            if (!begins || definition.markOf(repetition) != '+') {
                walk(definition.behind(repetition), way + 1);
            }
            int separator = definition.separatorOf(repetition);
            if (!begins && separator != NONE) {
                stand(separator);
            } else if (begins || definition.markOf(repetition) != '?') {
                int order = definition.outerOrder(repetition);
                boolean counted = order >= 0 && order < REPETITION_LIMIT;
                if (counted) {
                    ownRounds[order]++;
                }
                walk(repetition + 2, way + 1);
                if (counted) {
                    ownRounds[order]--;
                }
            }
        }

        private void stand(int place) {
            if (place < 0 || place >= TEXT_LIMIT) {
                return;
            }
            int together = many[place] + weight;
            many[place] = together < MORE ? together : MORE;
            for (int i = 0; i < REPETITION_LIMIT; i++) {
                rounds[place * REPETITION_LIMIT + i] = ownRounds[i];
            }
        }
    }

    /** What the fragments took in a match, in order, and how often its outer repetitions went round. */
    private static final class Takings {
        private final int[] fragments = new int[ROW_LIMIT];
        private final int[] outerRounds = new int[ROW_LIMIT];
        private final int[] froms = new int[ROW_LIMIT];
        private final int[] tos = new int[ROW_LIMIT];
        private final int[] rounds = new int[REPETITION_LIMIT];
        private int size;

        void clear() {
            size = 0;
        }

        void add(int fragment, int outerRound, int from, int to) {
            if (size < ROW_LIMIT) {
                fragments[size] = fragment;
                outerRounds[size] = outerRound;
                froms[size] = from;
                tos[size] = to;
                size++;
            }
        }

        void setRounds(int order, int number) {
            if (order >= 0 && order < REPETITION_LIMIT) {
                rounds[order] = number;
            }
        }

        int roundsOf(int order) {
            return order >= 0 && order < REPETITION_LIMIT ? rounds[order] : 0;
        }

        /** How often the fragment took something in a round of its outer repetition. */
        int timesTaken(int fragment, int outerRound) {
            int times = 0;
            for (int i = 0; i < size; i++) {
                if (fragments[i] == fragment && outerRounds[i] == outerRound) {
                    times++;
                }
            }
            return times;
        }

        /** Which of the takings is the fragment's one of these rounds, or NONE. */
        int find(int fragment, int outerRound, int innerRound) {
            int before = 0;
            for (int i = 0; i < size; i++) {
                if (fragments[i] == fragment && outerRounds[i] == outerRound) {
                    if (before == innerRound) {
                        return i;
                    }
                    before++;
                }
            }
            return NONE;
        }

        int fromOf(int taking) {
            return taking >= 0 && taking < size ? froms[taking] : 0;
        }

        int toOf(int taking) {
            return taking >= 0 && taking < size ? tos[taking] : 0;
        }
    }

    /** Matches a pattern against what is in a call's bracket. */
    private static final class Matcher {
        private final Takings takings = new Takings();
        private Threads standing = new Threads();
        private Threads coming = new Threads();
        private Definition definition;
        private int start;
        private int end;
        private Row row;

        /** What was taken in the last match. */
        Takings takings() {
            return takings;
        }

        /** OK if the arm's pattern matches the tokens from .. to - 1 of the row; else NO_ARM_MATCHES or AMBIGUOUS. */
        int match(Definition of, int arm, Row tokens, int from, int to) {
            definition = of;
            start = of.patternStart(arm);
            end = of.patternEnd(arm);
            row = tokens;
            takings.clear();
            standing.clear(of);
            standing.setOut();
            standing.arrive(start);
            int at = from;
            for (int i = 0; i < ROW_LIMIT && at < to; i++) {
                int fitting = findFitting(row.codeAt(at));
                if (fitting == AMBIGUOUS) {
                    return AMBIGUOUS;
                }
                int behind = fitting == NONE ? at + 1 : endOfTaken(definition.codeAt(fitting + 3), at);
                if (behind == NONE) {
                    return NO_ARM_MATCHES;
                }
                if (fitting == NONE) {
                    stepOver(row.codeAt(at));
                } else {
                    take(fitting, at, behind);
                }
                at = behind;
            }
            return conclude();
        }

        private int conclude() {
            for (int order = 0; order < REPETITION_LIMIT; order++) {
                takings.setRounds(order, standing.roundsAt(end, order));
            }
            int ended = standing.manyAt(end);
            return ended == 0 ? NO_ARM_MATCHES : ended == 1 ? OK : AMBIGUOUS;
        }

        /** The fragment before which the one fitting thread stands, NONE if none fits, or AMBIGUOUS. */
        private int findFitting(int token) {
            int fitting = 0;
            int stepping = 0;
            int fragment = NONE;
            for (int i = start; i < end; i++) {
                int many = standing.manyAt(i);
                if (many > 0 && definition.codeAt(i) == token && token != '$') {
                    stepping += many;
                } else if (many > 0 && definition.startsVariable(i) && canBegin(definition.codeAt(i + 3), token)) {
                    fitting += many;
                    fragment = i;
                }
            }
            return fitting > 1 || fitting == 1 && stepping > 0 ? AMBIGUOUS : fragment;
        }

        private static boolean canBegin(int kind, int token) {
            switch (kind) {
                case KIND_ID:
                    return isWord(token);
                case KIND_NUM:
                    return isNumber(token);
                case KIND_TT:
                    return !isClosing(token);
                default:
                    return isWord(token) || isNumber(token) || token == '(';
            }
        }

        /** The place behind what a fragment takes, or NONE if it is an expression and there is none. */
        private int endOfTaken(int kind, int at) {
            if (kind == KIND_EX) {
                return endOfExpression(at, 0);
            }
            return kind == KIND_TT && isOpening(row.codeAt(at)) ? row.closingOfBracketAt(at) + 1 : at + 1;
        }

        private void take(int fragment, int from, int to) {
            int order = definition.orderAround(fragment);
            int outerRound = order == NONE ? 0 : standing.roundsAt(fragment, order) - 1;
            takings.add(fragment, outerRound, from, to);
            coming.clear(definition);
            coming.setOutFrom(standing, fragment);
            coming.arrive(fragment + 4);
            exchange();
        }

        /** All threads before this token go on over it; if there is none, no thread is left. */
        private void stepOver(int token) {
            coming.clear(definition);
            for (int i = start; i < end; i++) {
                if (standing.manyAt(i) > 0 && definition.codeAt(i) == token && token != '$') {
                    coming.setOutFrom(standing, i);
                    int separated = definition.repetitionEndedAt(i - 1);
                    if (separated == NONE) {
                        coming.arrive(i + 1);
                    } else {
                        coming.beginRound(separated);
                    }
                }
            }
            exchange();
        }

        private void exchange() {
            Threads gone = standing;
            standing = coming;
            coming = gone;
        }

        /** The place behind the longest expression that begins here, or NONE. */
        private int endOfExpression(int at, int depth) {
            int behind = endOfOperand(at, depth);
            int last = behind;
            for (int i = 0; i < ROW_LIMIT && last != NONE; i++) {
                behind = last;
                int sign = row.codeAt(behind);
                last = sign == '+' || sign == '*' ? endOfOperand(behind + 1, depth) : NONE;
            }
            return behind;
        }

        private int endOfOperand(int at, int depth) {
            int token = row.codeAt(at);
            if (isWord(token) || isNumber(token)) {
                return at + 1;
            }
            if (token != '(' || depth >= EXPRESSION_NESTING_LIMIT) {
                return NONE;
            }
            int behind = endOfExpression(at + 1, depth + 1);
            return behind != NONE && row.codeAt(behind) == ')' ? behind + 1 : NONE;
        }
    }

    /** Tokens with their marks. */
    private static final class Row {
        private final int[] codes = new int[ROW_LIMIT];
        private final int[] origins = new int[ROW_LIMIT];
        private int size;
        private boolean overfull;

        void clear() {
            size = 0;
            overfull = false;
        }

        int size() {
            return size;
        }

        /** Whether more was added than there is room for. */
        boolean isOverfull() {
            return overfull;
        }

        void add(int code, int origin) {
            if (size >= ROW_LIMIT) {
                overfull = true;
                return;
            }
            codes[size] = code;
            origins[size] = origin;
            size++;
        }

        void addAll(Row other, int from, int to) {
            for (int i = from; i < to; i++) {
                add(other.codeAt(i), other.originAt(i));
            }
        }

        int codeAt(int place) {
            return place >= 0 && place < size ? codes[place] : NONE;
        }

        int originAt(int place) {
            return place >= 0 && place < size ? origins[place] : NONE;
        }

        /** The place of the bracket that closes the one at the given place. */
        int closingOfBracketAt(int opening) {
            int depth = 0;
            for (int i = Math.max(0, opening); i < size; i++) {
                if (isOpening(codes[i])) {
                    depth++;
                } else if (isClosing(codes[i])) {
                    depth--;
                    if (depth == 0) {
                        return i;
                    }
                }
            }
            return size;
        }

        /** The place of the first call that begins there or behind, or NONE. */
        int callFrom(int place) {
            for (int i = Math.max(0, place); i + 2 < size; i++) {
                if (isWord(codes[i]) && codes[i + 1] == '!' && isOpening(codes[i + 2])) {
                    return i;
                }
            }
            return NONE;
        }

        /** The place of the binder that the word at a place means, or NONE. */
        int binderOf(int place) {
            if (!isWord(codeAt(place))) {
                return NONE;
            }
            if (isBinder(place)) {
                return place;
            }
            int closed = 0;
            for (int i = place - 1; i >= 0; i--) {
                if (isClosing(codes[i])) {
                    closed++;
                } else if (isOpening(codes[i])) {
                    closed = Math.max(0, closed - 1);
                } else if (closed == 0 && isSameName(i, place) && isBinder(i)) {
                    return i;
                }
            }
            return NONE;
        }

        private boolean isBinder(int place) {
            return isWord(codeAt(place)) && codeAt(place - 1) == LET;
        }

        private boolean isSameName(int place, int other) {
            return codeAt(place) == codeAt(other) && originAt(place) == originAt(other);
        }
    }

    /** Writes what comes from a body. */
    private static final class Writer {
        private static final int DIFFERENT = -1;

        // The present rounds of the outer and of the inner repetition; 0 outside of them, as for the takings there.
        private final int[] present = new int[2];
        private Definition definition;
        private int arm;
        private int origin;
        private Takings takings;
        private Row source;
        private Row into;

        /** What is written comes from what a match took of a row, and goes into another row. */
        void prepare(Takings taken, Row from, Row to) {
            takings = taken;
            source = from;
            into = to;
        }

        /** False if repetitions are unequal. */
        boolean write(Definition of, int usedArm, int number) {
            definition = of;
            arm = usedArm;
            origin = number;
            Arrays.fill(present, 0);
            return writeParts(of.bodyStart(arm), of.bodyEnd(arm), 0);
        }

        private boolean writeParts(int from, int to, int level) {
            int at = from;
            for (int i = 0; i < TEXT_LIMIT && at < to; i++) {
                if (definition.startsRepetition(at)) {
                    if (!writeRepetition(at, level)) {
                        return false;
                    }
                    at = definition.behind(at);
                } else if (definition.startsVariable(at)) {
                    writeUse(definition.fragmentOf(arm, definition.codeAt(at + 1)));
                    at += 2;
                } else {
                    into.add(definition.codeAt(at), origin);
                    at++;
                }
            }
            return true;
        }

        private boolean writeRepetition(int repetition, int level) {
            if (level >= present.length) {
                return false;
            }
            int rounds = roundsOf(repetition, level);
            int separator = definition.separatorOf(repetition);
            int end = definition.partnerOf(repetition + 1);
            boolean equal = rounds != DIFFERENT;
            for (int i = 0; i < rounds && equal; i++) {
                if (i > 0 && separator != NONE) {
                    into.add(definition.codeAt(separator), origin);
                }
                present[level] = i;
                equal = writeParts(repetition + 2, end, level + 1);
            }
            present[level] = 0;
            return equal;
        }

        /** The rounds of a repetition, or DIFFERENT if its uses do not agree on them. */
        private int roundsOf(int repetition, int level) {
            int rounds = DIFFERENT;
            int end = definition.partnerOf(repetition + 1);
            for (int i = repetition + 2; i < end; i++) {
                if (definition.startsVariable(i)) {
                    int fragment = definition.fragmentOf(arm, definition.codeAt(i + 1));
                    int own = level == 0
                            ? takings.roundsOf(definition.orderAround(fragment))
                            : takings.timesTaken(fragment, present[0]);
                    if (rounds != DIFFERENT && rounds != own) {
                        return DIFFERENT;
                    }
                    rounds = own;
                }
            }
            return rounds;
        }

        private void writeUse(int fragment) {
            int taking = takings.find(fragment, present[0], present[1]);
            int from = takings.fromOf(taking);
            int to = takings.toOf(taking);
            boolean bracketed = definition.codeAt(fragment + 3) == KIND_EX && to - from > 1;
            if (bracketed) {
                into.add('(', origin);
            }
            into.addAll(source, from, to);
            if (bracketed) {
                into.add(')', origin);
            }
        }
    }

    /** Expands the calls of a text, and keeps the outcome. */
    private static final class Expander {
        private final Nesting nesting = new Nesting();
        private final Matcher matcher = new Matcher();
        private final Writer writer = new Writer();
        private final int[] chosenArms = new int[EXPANSION_LIMIT];
        private Row row = new Row();
        private Row spare = new Row();
        private int done;

        Row outcome() {
            return row;
        }

        int done() {
            return done;
        }

        int armOf(int expansion) {
            return expansion >= 1 && expansion <= done ? chosenArms[expansion - 1] : NONE;
        }

        /** Takes a text as what is to be expanded; the character at which it is faulty, or NONE. */
        int read(TypedText text) {
            row.clear();
            nesting.clear();
            done = 0;
            int fault = readTokens(text);
            if (fault != NONE) {
                row.clear();
            }
            return fault;
        }

        private int readTokens(TypedText text) {
            for (int i = 0; i < TEXT_LIMIT; i++) {
                int code = text.read();
                if (code == TypedText.END) {
                    break;
                }
                if (code == TypedText.BAD || !isBalanced(code, i)) {
                    return text.start();
                }
                row.add(code, 0);
            }
            return nesting.isEmpty() ? NONE : text.length();
        }

        private boolean isBalanced(int code, int place) {
            if (isOpening(code)) {
                return nesting.open(place, code);
            }
            return !isClosing(code) || nesting.close(code) != NONE;
        }

        /** Expands what was read: the number of tokens of the outcome, or an error. */
        int run(Definition[] definitions, int count) {
            int error = OK;
            int call = row.callFrom(0);
            // One call more than may be expanded is looked at: it is the one at which the error comes.
            for (int i = 0; i <= EXPANSION_LIMIT && call != NONE && error == OK; i++) {
                Definition definition = latest(definitions, count, row.codeAt(call));
                int end = row.closingOfBracketAt(call + 2);
                int arm = definition == null ? NO_DEFINITION : chooseArm(definition, call + 3, end);
                error = arm < 0 ? arm : replace(definition, arm, call, end);
                call = row.callFrom(call);
            }
            if (error != OK) {
                row.clear();
                return error;
            }
            return row.size();
        }

        private static Definition latest(Definition[] definitions, int count, int name) {
            for (int i = Math.min(count, definitions.length) - 1; i >= 0; i--) {
                if (definitions[i].name() == name) {
                    return definitions[i];
                }
            }
            return null;
        }

        /** Puts an arm's body in the place of the call that ends at a place; OK or the error. */
        private int replace(Definition definition, int arm, int call, int end) {
            if (done >= EXPANSION_LIMIT) {
                return TOO_MANY_EXPANSIONS;
            }
            spare.clear();
            spare.addAll(row, 0, call);
            writer.prepare(matcher.takings(), row, spare);
            if (!writer.write(definition, arm, done + 1)) {
                return UNEQUAL;
            }
            spare.addAll(row, end + 1, row.size());
            if (spare.isOverfull()) {
                return TOO_MANY_TOKENS;
            }
            chosenArms[done] = arm;
            done++;
            exchangeRows();
            return OK;
        }

        /** The first arm that matches, or NO_ARM_MATCHES or AMBIGUOUS. */
        private int chooseArm(Definition definition, int from, int to) {
            for (int arm = 0; arm < definition.armCount(); arm++) {
                int answer = matcher.match(definition, arm, row, from, to);
                if (answer != NO_ARM_MATCHES) {
                    return answer == OK ? arm : answer;
                }
            }
            return NO_ARM_MATCHES;
        }

        private void exchangeRows() {
            Row gone = row;
            row = spare;
            spare = gone;
        }
    }
}
