/** Boundary cases of typing and of reading tokens and brackets: a method for each sentence, both sides of its bound. */
public final class TextBoundaries extends Checks {
    private static final int FOUR_PLUSES = 0x2B2B2B2B;
    private static final String SIGNS = "+*,;=:!?>$";
    private static final String OPENINGS = "([{";
    private static final String CLOSINGS = ")]}";

    public static void main(String[] args) {
        numberOfBytes();
        highestByteFirst();
        charactersOfTexts();
        bytesThatAreNotAsked();
        atMost120Characters();
        roomAgainBehindACall();
        lettersOfAWord();
        digitsOfANumber();
        firstDigit();
        charactersOfTokens();
        spaces();
        rowsOfLettersAndDigits();
        tooLongRows();
        closingBrackets();
        bracketsLeftOpen();
        nineBracketsAround();
        nineBracketsInDefinitions();
        firstFault();
        endOfText();
        emptyText();
        finish();
    }

    // ---- promise 2 ----

    private static void numberOfBytes() {
        sentence("false, refused, if n is not 1 .. 4");
        for (int n = 1; n <= 4; n++) {
            Calls x = new Calls();
            due("type of " + n, typed(x, FOUR_PLUSES, n), 1);
            due("tokens of " + n, x.expand(), n);
        }
        Calls x = new Calls();
        typed(x, ";");
        int[] wrong = {0, 5, -1, -4, 8, 255, 256, 257, 65537, -255, 0x40000001, 1 << 31 | 1, Integer.MIN_VALUE,
            Integer.MAX_VALUE};
        for (int n : wrong) {
            due("type of " + n, typed(x, FOUR_PLUSES, n), 0);
        }
        due("what was typed before", x.expand(), 1);
        due("its token", x.token(0), ';');
    }

    private static void highestByteFirst() {
        sentence("Appends the n lowest bytes of word, the highest of them first");
        int word = '+' << 24 | ';' << 16 | '=' << 8 | ',';
        String[] outcomes = {",", "= ,", "; = ,", "+ ; = ,"};
        for (int n = 1; n <= 4; n++) {
            Calls x = new Calls();
            due("type of " + n, typed(x, word, n), 1);
            x.expand();
            dueText("the lowest " + n, outcome(x, false), outcomes[n - 1]);
        }
    }

    private static void charactersOfTexts() {
        sentence("one of them is not 32 .. 126");
        for (int place = 0; place < 4; place++) {
            int others = FOUR_PLUSES & ~(255 << 8 * place);
            for (int character : new int[] {0, 1, 31, 127, 128, 160, 171, 254, 255}) {
                Calls x = new Calls();
                due("type " + character + " at " + place, typed(x, others | character << 8 * place, 4), 0);
                due("nothing of it is typed", x.expand(), 0);
            }
            Calls x = new Calls();
            due("type 32 at " + place, typed(x, others | 32 << 8 * place, 4), 1);
            due("a space is no token", x.expand(), 3);
            due("type 126 at " + place, typed(x, others | 126 << 8 * place, 4), 1);
            due("it is none either", x.expand(), -1 - (3 - place));
        }
        for (int character = 0; character < 256; character++) {
            boolean taken = character >= 32 && character <= 126;
            due("type " + character, typed(new Calls(), character, 1), taken ? 1 : 0);
        }
    }

    private static void bytesThatAreNotAsked() {
        sentence("one of them (the n lowest bytes) is not 32 .. 126");
        int[] spoilt = {0xFF2B2B2B, 0x2B1F2B2B, 0x2B2B7F2B, 0x2B2B2B00};
        for (int i = 0; i < spoilt.length; i++) {
            for (int n = 1; n <= 4; n++) {
                boolean taken = n < 4 - i;
                Calls x = new Calls();
                due("type byte " + i + " spoilt, of " + n, typed(x, spoilt[i], n), taken ? 1 : 0);
                due("tokens", x.expand(), taken ? n : 0);
            }
        }
    }

    private static void atMost120Characters() {
        sentence("or more than 120 would be there");
        for (int n = 1; n <= 4; n++) {
            Calls last = new Calls();
            typed(last, "+".repeat(120 - n));
            due(n + " to 120", typed(last, FOUR_PLUSES, n), 1);
            for (int more = 1; more <= 4; more++) {
                due(more + " behind 120", typed(last, FOUR_PLUSES, more), 0);
            }
            due("all 120", last.expand(), 120);
            Calls first = new Calls();
            typed(first, "+".repeat(121 - n));
            due(n + " to 121", typed(first, FOUR_PLUSES, n), 0);
            due("what was there", first.expand(), 121 - n);
        }
        Calls x = new Calls();
        typed(x, "+".repeat(117));
        due("4 behind 117", typed(x, FOUR_PLUSES, 4), 0);
        due("3 behind 117, though 4 were refused", typed(x, FOUR_PLUSES, 3), 1);
        due("all of 120", x.expand(), 120);
    }

    private static void roomAgainBehindACall() {
        sentence("nothing is typed then");
        Calls x = new Calls();
        for (int i = 0; i < 3; i++) {
            typed(x, "+".repeat(120));
            due("120 once more", x.expand(), 120);
            typed(x, " ".repeat(120));
            due("120 spaces are no definition", x.define(), -121);
        }
    }

    // ---- tokens ----

    private static void lettersOfAWord() {
        sentence("a WORD (1 .. 3 letters a .. z)");
        for (String word : new String[] {"a", "z", "aa", "zz", "aaa", "zzz", "let"}) {
            expands(word, word);
        }
        expandFails("aaaa", 0);
        expandFails("zzzz", 0);
        expandFails("a".repeat(120), 0);
        defines("abc(){}");
        defineFails("abcd(){}", 0);
        defines("m($abc:id abc){$abc abc}");
        defineFails("m($abcd:id){}", 3);
        defineFails("m(abcd){}", 2);
        defineFails("m(){abcd}", 4);
        defineFails("m($abc:id){$abcd}", 12);
    }

    private static void digitsOfANumber() {
        sentence("a NUMBER (one or two digits");
        for (String number : new String[] {"0", "1", "9", "10", "11", "19", "90", "99"}) {
            expands(number, number);
        }
        for (String row : new String[] {"100", "999", "123", "1000"}) {
            expandFails(row, 0);
            defineFails("m(" + row + "){}", 2);
        }
        defines("m(0 9 10 99){0 9 10 99}");
        expandFails("1".repeat(120), 0);
    }

    private static void firstDigit() {
        sentence("the first one not 0 unless it is the only one");
        expands("0", "0");
        expands("10", "10");
        expands("0 0", "0 0");
        for (String row : new String[] {"00", "01", "07", "09", "000", "010"}) {
            expandFails(row, 0);
            expandFails("a " + row, 2);
            defineFails("m(){" + row + "}", 4);
        }
    }

    private static void charactersOfTokens() {
        sentence("a SIGN (one of + * , ; = : ! ? > $) and the BRACKETS ( ) [ ] { }");
        for (char c = 33; c <= 126; c++) {
            String text = String.valueOf(c);
            boolean alone = SIGNS.indexOf(c) >= 0 || c >= 'a' && c <= 'z' || c >= '0' && c <= '9';
            if (alone) {
                expands(text, text);
            } else if (OPENINGS.indexOf(c) >= 0) {
                expandFails(text, 1);
                expands(text + CLOSINGS.charAt(OPENINGS.indexOf(c)),
                        text + " " + CLOSINGS.charAt(OPENINGS.indexOf(c)));
            } else {
                expandFails(text, 0);
                expandFails("a+ " + text + " b", 3);
                if (CLOSINGS.indexOf(c) < 0) {
                    defineFails("m(){" + text + "}", 4);
                }
            }
        }
    }

    private static void spaces() {
        sentence("Spaces may stand between tokens");
        expands("a+b", "a + b");
        expands(" a + b ", "a + b");
        expands("   a   +   b   ", "a + b");
        expands(" ".repeat(119) + "a", "a");
        expands("a" + " ".repeat(119), "a");
        expands("(a)", "( a )");
        expands(" ( a ) ", "( a )");
        defines("m($x:id$($y:id),*){$x$($y),*};(){}");
        defines("  m ( $ x : id $ ( $ y : id ) , * ) { $ x $ ( $ y ) , * } ; ( ) { }  ");
        expands("m ! ( b )", "7", "m(b){7}");
    }

    private static void rowsOfLettersAndDigits() {
        sentence("a row of letters, or of digits, is one token (a1 are two)");
        expands("a1", "a 1");
        expands("1a", "1 a");
        expands("abc12def0g", "abc 12 def 0 g");
        expands("ab c", "ab c");
        expands("abc", "abc");
        expands("ab cd", "ab cd");
        expands("12", "12");
        expands("1 2", "1 2");
        expands("a0a0", "a 0 a 0");
        defines("m($x:id1){}");
        defineFails("m($x1:id){}", 4);
        defineFails("m1(){}", 1);
    }

    private static void tooLongRows() {
        sentence("one that is too long, or 07, is at fault at its first character");
        expandFails("a bcde", 2);
        expandFails("1abcd", 1);
        expandFails("abc 123", 4);
        expandFails("abc123", 3);
        expandFails("a07", 1);
        expandFails("07a", 0);
        expandFails("  07", 2);
        expandFails("abcdA", 0);
        expandFails("(abcd", 1);
        expandFails("(abcd)", 1);
    }

    // ---- brackets ----

    private static void closingBrackets() {
        sentence("Each closing bracket closes the innermost open one, which is of its sort");
        for (int i = 0; i < 3; i++) {
            expandFails("a " + CLOSINGS.charAt(i), 2);
            for (int j = 0; j < 3; j++) {
                String pair = OPENINGS.charAt(i) + " " + CLOSINGS.charAt(j);
                if (i == j) {
                    expands(pair, pair);
                    defines("m(" + pair + "){" + pair + "}");
                } else {
                    expandFails(pair, 2);
                    expandFails(OPENINGS.charAt(j) + pair, 3);
                    defineFails("m(" + pair, 4);
                    defineFails("m(){" + pair, 6);
                }
            }
        }
        expandFails("([)]", 2);
        expandFails("()]", 2);
        expands("(){[]}()", "( ) { [ ] } ( )");
    }

    private static void bracketsLeftOpen() {
        sentence("A bracket that is left open is at fault at the text's end.");
        expandFails("(", 1);
        expandFails("(a", 2);
        expandFails("( a  ", 5);
        expandFails("()[", 3);
        expandFails("[()", 3);
        expandFails("{{}", 3);
        defineFails("m(", 2);
        defineFails("m([a] ", 6);
        defineFails("m(){", 4);
        defineFails("m(){()", 6);
        defineFails("m($(a", 5);
        expands("{{}}", "{ { } }");
    }

    private static void nineBracketsAround() {
        sentence("No opening bracket is in more than nine others.");
        for (int i = 0; i < 3; i++) {
            String opening = OPENINGS.substring(i, i + 1);
            String closing = CLOSINGS.substring(i, i + 1);
            expandsTo(opening.repeat(10) + closing.repeat(10), 20);
            expandFails(opening.repeat(11) + closing.repeat(11), 10);
            expandFails(opening.repeat(11), 10);
            expandFails(opening.repeat(10), 10);
        }
        expandsTo("([{([{([{(" + "a" + ")}])}])}])", 21);
        expandFails("([{([{([{(" + "a[" + "])}])}])}])", 11);
        // Not how many brackets there are, but how many are open counts.
        expandsTo("(".repeat(9) + "()".repeat(20) + ")".repeat(9), 58);
        expandsTo("()".repeat(60), 120);
        expandsTo("(".repeat(10) + ")".repeat(10) + "[".repeat(10) + "]".repeat(10), 40);
    }

    private static void nineBracketsInDefinitions() {
        sentence("No opening bracket is in more than nine others (of a definition).");
        defines("m(" + "[".repeat(9) + "]".repeat(9) + "){}");
        defineFails("m(" + "[".repeat(10) + "]".repeat(10) + "){}", 11);
        defines("m(){" + "(".repeat(9) + ")".repeat(9) + "}");
        defineFails("m(){" + "(".repeat(10) + ")".repeat(10) + "}", 13);
        // The brackets of a repetition are brackets, too.
        defines("m(" + "[".repeat(8) + "$(a)*" + "]".repeat(8) + "){}");
        defineFails("m(" + "[".repeat(9) + "$(a)*" + "]".repeat(9) + "){}", 12);
        defines("m($(" + "[".repeat(8) + "]".repeat(8) + ")*){}");
        defineFails("m($(" + "[".repeat(9) + "]".repeat(9) + ")*){}", 12);
        defines("m($($x:id)*){" + "[".repeat(8) + "$($x)*" + "]".repeat(8) + "}");
        defineFails("m($($x:id)*){" + "[".repeat(9) + "$($x)*" + "]".repeat(9) + "}", 23);
        // A fragment needs no bracket: it may stand in the tenth.
        defines("m(" + "[".repeat(9) + "$x:id" + "]".repeat(9) + "){" + "[".repeat(9) + "$x" + "]".repeat(9) + "}");
    }

    // ---- faults ----

    private static void firstFault() {
        sentence("A text is FAULTY at the first character that cannot be as it is, read from the left");
        expandFails(") A", 0);
        expandFails("A )", 0);
        expandFails("( A", 2);
        expandFails("(] 07", 1);
        expandFails("abcd 07 A )", 0);
        expandFails("(".repeat(11) + "A", 10);
        expandFails("(".repeat(10) + "A(", 10);
        defineFails("m(A$", 2);
        defineFails("m($A", 3);
        defineFails("m($x:A", 5);
        defineFails("m($x A", 5);
        defineFails("m(){A", 4);
        defineFails("7 A", 0);
        defineFails("m A", 2);
        defineFails("m(){}A", 5);
        defineFails("m(){};A", 6);
    }

    private static void endOfText() {
        sentence("the text's end at its length");
        defineFails("m", 1);
        defineFails("m   ", 4);
        defineFails("m()", 3);
        defineFails("m() ", 4);
        defineFails("m($", 3);
        defineFails("m($ ", 4);
        defineFails("m($x", 4);
        defineFails("m($x:", 5);
        defineFails("m($(a)", 6);
        defineFails("m($(a),", 7);
        defineFails("m(){$", 5);
        defineFails("m(){};", 6);
        defineFails("m(" + " ".repeat(118), 120);
        expandFails("(" + " ".repeat(119), 120);
        expandFails("a".repeat(3) + "(" + "+".repeat(116), 120);
    }

    private static void emptyText() {
        sentence("nothing: faulty at its length (define); nothing: 0 tokens (expand)");
        Calls x = new Calls();
        due("define nothing", x.define(), -1);
        due("expand nothing", x.expand(), 0);
        due("no token", x.token(0), -1);
        due("define a space", define(x, " "), -2);
        due("expand a space", expand(x, " "), 0);
        due("define 120 spaces", define(x, " ".repeat(120)), -121);
        due("expand 120 spaces", expand(x, " ".repeat(120)), 0);
        due("definitions", x.definitions(), 0);
        due("expansions", x.expansions(), 0);
    }
}
