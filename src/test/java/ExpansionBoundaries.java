/** Boundary cases of matching, expanding and meaning, and promises 4 and 7 to 11: a method for each sentence. */
public final class ExpansionBoundaries extends Checks {
    private static final String MANY_A = "a ".repeat(50);

    public static void main(String[] args) {
        threadsAtTheEnd();
        splittingThreads();
        endOfElements();
        fittingTokens();
        twoFitting();
        fittingAndStepping();
        allStepping();
        noExpression();
        noneStepping();
        bracketsOfBoth();
        operands();
        longestRow();
        oneExpressionInABracket();
        sixBrackets();
        sixBracketsOfTheSameFragment();
        bracketsThatGrow();
        bracketsInMoreThanNine();
        whatIsACall();
        tokensFromWherever();
        definitionMadeLast();
        firstArm();
        goingOnAtThatPlace();
        eachErrorByItself();
        elevenExpansions();
        tokensAtMost150();
        tokensOnTheWay();
        orderOfErrors();
        ambiguousArms();
        marksOfTokens();
        bracketsOfExpressions();
        roundsAndSeparators();
        roundsOfTwoRepetitions();
        unequalRepetitions();
        unequalInnerRepetitions();
        binders();
        meanings();
        closedBrackets();
        lettersAndMarks();
        outcomeOfErrors();
        codesOfTokens();
        placesOfTheOutcome();
        expansionsDone();
        armsUsed();
        finish();
    }

    // ---- matching ----

    private static void threadsAtTheEnd() {
        sentence("the pattern matches if one thread stands before the end; it does not, if none does; more:"
                + " AMBIGUOUS.");
        expandsTo("m!(a)", 0, "m(a){}");
        expandErrs("m!()", -2001, 0, "m(a){}");
        expandErrs("m!(a)", -2001, 0, "m(a a){}");
        expandsTo("m!()", 0, "m($(a)?$(a)?){}");
        expandErrs("m!(a)", -2002, 0, "m($(a)?$(a)?){}");
        expandsTo("m!(a a)", 0, "m($(a)?$(a)?){}");
        expandErrs("m!(a a a)", -2001, 0, "m($(a)?$(a)?){}");
        expandsTo("m!(a)", 0, "m($(a)?$(b)?){}");
        expandErrs("m!(a a)", -2002, 0, "m($($(a)+)+){}");
        expandsTo("m!(a)", 0, "m($($(a)+)+){}");
    }

    private static void splittingThreads() {
        sentence("A thread that comes to a repetition with * or ? splits: one goes on behind it, the other one into"
                + " it; with + it goes into it.");
        for (String mark : new String[] {"*", "?", ",*"}) {
            expandsTo("m!(b)", 0, "m($(a)" + mark + "b){}");
            expandsTo("m!(a b)", 0, "m($(a)" + mark + "b){}");
        }
        for (String mark : new String[] {"+", ",+"}) {
            expandErrs("m!(b)", -2001, 0, "m($(a)" + mark + "b){}");
            expandsTo("m!(a b)", 0, "m($(a)" + mark + "b){}");
        }
    }

    private static void endOfElements() {
        sentence("At the end of a repetition's elements it goes on behind it; and, if the mark is * or +, another one"
                + " begins them anew, after the separator, if there is one.");
        expandErrs("m!(a a)", -2001, 0, "m($(a)?){}");
        expandsTo("m!(a a)", 0, "m($(a)*){}");
        expandsTo("m!(a a)", 0, "m($(a)+){}");
        expandsTo("m!(" + MANY_A + ")", 0, "m($(a)*){}");
        for (String mark : new String[] {",*", ",+"}) {
            expandsTo("m!(a)", 0, "m($(a)" + mark + "){}");
            expandsTo("m!(a,a,a)", 0, "m($(a)" + mark + "){}");
            expandErrs("m!(a a)", -2001, 0, "m($(a)" + mark + "){}");
            expandErrs("m!(a,)", -2001, 0, "m($(a)" + mark + "){}");
            expandErrs("m!(,a)", -2001, 0, "m($(a)" + mark + "){}");
            expandErrs("m!(a,,a)", -2001, 0, "m($(a)" + mark + "){}");
        }
        // The separator is another token than the one behind the repetition that is like it.
        expandsTo("m!(a,a,)", 0, "m($(a),*,){}");
        expandsTo("m!(,)", 0, "m($(a),*,){}");
        expandErrs("m!(a,a)", -2001, 0, "m($(a),*,){}");
    }

    private static void fittingTokens() {
        sentence("FITTING are the threads before a fragment that t can begin: id: a word; num: a number; tt: a token"
                + " that closes no bracket; ex: a word, a number, or a (.");
        String[] trees = {"a", "zzz", "0", "99", "+", "$", ";", "(a)", "[a]", "{a}", "()", "[]", "{}"};
        String[] takenBy = {"id tt ex", "id tt ex", "num tt ex", "num tt ex", "tt", "tt", "tt", "tt ex", "tt", "tt",
            "tt", "tt", "tt"};
        for (String kind : new String[] {"id", "num", "tt", "ex"}) {
            for (int i = 0; i < trees.length; i++) {
                boolean taken = (" " + takenBy[i] + " ").contains(" " + kind + " ");
                expandsTo("m!(" + trees[i] + ")", taken ? 0 : -2001, "m($x:" + kind + "){}");
            }
            expandErrs("m!()", -2001, 0, "m($x:" + kind + "){}");
            expandErrs("m!([])", -2001, 0, "m([$x:" + kind + "]){}");
        }
        // One token or tree is taken, not more.
        expandErrs("m!(a b)", -2001, 0, "m($x:id){}");
        expandErrs("m!(() ())", -2001, 0, "m($x:tt){}");
        expandsTo("m!(() ())", 0, "m($x:tt$y:tt){}");
        expands("m!((a[b]{c}) d)", "d ( a [ b ] { c } )", "m($x:tt$y:tt){$y$x}");
    }

    private static void twoFitting() {
        sentence("Two or more fitting: AMBIGUOUS.");
        expandErrs("m!(a)", -2002, 0, "m($($x:id)?$($y:id)?){}");
        expandErrs("m!(a)", -2002, 0, "m($($x:id)?$($y:tt)?$($z:num)?){}");
        expandErrs("m!(a)", -2002, 0, "m($($x:id)?$($y:id)?$($z:id)?){}");
        expandErrs("m!(7)", -2002, 0, "m($($x:num)?$($y:ex)?){}");
        // One of the two cannot begin with it, or there is nothing more.
        expandsTo("m!(a)", 0, "m($($x:num)?$($y:ex)?){}");
        expandsTo("m!()", 0, "m($($x:id)?$($y:id)?){}");
        expandsTo("m!(a 7)", 0, "m($($x:id)*$($y:num)*){}");
        // It is ambiguous at once, whatever comes later.
        expandErrs("m!(a b)", -2002, 0, "m($($x:id)?$y:id 7){}");
        // Two threads before the same fragment are two.
        expandErrs("m!(a 7)", -2002, 0, "m($(a)*$(a)*$x:num){}");
        expandsTo("m!(7)", 0, "m($(a)*$(a)*$x:num){}");
    }

    private static void fittingAndStepping() {
        sentence("or one and some stepping: AMBIGUOUS.");
        expandErrs("m!(a)", -2002, 0, "m($(a)?$x:id){}");
        expandErrs("m!(a)", -2002, 0, "m($($x:id)?a){}");
        expandErrs("m!(())", -2002, 0, "m($($x:tt)?()){}");
        expandErrs("m!((b))", -2002, 0, "m($((a))*$x:ex){}");
        // The one before the literal does not step over another token.
        expandsTo("m!(b)", 0, "m($(a)?$x:id){}");
        expandsTo("m!(b a)", 0, "m($($x:num)?b a){}");
        // A separator is stepped over like a literal.
        expandErrs("m!(7,)", -2002, 0, "m($($x:num),+$($y:tt)?){}");
        expandsTo("m!(7;)", 0, "m($($x:num),+$($y:tt)?){}");
    }

    private static void allStepping() {
        sentence("None fitting: all stepping go on, over t");
        expandsTo("m!(a b)", 0, "m($(a)?$(a b)?){}");
        expandsTo("m!(a a b)", 0, "m($(a)?$(a b)?){}");
        expandsTo("m!(a c)", 0, "m($(a b)?$(a c)?$(a d)?){}");
        expandsTo("m!(a d)", 0, "m($(a b)?$(a c)?$(a d)?){}");
        expandErrs("m!(a e)", -2001, 0, "m($(a b)?$(a c)?$(a d)?){}");
        expandsTo("m!([7])", 0, "m($([$x:id])?$([$y:num])?){}");
        expandsTo("m!(" + MANY_A + "7)", 0, "m($(a)*b){};($(a)*$x:num){}");
        // Those that do not step are gone, also where their way would lead to the same place.
        String two = "m($($(c a)?$(d a)?$x:num)*){$($x;)*}";
        expands("m!(c a 7 c a 8)", "7 ; 8 ;", two);
        expands("m!(d a 7 c a d a 8 9)", "7 ; 8 ; 9 ;", two);
        // A token is like another one whatever its mark.
        expands("m!(a)", "7", "m($x:id){n!(a$x)}", "n(a a){7}");
        expands("m!(a[])", "7", "m($x:id$y:tt){n!($x[]a$y)}", "n(a[]a[]){7}");
    }

    private static void noExpression() {
        sentence("if there is none (an ex before a ( without an expression), the pattern does not match");
        expandsTo("m!((a))", 3, "m($x:ex){1 1 1};($x:tt){1}");
        for (String none : new String[] {"()", "(+)", "(a b)", "(a+)", "([a])", "(,)", "(a,)", "(())"}) {
            expandsTo("m!(" + none + ")", 1, "m($x:ex){1 1 1};($x:tt){1}");
            expandErrs("m!(" + none + ")", -2001, 0, "m($x:ex){}");
        }
        // What comes later is not looked at: it would be ambiguous.
        expandErrs("m!(c,a)", -2002, 0, "m($x:ex,$(a)?$y:id){}");
        expandErrs("m!((c b,a))", -2001, 0, "m($x:ex,$(a)?$y:id){}");
        expandErrs("m!((),a)", -2001, 0, "m($x:ex,$(a)?$y:id){}");
    }

    private static void noneStepping() {
        sentence("if there is none, the pattern does not match");
        expandErrs("m!(b)", -2001, 0, "m(a){}");
        expandErrs("m!(a a)", -2001, 0, "m(a){}");
        expandErrs("m!(aa)", -2001, 0, "m(a){}");
        expandErrs("m!(1)", -2001, 0, "m(11){}");
        expandErrs("m!(;)", -2001, 0, "m(,){}");
        expandErrs("m!($)", -2001, 0, "m($x:id){}");
    }

    private static void bracketsOfBoth() {
        sentence("Brackets are gone through like this, too: they are balanced in both.");
        expandsTo("m!([a])", 0, "m([a]){}");
        expandErrs("m!((a))", -2001, 0, "m([a]){}");
        expandErrs("m!([])", -2001, 0, "m([a]){}");
        expandErrs("m!([a a])", -2001, 0, "m([a]){}");
        expandErrs("m!([a]a)", -2001, 0, "m([a]){}");
        expandErrs("m!(a)", -2001, 0, "m([a]){}");
        expandsTo("m!([a a][][a])", 0, "m($([$(a)*])*){}");
        expandErrs("m!([a[]][])", -2001, 0, "m($([$(a)*])*){}");
        String nine = "[".repeat(9) + "a" + "]".repeat(9);
        expandsTo("m!(" + nine + ")", 0, "m(" + nine + "){}");
        expandErrs("m!(" + nine.substring(1, 18) + ")", -2001, 0, "m(" + nine + "){}");
    }

    // ---- expressions ----

    private static void operands() {
        sentence("an operand is a word, a number, or a bracket ( ) in which is one expression and nothing else");
        for (String operand : new String[] {"a", "zzz", "let", "0", "99", "(a)", "(7)", "((a))", "(a+b)", "(a)*(b)"}) {
            expandsTo("m!(" + operand + ")", 0, "m($x:ex){}");
            expandsTo("m!(b+" + operand + ")", 0, "m($x:ex){}");
            expandsTo("m!((" + operand + "))", 0, "m($x:ex){}");
        }
        for (String none : new String[] {"+", "*", "=", "$", "[a]", "{a}", "()", "([a])", "(a;b)", "!"}) {
            expandErrs("m!(" + none + ")", -2001, 0, "m($x:ex){}");
            expandErrs("m!(b+" + none + ")", -2001, 0, "m($x:ex){}");
            expandErrs("m!((" + none + "))", -2001, 0, "m($x:ex){}");
        }
    }

    private static void longestRow() {
        sentence("An EXPRESSION is the longest row of operands with one + or * between each two");
        expandsMarked("m!(a)", "a", "m($x:ex){$x}");
        expandsMarked("m!(a+b)", "(.1 a + b ).1", "m($x:ex){$x}");
        expandsMarked("m!(a*b+c*7,d)", "(.1 a * b + c * 7 ).1 ;.1 d", "m($x:ex,$y:ex){$x;$y}");
        for (String none : new String[] {"+a", "a+", "a++b", "a+*b", "a**b", "a b", "a(b)", "(a)b", "7 7", "a=b"}) {
            expandErrs("m!(" + none + ")", -2001, 0, "m($x:ex){}");
        }
        expandsTo("m!(" + "a+".repeat(57) + "a)", 117, "m($x:ex){$x}");
    }

    private static void oneExpressionInABracket() {
        sentence("a bracket ( ) in which is one expression and nothing else");
        expandsTo("m!((a))", 5, "m($x:ex){$x}");
        for (String none : new String[] {"()", "(a b)", "(a,b)", "(a,)", "(a+)", "(+a)", "(a())", "((a)(b))"}) {
            expandErrs("m!(" + none + ")", -2001, 0, "m($x:ex){}");
            expandErrs("m!(c*" + none + ")", -2001, 0, "m($x:ex){}");
        }
    }

    private static void sixBrackets() {
        sentence("a ( in six such brackets of the same fragment begins no operand");
        expandsTo("m!(" + deep(6) + ")", 15, "m($x:ex){$x}");
        expandErrs("m!(" + deep(7) + ")", -2001, 0, "m($x:ex){$x}");
        expandErrs("m!(" + deep(8) + ")", -2001, 0, "m($x:ex){$x}");
        expandsTo("m!(a*" + deep(6) + ")", 17, "m($x:ex){$x}");
        expandErrs("m!(a*" + deep(7) + ")", -2001, 0, "m($x:ex){$x}");
        String five = "(".repeat(5);
        String closed = ")".repeat(5);
        expandsTo("m!(" + five + "a+(b)" + closed + ")", 17, "m($x:ex){$x}");
        expandErrs("m!(" + five + "(a+(b))" + closed + ")", -2001, 0, "m($x:ex){$x}");
        expandErrs("m!(" + five + "((b)+a)" + closed + ")", -2001, 0, "m($x:ex){$x}");
        // Brackets one after another are not in one another.
        expandsTo("m!(" + "(a)+".repeat(9) + "(a))", 41, "m($x:ex){$x}");
        // A tree of the same tokens is taken all the same.
        expandsTo("m!(" + deep(7) + ")", 15, "m($x:ex){};($x:tt){$x}");
    }

    private static void sixBracketsOfTheSameFragment() {
        sentence("in six such brackets of the same fragment");
        expandsTo("m!(" + deep(6) + "," + deep(6) + ")", 30, "m($x:ex,$y:ex){$x$y}");
        expandErrs("m!(" + deep(6) + "," + deep(7) + ")", -2001, 0, "m($x:ex,$y:ex){$x$y}");
        expandsTo("m!(((" + deep(6) + ")))", 15, "m((($x:ex))){$x}");
        expandErrs("m!(((" + deep(7) + ")))", -2001, 0, "m((($x:ex))){$x}");
        expandsTo("m!([{" + deep(6) + "}])", 15, "m([{$x:ex}]){$x}");
        expandsTo("[[m!(" + deep(6) + ")]]", 19, "m($x:ex){$x}");
    }

    private static void bracketsThatGrow() {
        sentence("in six such brackets of the same fragment (from wherever)");
        // Each expansion puts one more bracket around the sum: the eighth call's is in seven.
        expandErrs("m!(a+b)", -2001, 7, "m($x:ex){m!($x)}");
        expandErrs("m!(a)", -2004, 10, "m($x:ex){m!($x)}");
        expandsMarked("m!(a+b)", "(.2 (.1 a + b ).1 ).2", "m($x:ex){n!($x)}", "n($x:ex){$x}");
        expandsMarked("m!(a)", "(.2 (.1 a ).1 ).2", "m($x:ex){n!(($x))}", "n($x:ex){$x}");
    }

    private static void bracketsInMoreThanNine() {
        sentence("No opening bracket is in more than nine others. (of a text; no error of an expansion speaks of it)");
        String nine = "[".repeat(9) + "a" + "]".repeat(9);
        expandsTo("m!(" + nine + ")", 21, "m($x:tt){($x)}");
        expandsTo("m!(" + nine + ")", 37, "m($x:tt){" + "{".repeat(9) + "$x" + "}".repeat(9) + "}");
        // What has grown is matched, taken and replaced like any other row.
        expandsTo("m!(" + nine + ")", 19, "m($x:tt){n!({([$x])})}", "n({($x:tt)}){n!($x)};([$x:tt]){$x}");
        String seven = "m(){let a a};(+$($x:tt)*){" + "[".repeat(7) + "m!($($x)*)" + "]".repeat(7) + "}";
        Calls x = with(seven);
        due("63 brackets around the last call", expand(x, "m!(+++++++++)"), 129);
        due("the innermost bracket", x.token(62), '[');
        due("its binder", x.means(65), 64);
        due("the 63rd closing one", x.token(128), ']');
        expandErrs("m!(++++++++++)", -2004, 10, seven);
    }

    private static String deep(int brackets) {
        return "(".repeat(brackets) + "a" + ")".repeat(brackets);
    }

    // ---- calls ----

    private static void whatIsACall() {
        sentence("the first word with a ! and an opening bracket behind it is a CALL");
        for (String call : new String[] {"m!()", "m![]", "m!{}", "m ! ( )"}) {
            expands(call, "7", "m(){7}");
            expands("a " + call + " b", "a 7 b", "m(){7}");
            expands("[" + call + "]", "[ 7 ]", "m(){7}");
        }
        for (String none : new String[] {"m", "m !", "m ! a", "m ! ! ( )", "m ( )", "m + ! ( )", "7 ! ( )", "! ( )",
                "( m ! )", "( m ) ! ( )", "! m ( )", "+ ! ( )", "m ! ;"}) {
            expands(none, none, "m(){7}");
        }
        expandErrs("mm!()", -2000, 0, "m(){7}");
        expandsMarked("m!()n!()", "a.1 b.2", "m(){a}", "n(){b}");
        // The outermost one first: what is in it is not expanded ahead of it.
        expandsMarked("m!(n!())", "b.2", "m($($x:tt)*){$($x)*}", "n(){b}");
        expandErrs("m!(n!())", -2001, 0, "m(b){}", "n(){b}");
    }

    private static void tokensFromWherever() {
        sentence("each of these from wherever, with any marks");
        expandsMarked("m!()!()", "7.2", "m(){n}", "n(){7}");
        expandsMarked("m!()()", "7.2", "m(){n!}", "n(){7}");
        expandsMarked("m!(n)", "7.2", "m($x:id){$x!()}", "n(){7}");
        expandsMarked("m!(n!)", "7.2", "m($x:id$y:tt){$x$y()}", "n(){7}");
        expandsMarked("m!(n())", "7.2", "m($x:id$y:tt){$x!$y}", "n(){7}");
        expandsMarked("m!(())", "7.2", "m($x:tt){n!$x}", "n(){7}");
    }

    private static void definitionMadeLast() {
        sentence("of the definition of that name (by its letters) that was made last");
        Calls x = new Calls();
        for (int i = 0; i < 5; i++) {
            due("define m once more", define(x, i == 3 ? "n(){9}" : "m(){" + i + "}"), i + 1);
            due("m!()", expand(x, "m!()"), 1);
            due("the last m's body", x.token(0), i == 3 ? 302 : 300 + i);
        }
        due("n!()", expand(x, "n!()"), 1);
        due("n's body", x.token(0), 309);
        // An earlier one is not looked at, also if no arm of the last one matches.
        expandErrs("m!()", -2001, 0, "m(){}", "m(a){}");
        expandErrs("m!()", -2000, 0, "mm(){}", "mmm(){}");
    }

    private static void firstArm() {
        sentence("The first of its arms whose pattern matches what is in the bracket is used");
        Calls x = with("m(a){1};($x:id){2};($x:tt){3}");
        due("three calls", expand(x, "m!(a)m!(b)m!(7)"), 3);
        dueText("their arms", outcome(x, false), "1 2 3");
        used(x, 0, 1, 2);
        due("no arm", expand(x, "m!()"), -2001);
        used(x);
        due("no arm behind one", expand(x, "m!(b)m!(b b)"), -2001);
        used(x, 1);
    }

    private static void goingOnAtThatPlace() {
        sentence("one goes on at that place (what is before it begins no call any more), until there is no call");
        expandsMarked("n m!()", "n !.1 (.1 ).1", "m(){!()}", "n(){7}");
        expandsMarked("n m!()!()", "n ! ( )", "m(){}", "n(){7}");
        expandsMarked("n m!()()", "n !.1 ( )", "m(){!}", "n(){7}");
        expandsMarked("n!m!()", "n ! (.1 ).1", "m(){()}", "n(){7}");
        expandsMarked("m!()", "7.2", "m(){n!()}", "n(){7}");
        expandsMarked("m!()m!()", "7.2 7.4", "m(){n!()}", "n(){7}");
    }

    // ---- errors ----

    private static void eachErrorByItself() {
        sentence("Errors: -2000 there is no such definition; -2001 no arm matches; -2002 a match is ambiguous;"
                + " -2004 it would be the 11th expansion; -2003 unequal repetitions; -2005 there would be more than"
                + " 150 tokens");
        String unequal = "m($($x:id)*;$($y:id)*){$($x$y)*}";
        expandErrs("n!()", -2000, 0);
        expandErrs("n!()", -2000, 0, unequal);
        expandErrs("m!()", -2001, 0, unequal);
        expandErrs("m!(a)", -2002, 0, "m($(a)*$(a)*){}");
        expandErrs("m!(a;)", -2003, 0, unequal);
        expandErrs("m!()", -2004, 10, "m(){m!()}");
        expandErrs("m!(" + "+".repeat(76) + ")", -2005, 0, "m($($x:tt)*){$($x$x)*}");
        // Behind a call that was expanded.
        expandErrs("m!(;)n!()", -2000, 1, unequal);
        expandErrs("m!(;)m!()", -2001, 1, unequal);
        expandErrs("m!()m!(a)", -2002, 1, "m($(a)*$(a)*){}");
        expandErrs("m!(;)m!(a;)", -2003, 1, unequal);
        expandErrs("m!()m!(" + "+".repeat(76) + ")", -2005, 1, "m($($x:tt)*){$($x$x)*}");
    }

    private static void elevenExpansions() {
        sentence("-2004 it would be the 11th expansion");
        Calls x = with("m(){a}");
        due("ten", expand(x, "m!()".repeat(10)), 10);
        used(x, 0, 0, 0, 0, 0, 0, 0, 0, 0, 0);
        due("the tenth's mark", x.mark(9), 10);
        due("eleven", expand(x, "m!()".repeat(11)), -2004);
        used(x, 0, 0, 0, 0, 0, 0, 0, 0, 0, 0);
        due("ten again", expand(x, "m!()".repeat(10)), 10);
        // By calls that come from bodies: one for each a, and a last one.
        x = with("m(a$($x:tt)*){m!($($x)*)};(){}");
        due("ten, one from the other", expand(x, "m!(" + "a ".repeat(9) + ")"), 0);
        used(x, 0, 0, 0, 0, 0, 0, 0, 0, 0, 1);
        due("eleven, one from the other", expand(x, "m!(" + "a ".repeat(10) + ")"), -2004);
        used(x, 0, 0, 0, 0, 0, 0, 0, 0, 0, 0);
    }

    private static void tokensAtMost150() {
        sentence("-2005 there would be more than 150 tokens");
        String twice = "m($($x:tt)*){$($x$x)*}";
        expandsTo("m!(" + "+".repeat(75) + ")", 150, twice);
        expandErrs("m!(" + "+".repeat(76) + ")", -2005, 0, twice);
        // What is before the call and behind it counts, the call itself does not.
        expandsTo("+m!(" + "+".repeat(74) + ")+", 150, twice);
        expandErrs("+m!(" + "+".repeat(75) + ")", -2005, 0, twice);
        expandErrs("m!(" + "+".repeat(75) + ")+", -2005, 0, twice);
        expandErrs("+m!(" + "+".repeat(74) + ")++", -2005, 0, twice);
        // What is not taken from the text counts, too: brackets, separators, the body's own tokens.
        expandsTo("m!(" + "+".repeat(75) + ")", 149, "m($($x:tt)*){$($x),*}");
        expandsTo("m!(" + "+".repeat(75) + ")", 150, "m($($x:tt)*){$($x),*;}");
        expandErrs("m!(" + "+".repeat(75) + ")", -2005, 0, "m($($x:tt)*){$($x),*;;}");
        expandErrs("m!(" + "+".repeat(76) + ")", -2005, 0, "m($($x:tt)*){$($x),*}");
        String sum = "a+".repeat(36) + "a";
        expandsTo("m!(" + sum + ")", 150, "m($x:ex){$x$x}");
        expandErrs("m!(" + sum + ")", -2005, 0, "m($x:ex){$x$x;}");
    }

    private static void tokensOnTheWay() {
        sentence("there would be more than 150 tokens (at an expansion, not only in the end)");
        String nested = "m($($x:tt)*){n!($($x$x)*)}";
        String gone = "n($($x:tt)*){}";
        expandsTo("m!(" + "+".repeat(73) + ")", 0, nested, gone);
        expandErrs("+m!(" + "+".repeat(73) + ")", -2005, 0, nested, gone);
        expandErrs("m!(" + "+".repeat(74) + ")", -2005, 0, nested, gone);
        // A second expansion from 150 tokens on.
        String kept = "n($($x:tt)*){$($x)*;;;;}";
        expandsTo("m!(" + "+".repeat(73) + ")", 150, nested, kept);
        expandErrs("m!(" + "+".repeat(73) + ")", -2005, 1, nested, "n($($x:tt)*){$($x)*;;;;;}");
    }

    private static void orderOfErrors() {
        sentence("for one call they are looked at in this order, -2004 ahead of -2003");
        String none = "n(){}";
        String many = "m($($x:id)*;$($y:num)*){" + "$($x)*".repeat(7) + "$($x$y)*};(7$(8)*$(8)*){}";
        String ten = "n!()".repeat(10);
        String nine = "n!()".repeat(9);
        expandErrs(ten + "z!()", -2000, 10, many, none);
        expandErrs(ten + "m!()", -2001, 10, many, none);
        expandErrs(ten + "m!(7 8)", -2002, 10, many, none);
        expandErrs(ten + "m!(;)", -2004, 10, many, none);
        expandErrs(ten + "m!(a;)", -2004, 10, many, none);
        expandErrs(nine + "m!(a;)", -2003, 9, many, none);
        expandsTo(nine + "m!(;)", 0, many, none);
        String a = "a ".repeat(17);
        String numbers = "1 ".repeat(17);
        expandErrs(ten + "m!(" + a + ";" + numbers + ")", -2004, 10, many, none);
        expandErrs("m!(" + a + ";" + numbers + ")", -2005, 0, many, none);
        expandErrs("m!(" + a + ";" + numbers + "1)", -2003, 0, many, none);
        expandErrs("m!(" + "a ".repeat(20) + ";)", -2003, 0, many, none);
        // The first call's error counts, not a later one's.
        expandErrs("m!()z!()", -2001, 0, many, none);
        expandErrs("z!()m!()", -2000, 0, many, none);
    }

    private static void ambiguousArms() {
        sentence("-2002 as soon as an arm's match is ambiguous");
        String ambiguous = "($(a)*$(a)*){2}";
        expands("m!(a)", "1", "m(a){1};" + ambiguous);
        expandErrs("m!(a)", -2002, 0, "m" + ambiguous + ";(a){1}");
        expandErrs("m!(a)", -2002, 0, "m(b){3};" + ambiguous + ";(a){1}");
        expandErrs("m!(a)", -2002, 0, "m(b){3};(c){4};" + ambiguous);
        expands("m!(b)", "3", "m" + ambiguous + ";(b){3}");
        expands("m!()", "2", "m" + ambiguous + ";(){1}");
        expandErrs("m!(c)", -2001, 0, "m" + ambiguous + ";(b){3}");
    }

    // ---- what comes from a body ----

    private static void marksOfTokens() {
        sentence("each token, with the mark that is the number of this expansion (1, 2, ..); for a use what its"
                + " fragment took, with the marks that it has");
        expandsMarked("a", "a");
        expandsMarked("a m!(b)c", "a x.1 b x.1 c", "m($y:id){x$y x}");
        expandsMarked("m!(b)m!(b)", "x.1 b x.2 b", "m($y:id){x$y}");
        expandsMarked("m!(b)", "y.2 x.1 b", "m($y:tt){n!(x$y)}", "n($($z:tt)*){y$($z)*}");
        expandsMarked("m!()".repeat(10), "x.1 x.2 x.3 x.4 x.5 x.6 x.7 x.8 x.9 x.10", "m(){x}");
        expandsMarked("m!((b))", "[.1 ( b ) ].1", "m($y:tt){[$y]}");
    }

    private static void bracketsOfExpressions() {
        sentence("in brackets ( ) with this expansion's mark if it is an ex of more than one token");
        expandsMarked("m!(a)m!(7)", "a 7", "m($x:ex){$x}");
        expandsMarked("m!(a+7)", "(.1 a + 7 ).1", "m($x:ex){$x}");
        expandsMarked("m!((a))", "(.1 ( a ) ).1", "m($x:ex){$x}");
        expandsMarked("m!((a))", "( a )", "m($x:tt){$x}");
        expandsMarked("m!(a)m!(a)m!(a+b)", "a a (.3 a + b ).3", "m($x:ex){$x}");
    }

    private static void roundsAndSeparators() {
        sentence("for a repetition its parts, once for each round, with the separator, if there is one, between each"
                + " two rounds (whatever its mark)");
        for (String mark : new String[] {"*", "+", "?"}) {
            expandsMarked("m!()", "", "m($($x:num)*){$($x)" + mark + "}");
            expandsMarked("m!(1)", "1", "m($($x:num)*){$($x)" + mark + "}");
            expandsMarked("m!(1 2 3)", "1 2 3", "m($($x:num)*){$($x)" + mark + "}");
        }
        for (String mark : new String[] {"*", "+"}) {
            expandsMarked("m!()", "", "m($($x:num)*){$($x)," + mark + "}");
            expandsMarked("m!(1)", "1", "m($($x:num)*){$($x)," + mark + "}");
            expandsMarked("m!(1 2 3)", "1 ,.1 2 ,.1 3", "m($($x:num)*){$($x)," + mark + "}");
        }
        // The pattern's separator and mark are not the body's.
        expandsMarked("m!(1,2)", "1 2", "m($($x:num),+){$($x)*}");
        expandsMarked("m!(1)m!()", "1", "m($($x:num)?){$($x);+}");
        // Rounds of one repetition are not the other one's, nor those of an earlier call.
        String both = "m($($x:id)*$($y:num)*){$($x,)*$($y;)*}";
        expands("m!(a b 1)", "a , b , 1 ;", both);
        expands("m!(a b c 1 2)", "a , b , c , 1 ; 2 ;", both);
        expands("m!(1 2 3)m!(a)m!()m!(1)", "1 ; 2 ; 3 ; a , 1 ;", both);
    }

    private static void roundsOfTwoRepetitions() {
        sentence("of two, if the repetition of the body is in another one, the inner one, as it was in the present"
                + " round of the outer one");
        String m = "m($([$($x:num)*])*){$({$($x),*})*}";
        expands("m!()", "", m);
        expands("m!([])", "{ }", m);
        expands("m!([1])", "{ 1 }", m);
        expands("m!([][1 2][][3])", "{ } { 1 , 2 } { } { 3 }", m);
        expands("m!([1 2 3])m!([1 2])m!([])m!()", "{ 1 , 2 , 3 } { 1 , 2 } { }", m);
        expands("m!(a[1]b[]c[2 3])", "a 1 ; b ; c 2 3 ;", "m($($y:id[$($x:num)*])*){$($y$($x)*;)*}");
        // Rounds of the inner one are counted from its own beginning, in each round of the outer one.
        expands("m!(1 2,3,4 5)", "1 2 ; 3 ; 4 5", "m($($($x:num)+),*){$($($x)*);*}");
    }

    private static void unequalRepetitions() {
        sentence("If these numbers differ, the repetitions are UNEQUAL.");
        String m = "m($($x:id)*;$($y:num)*){$($x$y)*}";
        for (int i = 0; i <= 3; i++) {
            for (int j = 0; j <= 3; j++) {
                String text = "m!(" + "a ".repeat(i) + ";" + "1 ".repeat(j) + ")";
                if (i == j) {
                    expandsTo(text, 2 * i, m);
                } else {
                    expandErrs(text, -2003, 0, m);
                }
            }
        }
        // In repetitions of their own they may differ.
        expands("m!(a b;1)", "a b 1", "m($($x:id)*;$($y:num)*){$($x)*$($y)*}");
        // Of three, each one counts.
        String three = "m($($x:id)*;$($y:num)*;$($z:id)*){$($x$y$z)*}";
        expands("m!(a;1;b)", "a 1 b", three);
        expandErrs("m!(;1;b)", -2003, 0, three);
        expandErrs("m!(a;;b)", -2003, 0, three);
        expandErrs("m!(a;1;)", -2003, 0, three);
        // With ? there are no rounds or one.
        String maybe = "m($($x:id)?;$($y:num)?){$($x$y)*}";
        expands("m!(a;1)m!(;)", "a 1", maybe);
        expandErrs("m!(a;)", -2003, 0, maybe);
        expandErrs("m!(;1)", -2003, 0, maybe);
    }

    private static void unequalInnerRepetitions() {
        sentence("as many rounds as each repetition of the pattern had that is, for a use in it, the one at the same"
                + " place from outside");
        String pairs = "m($([$($x:id)*]{$($y:num)*})*){$($($x$y)*;)*}";
        expands("m!([a b]{1 2}[]{}[c]{3})", "a 1 b 2 ; ; c 3 ;", pairs);
        expandErrs("m!([a b]{1})", -2003, 0, pairs);
        expandErrs("m!([a]{1}[]{2})", -2003, 0, pairs);
        // As many in all, but not in each round.
        expandErrs("m!([a]{}[]{1})", -2003, 0, pairs);
        String apart = "m($([$($x:id)*])*;$($y:num)*){$($y$($x)*)*}";
        expands("m!([a b][];1 2)", "1 a b 2", apart);
        expandErrs("m!([a b][];1)", -2003, 0, apart);
        expandErrs("m!([a b];1 2)", -2003, 0, apart);
        // No round of the outer one: the inner one is not come to.
        expands("m!(;)", "", apart);
    }

    // ---- meaning ----

    private static void binders() {
        sentence("a word of the outcome is a BINDER if the token right before it is the word let (of any mark). A"
                + " binder means itself.");
        means("let a", -1, 1);
        means("a", -1);
        means("let", -1);
        means("le a", -1, -1);
        means("lex a", -1, -1);
        means("let 7", -1, -1);
        means("let=a", -1, -1, -1);
        means("let(a)", -1, -1, -1, -1);
        means("(let)a", -1, -1, -1, -1);
        means("let a b", -1, 1, -1);
        Calls x = with("l(){let}", "m($x:id){let$x}");
        due("a let of an expansion, a word of the text", expand(x, "l!()a"), 2);
        meant(x, "l!()a", -1, 1);
        due("the other way", expand(x, "m!(a)"), 2);
        meant(x, "m!(a)", -1, 1);
    }

    private static void meanings() {
        sentence("Another word means the latest binder before it; or none.");
        means("a let a", -1, -1, 2);
        means("let a a", -1, 1, 1);
        means("let a let a a", -1, 1, -1, 3, 3);
        means("let a a let a a", -1, 1, 1, -1, 4, 4);
        means("let a let b a b c", -1, 1, -1, 3, 1, 3, -1);
        means("let a" + " ;".repeat(5) + " a", -1, 1, -1, -1, -1, -1, -1, 1);
        Calls x = new Calls();
        due("a far binder", expand(x, "let a" + "+".repeat(114) + "a"), 117);
        due("the last word means it", x.means(116), 1);
        due("the sign before it means none", x.means(115), -1);
    }

    private static void closedBrackets() {
        sentence("that is not in a bracket that is closed before it");
        for (String pair : new String[] {"()", "[]", "{}"}) {
            char opening = pair.charAt(0);
            char closing = pair.charAt(1);
            means(opening + "let a a" + closing + "a", -1, -1, 2, 2, -1, -1);
            means("let a" + opening + "a" + closing + "a", -1, 1, -1, 1, -1, 1);
            means("let a" + opening + "let a" + closing + "a", -1, 1, -1, -1, 4, -1, 1);
            means(opening + "let a" + opening + "a" + closing + closing, -1, -1, 2, -1, 2, -1, -1);
            means(opening + "let a" + closing + opening + "a" + closing, -1, -1, 2, -1, -1, -1, -1);
            means("let a" + pair + "a", -1, 1, -1, -1, 1);
            means(opening + "let a" + pair + closing + "a", -1, -1, 2, -1, -1, -1, -1);
            means(opening + "let a" + pair + "a" + closing, -1, -1, 2, -1, -1, 2, -1);
            means("let a" + opening + pair + closing + "a", -1, 1, -1, -1, -1, -1, 1);
            means("" + opening + opening + "let a" + closing + "a" + closing, -1, -1, -1, 3, -1, -1, -1);
        }
    }

    private static void lettersAndMarks() {
        sentence("with the same letters and mark");
        means("let a aa aaa b", -1, 1, -1, -1, -1);
        means("let aa a aa", -1, 1, -1, 1);
        Calls x = with("m($x:tt){let a $x a}", "n(){a}");
        due("two marks", expand(x, "m!(a)a"), 5);
        // let.1 a.1 a a.1 a
        meant(x, "m!(a)a", -1, 1, -1, 1, -1);
        due("the text's binder", expand(x, "let a m!(a)n!()"), 7);
        // let a let.1 a.1 a a.1 a.2
        meant(x, "let a m!(a)n!()", -1, 1, -1, 3, 1, 3, -1);
        due("two expansions of one arm", expand(x, "m!(;)m!(;)"), 8);
        meant(x, "m!(;)m!(;)", -1, 1, -1, 1, -1, 5, -1, 5);
    }

    // ---- promises 4 and 7 to 11 ----

    private static void outcomeOfErrors() {
        sentence("in all these cases the outcome has none; nothing is typed then");
        Calls x = with("m($($x:id)*;$($y:id)*){$($x$y)*}", "l(){l!()}", "b($($x:tt)*){$($x$x)*}", "p($(a)*$(a)*){}");
        String none = "arms 1 1 1 1 -1, used -1, outcome , means -1";
        String[] texts = {"(", "A", "z!()", "m!()", "p!(a)", "m!(a;)", "l!()", "b!(" + "+".repeat(76) + ")"};
        int[] errors = {-2, -1, -2000, -2001, -2002, -2003, -2004, -2005};
        for (int i = 0; i < texts.length; i++) {
            due("an outcome", expand(x, "let a"), 2);
            due("expand " + texts[i], expand(x, texts[i]), errors[i]);
            String done = errors[i] == -2004 ? none.replace("used", "used" + " 0".repeat(10)) : none;
            dueText("state behind " + texts[i], state(x), done);
            due("nothing is typed behind " + texts[i], x.define(), -1);
        }
    }

    private static void codesOfTokens() {
        sentence("the code of a sign or bracket; 300 + a number; for a word 1000 + its letters as digits in base 27"
                + " (a is 1, .., z is 26)");
        Calls x = new Calls();
        String signs = "+*,;=:!?>$()[]{}";
        due("signs and brackets", expand(x, signs), signs.length());
        for (int i = 0; i < signs.length(); i++) {
            due("token " + signs.charAt(i), x.token(i), signs.charAt(i));
        }
        due("numbers", expand(x, "0 1 9 10 99"), 5);
        int[] numbers = {300, 301, 309, 310, 399};
        for (int i = 0; i < numbers.length; i++) {
            due("number " + i, x.token(i), numbers[i]);
        }
        due("words", expand(x, "a z aa az za zz aaa zzz let"), 9);
        int[] words = {1001, 1026, 1028, 1053, 1703, 1728, 1757, 20682, 9903};
        for (int i = 0; i < words.length; i++) {
            due("word " + i, x.token(i), words[i]);
        }
    }

    private static void placesOfTheOutcome() {
        sentence("Token k (from 0) of the outcome; -1 if there is none (token, mark, means).");
        Calls x = with("m($($x:tt)*){$($x$x)*}");
        noPlace(x, 0);
        int[] sizes = {0, 1, 2, 150};
        String[] texts = {"", "a", "let a", "m!(a" + "+".repeat(73) + "b)"};
        for (int i = 0; i < sizes.length; i++) {
            if (x.left() < 120) {
                x = with("m($($x:tt)*){$($x$x)*}");
            }
            due("expand " + texts[i], expand(x, texts[i]), sizes[i]);
            for (int k : new int[] {0, sizes[i] - 1}) {
                if (sizes[i] > 0) {
                    due("token " + k + " of " + sizes[i] + " is there", x.token(k) > 1000 ? 1 : 0, 1);
                    due("mark " + k + " of " + sizes[i], x.mark(k), 0);
                }
            }
            noPlace(x, sizes[i]);
        }
    }

    private static void noPlace(Calls x, int size) {
        for (int k : new int[] {-1, -2, size, size + 1, 150, 151, 1 << 16, Integer.MIN_VALUE, Integer.MAX_VALUE}) {
            due("token " + k + " of " + size, x.token(k), -1);
            due("mark " + k + " of " + size, x.mark(k), -1);
            due("means " + k + " of " + size, x.means(k), -1);
        }
    }

    private static void expansionsDone() {
        sentence("How many expansions were done, also if an error came then (the call at which it came is none), for"
                + " the text that was expanded last; 0 if there was none, or it was faulty.");
        Calls x = with("m(){a}", "n($x:id){}");
        due("no text yet", x.expansions(), 0);
        due("three calls", expand(x, "m!()m!()m!()"), 3);
        due("three done", x.expansions(), 3);
        due("an error at the third", expand(x, "m!()m!()n!()m!()"), -2001);
        due("two done", x.expansions(), 2);
        due("an error at the first", expand(x, "n!()m!()"), -2001);
        due("none done", x.expansions(), 0);
        due("one call", expand(x, "m!()"), 1);
        due("one done", x.expansions(), 1);
        due("a definition", define(x, "k(){}"), 3);
        due("still one", x.expansions(), 1);
        due("no definition", define(x, "k"), -2);
        due("one even now", x.expansions(), 1);
        due("typed only", typed(x, 'a', 1), 1);
        due("and still one", x.expansions(), 1);
        due("faulty behind calls", expand(x, " m!()m!()("), -12);
        due("none of a faulty text", x.expansions(), 0);
        due("one call again", expand(x, "m!()"), 1);
        due("nothing typed", x.expand(), 0);
        due("none of nothing", x.expansions(), 0);
    }

    private static void armsUsed() {
        sentence("Which arm (from 0) was used in expansion k (from 1) of that text; -1 if there was none.");
        Calls x = with("m(a){};(b){};(c){}", "n(){z!()}");
        used(x);
        due("one", expand(x, "m!(c)"), 0);
        used(x, 2);
        due("four", expand(x, "m!(b)m!(a)m!(c)m!(a)"), 0);
        used(x, 1, 0, 2, 0);
        due("fewer", expand(x, "m!(b)m!(b)"), 0);
        used(x, 1, 1);
        due("an error behind two", expand(x, "m!(c)n!()m!(a)"), -2000);
        used(x, 2, 0);
        due("an error at once", expand(x, "m!()"), -2001);
        used(x);
        due("ten", expand(x, "m!(a)m!(b)m!(c)m!(a)m!(b)m!(c)m!(a)m!(b)m!(c)m!(b)"), 0);
        used(x, 0, 1, 2, 0, 1, 2, 0, 1, 2, 1);
        due("faulty", expand(x, "m!(a) )"), -7);
        used(x);
        due("no call", expand(x, "a"), 1);
        used(x);
    }
}
