/** Tests of the promises 1 to 11, one method or more for each: ordinary inputs, the edges, and wrong inputs. */
public final class PromiseTests extends Checks {
    public static void main(String[] args) {
        newObject();
        typing();
        refusedTyping();
        faultyTokens();
        faultyDefinitions();
        faultyRepetitions();
        nestingOfDefinitions();
        checkSameWord();
        checkMatchesNothing();
        checkLooseExpression();
        checkWrongBody();
        orderOfChecks();
        definingFiveTimes();
        definitionsAndArms();
        faultyTexts();
        expandingWithoutCalls();
        callsAndTheirPlaces();
        choiceOfArm();
        matchingFragments();
        matchingBrackets();
        matchingRepetitions();
        ambiguousMatches();
        manyThreads();
        matchingExpressions();
        bodies();
        nestedRepetitions();
        unequalRepetitions();
        limits();
        orderOfErrors();
        tokens();
        marks();
        meanings();
        expansionsAndUsed();
        finish();
    }

    // ---- promises 1 and 2 ----

    private static void newObject() {
        Calls x = new Calls();
        due("new: definitions", x.definitions(), 0);
        due("new: arms", x.arms(0), -1);
        due("new: token", x.token(0), -1);
        due("new: mark", x.mark(0), -1);
        due("new: means", x.means(0), -1);
        due("new: expansions", x.expansions(), 0);
        due("new: used", x.used(1), -1);
        due("new: nothing to expand", x.expand(), 0);
        due("new: nothing to define", x.define(), -1);
    }

    private static void typing() {
        Calls x = new Calls();
        due("highest byte first", typed(x, ('a' << 8) + '+', 2), 1);
        due("only the lowest n bytes count", typed(x, 0xFF00FF00 + 'b', 1), 1);
        due("four bytes", typed(x, (' ' << 24) + ('c' << 16) + ('d' << 8) + ' ', 4), 1);
        due("typed", x.expand(), 4);
        dueText("typed", outcome(x, false), "a + b cd");
        due("nothing is typed behind expand", x.expand(), 0);
        typed(x, "A");
        due("typed for define", x.define(), -1);
        due("nothing is typed behind define", x.expand(), 0);
        due("the highest character", typed(x, 126, 1), 1);
        due("is none of a token", x.expand(), -1);
    }

    private static void refusedTyping() {
        Calls x = new Calls();
        for (int n : new int[] {0, 5, -1, Integer.MIN_VALUE, Integer.MAX_VALUE}) {
            due("type with n " + n, typed(x, 0x61616161, n), 0);
        }
        due("31", typed(x, 0x61611F61, 4), 0);
        due("127", typed(x, 0x7F616161, 4), 0);
        due("a negative byte", typed(x, 0x616161FF, 4), 0);
        due("0", typed(x, 'a', 2), 0);
        due("refused ones change nothing", x.expand(), 0);
        typed(x, "+".repeat(118));
        due("121 characters", typed(x, 0x2B2B2B, 3), 0);
        due("120 characters", typed(x, 0x2B2B, 2), 1);
        due("one more", typed(x, 0x2B, 1), 0);
        due("all of 120", x.expand(), 120);
    }

    // ---- promise 3: faults ----

    private static void faultyTokens() {
        expandFails("abcd", 0);
        expandFails("a abcd", 2);
        expandFails("07", 0);
        expandFails("00", 0);
        expandFails("a100", 1);
        expandFails("a1 1a 0 10 99 abc 123", 18);
        for (char c : "ABZ-./<@\\^_`|~\"#%&'".toCharArray()) {
            expandFails("a " + c, 2);
            defineFails("m (" + c, 3);
        }
        defineFails("abcd (){}", 0);
        defineFails("m (07){}", 3);
        defineFails("m ($abcd:id){}", 4);
        expands("a1", "a 1");
        expands("1a", "1 a");
        expands("  a  ", "a");
        expands("+*,;=:!?>$", "+ * , ; = : ! ? > $");
    }

    private static void faultyDefinitions() {
        defineFails("", 0);
        defineFails("   ", 3);
        defineFails("+ (){}", 0);
        defineFails("12 (){}", 0);
        defineFails("m", 1);
        defineFails("m  ", 3);
        defineFails("m n", 2);
        defineFails("m [", 2);
        defineFails("m (", 3);
        defineFails("m (a", 4);
        defineFails("m (a]", 4);
        defineFails("m ([)", 4);
        defineFails("m ()", 4);
        defineFails("m ()(", 4);
        defineFails("m ();", 4);
        defineFails("m (){", 5);
        defineFails("m (){a)", 6);
        defineFails("m (){}a", 6);
        defineFails("m (){}(", 6);
        defineFails("m (){};", 7);
        defineFails("m (){};;", 7);
        defineFails("m (){} ; m", 9);
        defineFails("m(){};(){};(){};", 15);
        defineFails("m(){};(){};(){};(){}", 15);
        defineFails("m ($", 4);
        defineFails("m ($)", 4);
        defineFails("m ($1", 4);
        defineFails("m ($$", 4);
        defineFails("m ($[", 4);
        defineFails("m ($x", 5);
        defineFails("m ($x)", 5);
        defineFails("m ($x id", 6);
        defineFails("m ($x:", 6);
        defineFails("m ($x:)", 6);
        defineFails("m ($x:ident", 6);
        defineFails("m ($x:a", 6);
        defineFails("m (){$", 6);
        defineFails("m (){$}", 6);
        defineFails("m (){$,", 6);
        defineFails("m (){$[", 6);
        defines("m(){}");
        defines(" m ( $ x : id $y:num $z:tt $w:ex ) { $ x $y:id } ");
        defines("id ($id:id $num:num $tt:tt $ex:ex){$id $num $tt $ex}");
        defines("m (+*?:!=>;,12 a){+*?:!=>;,12 a}");
        defines("m(){};(){} ; (){}");
    }

    private static void faultyRepetitions() {
        defineFails("m ($(", 5);
        defineFails("m ($(a", 6);
        defineFails("m ($(a]", 6);
        defineFails("m ($(a)", 7);
        defineFails("m ($(a))", 7);
        defineFails("m ($(a)(", 7);
        defineFails("m ($(a)$", 7);
        defineFails("m ($(a),", 8);
        defineFails("m ($(a),)", 8);
        defineFails("m ($(a),,", 8);
        defineFails("m ($(a),?", 8);
        defineFails("m ($(a) b", 9);
        defineFails("m ($(a) b ?", 10);
        defineFails("m ($x:tt){$($x)", 15);
        defineFails("m ($x:tt){$($x)}", 15);
        defineFails("m ($x:tt){$($x),?", 16);
        defineFails("m ($($($(", 8);
        defineFails("m ($([$({$(", 10);
        defineFails("m (){$($($(", 10);
        defineFails("m ($(a)*$(a)*$(a)*$(a)*$(", 24);
        defineFails("m ($(a$(a)*$(a)*)*$(a)*[$(", 25);
        defines("m ($(a)*$(a)+$(a)?$(a),*){}");
        defines("m ($(a)*$(a)*$(a)*$(a)*){};($(a)*$(a)*$(a)*$(a)*){}");
        defines("m ($($x:tt)*){$($x)*$($x)*$($x)*$($x)*$($x)*}");
        defines("m ($(a)+*$(a)*+$(a)??$(a)a*){}");
        defines("m ($(a)1+$(a):*$(a)!+$(a)=*){}");
        defines("m ($($($x:id)*;)*){$([$($x),*])*}");
    }

    private static void nestingOfDefinitions() {
        String nine = "([{([{([";
        String closed = "])}])}])";
        defines("m (" + nine + "(" + ")" + closed + "){}");
        defineFails("m (" + nine + "([", 12);
        defineFails("m (" + nine + "($(", 13);
        defines("m (" + nine + "$(a)*" + closed + "){}");
        defineFails("m (){" + nine + "([", 14);
        defines("m (){" + nine + "()" + closed + "}");
    }

    // ---- promise 3: checks ----

    private static void checkSameWord() {
        defineRefused("m ($x:id $x:id){}", -1000);
        defineRefused("m ($x:id [$($x:num)*]){}", -1000);
        defineRefused("m (){};($x:id,$x:tt){}", -1000);
        defines("m ($x:id){$x};($x:num){$x}");
        defines("m ($x:id x x){$x}");
    }

    private static void checkMatchesNothing() {
        defineRefused("m ($()*){}", -1001);
        defineRefused("m ($()+){}", -1001);
        defineRefused("m ($()?){}", -1001);
        defineRefused("m ($(),*){}", -1001);
        defineRefused("m ($($(a)*)+){}", -1001);
        defineRefused("m ($($(a)?$(b)*)?){}", -1001);
        defineRefused("m ([$($(a),*)*]){}", -1001);
        defines("m ($($(a)+)*){}");
        defines("m ($($(a)?b)*){}");
        defines("m ($(())*){}");
        defines("m ($([$(a)*])*){}");
        defineRefused("m (){$()*}", -1003);
    }

    private static void checkLooseExpression() {
        for (String behind : new String[] {"", ",", ";", ",a", ";+", "$(,)*", "$(;a)?$(,b)*", "$(,)+a", "$($(,)?;)*"}) {
            defines("m ($x:ex" + behind + "){}");
            defines("m ([$x:ex" + behind + "]){}");
            defines("m (a{$x:ex" + behind + "}a){}");
        }
        for (String behind : new String[] {" a", "+", "=", ":", "12", "()", "[]", "{}", "$y:tt", "$(a)*", "$(,)*a",
                "$(,)?$(a)?", "$(;)*$y:id", "$($(,)?a)*", "$($y:ex)+", "$([,])?"}) {
            defineRefused("m ($x:ex" + behind + "){}", -1002);
        }
        defines("m ($($x:ex),*){}");
        defines("m ($($x:ex);+,a){}");
        defines("m ($($x:ex)?){}");
        defines("m ($($x:ex)?,){}");
        defines("m ($($x:ex,)*){}");
        defines("m ($(,$x:ex)*){}");
        defines("m ($($(,)?,$x:ex)*){}");
        defines("m ($($($x:ex),*;)*){}");
        defines("m ($($($x:ex),+)?){}");
        defineRefused("m ($($x:ex)*){}", -1002);
        defineRefused("m ($($x:ex)+){}", -1002);
        defineRefused("m ($($x:ex)=*){}", -1002);
        defineRefused("m ($($x:ex),*a){}", -1002);
        defineRefused("m ($($x:ex)?a){}", -1002);
        defineRefused("m ($(a $x:ex)*){}", -1002);
        defineRefused("m ($($(a)?,$x:ex)*){}", -1002);
        defineRefused("m ($($($x:ex),+)a*){}", -1002);
        defineRefused("m ($($($x:ex),+)+){}", -1002);
        defines("m ($x:tt a $y:id+){}");
    }

    private static void checkWrongBody() {
        defineRefused("m ($x:id){$y}", -1003);
        defineRefused("m (){$x}", -1003);
        defineRefused("m ($x:id){};(){$x}", -1003);
        defineRefused("m ($x:id){$($x)*}", -1003);
        defineRefused("m ($($x:id)*){$x}", -1003);
        defineRefused("m ($($x:id)*){$($($x)*)*}", -1003);
        defineRefused("m ($($($x:id)*;)*){$($x)*}", -1003);
        defineRefused("m ($($x:id)* $y:num){$($x $y)*}", -1003);
        defineRefused("m ($x:id){$x $(a)*}", -1003);
        defineRefused("m ($($x:id)*){$($x $(a)*)*}", -1003);
        defines("m ($($x:id)?){[$({$x})+]}");
        defines("m ($($($x:id)*;)*){$(a$($x)*)*}");
        defines("m ($($x:id)* $y:num){$y $($x)*}");
    }

    private static void orderOfChecks() {
        defineRefused("m ($x:ex $x:ex $()*){$y}", -1000);
        defineRefused("m ($()* $x:ex a){$y}", -1001);
        defineRefused("m ($x:ex a){$y}", -1002);
        defineRefused("m (){$y};($x:id $x:id){}", -1003);
        defineRefused("m ($x:ex a){};($x:id $x:id){}", -1002);
        defineFails("m ($x:id $x:id){", 16);
        Calls x = with("a(){}", "b(){}", "c(){}", "d(){}", "e(){}");
        due("a fault ahead of -1004", define(x, "m (){"), -6);
        due("a check ahead of -1004", define(x, "m (){$x}"), -1003);
        due("six definitions", define(x, "m (){}"), -1004);
        due("still five", x.definitions(), 5);
        due("arms of none", x.arms(5), -1);
    }

    private static void definingFiveTimes() {
        Calls x = new Calls();
        for (int i = 1; i <= 5; i++) {
            due("a definition that is none", define(x, "m (){$x}"), -1003);
            due("definition " + i, define(x, "m (a){};(){" + i + "}"), i);
            due("the last one counts", expand(x, "m!()"), 1);
            due("its body", x.token(0), 300 + i);
        }
        due("six", define(x, "m (){77}"), -1004);
        due("it is none", expand(x, "m!()"), 1);
        due("the fifth is kept", x.token(0), 305);
        due("a faulty one leaves it", define(x, "m (){78"), -8);
        due("the outcome stays", x.token(0), 305);
        due("expansions stay", x.expansions(), 1);
        due("used stays", x.used(1), 1);
    }

    // ---- promises 5 and 6 ----

    private static void definitionsAndArms() {
        Calls x = new Calls();
        define(x, "m (){};(){};(){}");
        define(x, "n (){$x}");
        define(x, "m (){};(a){}");
        define(x, "k (){}");
        due("definitions", x.definitions(), 3);
        due("arms 0", x.arms(0), 3);
        due("arms 1", x.arms(1), 2);
        due("arms 2", x.arms(2), 1);
        due("arms 3", x.arms(3), -1);
        due("arms -1", x.arms(-1), -1);
        due("arms least", x.arms(Integer.MIN_VALUE), -1);
        due("arms most", x.arms(Integer.MAX_VALUE), -1);
    }

    // ---- promise 4: expanding ----

    private static void faultyTexts() {
        expandFails("(", 1);
        expandFails(")", 0);
        expandFails("(a] ", 2);
        expandFails("([)]", 2);
        expandFails("{ ( ) ", 6);
        expandFails("a}", 1);
        expandFails("(((((((((((", 10);
        expands("[[[[[[[[[[]]]]]]]]]]", "[ [ [ [ [ [ [ [ [ [ ] ] ] ] ] ] ] ] ] ]");
        expands("[](){}", "[ ] ( ) { }");
        Calls x = with("m(){a}");
        due("expanded", expand(x, "m!()"), 1);
        due("faulty", expand(x, "m!() ("), -7);
        due("a faulty text has no outcome", x.token(0), -1);
        due("a faulty text has no expansions", x.expansions(), 0);
        due("a faulty text has no arm", x.used(1), -1);
    }

    private static void expandingWithoutCalls() {
        expands("", "");
        expands("   ", "");
        expands("a!b 7!(c) +!(d) m ! + ()", "a ! b 7 ! ( c ) + ! ( d ) m ! + ( )");
        expands("$x $(a)* $", "$ x $ ( a ) * $");
        expands("a!", "a !");
    }

    private static void callsAndTheirPlaces() {
        expands("m!() m![] m ! { }", "a a a", "m(){a}");
        expands("[m!()]{(m!())}", "[ a ] { ( a ) }", "m(){a}");
        expands("let!(a)", "a a", "let($x:tt){$x $x}");
        expands("m!(n!(b))", "b b", "m($($x:tt)*){$($x)*}", "n($x:id){$x $x}");
        expands("m!(n!(b))", "7", "m(n!(b)){7}", "n($x:id){$x $x}");
        expands("m!()!()", "7", "m(){n}", "n(){7}");
        expands("m!()()", "7", "m(){n!}", "n(){7}");
        expands("m!()(b)", "7 b", "m(){n!}", "n($x:tt){7$x}");
        expands("a m!()!(b)", "a ! ( b )", "m(){}", "a($x:tt){$x}");
        expands("a m!()(b)", "a ! ( b )", "m(){!}", "a($x:tt){$x}");
        expands("m!(n!)", "n ! 7", "m($($x:tt)*){$($x)*7}");
        expandsTo("n!()", -2000, "m(){}");
        expandsTo("m!(n!())", 0, "m($($x:tt)*){}");
        expandsTo("m!(n!())", -2000, "m($($x:tt)*){$($x)*}");
        Calls x = with("m(){a}", "m(b){c}");
        due("the definition made last alone counts", expand(x, "m!()"), -2001);
        due("it matches", expand(x, "m!(b)"), 1);
    }

    private static void choiceOfArm() {
        String m = "m(a){1};($x:id){2};($x:tt){3}";
        expands("m!(a)m!(b)m!(7)m!([])", "1 2 3 3", m);
        expandsTo("m!()", -2001, m);
        expandsTo("m!(a a)", -2001, m);
        expandsTo("m!(a)", 1, "m(a){1};($(a)*$(a)*){2}");
        expandsTo("m!(a)", -2002, "m($(a)*$(a)*){2};(a){1}");
        expandsTo("m!(b)", 1, "m($(a)*$(a)*){2};(b){1}");
        expandsTo("m!(a)", -2002, "m(b){};($(a)*$(a)*){2};(a){1}");
    }

    private static void matchingFragments() {
        expandsTo("m!(a)", 0, "m($x:id){}");
        expandsTo("m!(7)", -2001, "m($x:id){}");
        expandsTo("m!(+)", -2001, "m($x:id){}");
        expandsTo("m!((a))", -2001, "m($x:id){}");
        expandsTo("m!(7)", 0, "m($x:num){}");
        expandsTo("m!(a)", -2001, "m($x:num){}");
        expandsTo("m!()", -2001, "m($x:tt){}");
        expandsTo("m!(a b)", -2001, "m($x:tt){}");
        expands("m!(([a]{b}))", "( [ a ] { b } )", "m($x:tt){$x}");
        expands("m!($)", "$", "m($x:tt){$x}");
        expands("m![(a)b]", "b ( a )", "m($x:tt$y:tt){$y$x}");
    }

    private static void matchingBrackets() {
        String m = "m((a)[$x:num]{}){$x}";
        expands("m!((a)[7]{})", "7", m);
        expandsTo("m!((a)[7])", -2001, m);
        expandsTo("m!((a)[7]{}b)", -2001, m);
        expandsTo("m!((a b)[7]{})", -2001, m);
        expandsTo("m!(()[7]{})", -2001, m);
        expandsTo("m!([a][7]{})", -2001, m);
        expands("m!([a b][][c])", "a b ; ; c ;", "m($([$($x:id)*])*){$($($x)*;)*}");
    }

    private static void matchingRepetitions() {
        String star = "m($($x:id)*){$($x;)*}";
        expands("m!()m!(a)m!(a b)", "a ; a ; b ;", star);
        String plus = "m($($x:id),+){$($x;)*}";
        expands("m!(a)m!(a,b)", "a ; a ; b ;", plus);
        expandsTo("m!()", -2001, plus);
        expandsTo("m!(a,)", -2001, plus);
        expandsTo("m!(,a)", -2001, plus);
        expandsTo("m!(a b)", -2001, plus);
        expandsTo("m!(a,,b)", -2001, plus);
        String maybe = "m($($x:id)?){$($x;)*}";
        expands("m!()m!(a)", "a ;", maybe);
        expandsTo("m!(a b)", -2001, maybe);
        expands("m!(a let b)", "a b", "m($($x:id)let*){$($x)*}");
        expands("m!(1 let 2)", "1 2", "m($($x:num)let*){$($x)*}");
        expands("m!(1,2,)m!(1,)", "1 2 1", "m($($x:num,)*){$($x)*}");
        String two = "m($(a)*,){1};($(aa)*,){2}";
        expands("m!(,)m!(a,)m!(a a,)m!(aa,)", "1 1 1 2", two);
        expandsTo("m!(a aa,)", -2001, two);
    }

    private static void ambiguousMatches() {
        expandsTo("m!(a)", -2002, "m($(a)*$(a)*){}");
        expandsTo("m!()", 0, "m($(a)*$(a)*){}");
        expandsTo("m!(b)", -2001, "m($(a)*$(a)*){}");
        expandsTo("m!(a b)", 1, "m($(a)*$x:num){};($x:id b){$x}");
        expandsTo("m!(a)", -2002, "m($(a)*$x:id){}");
        expandsTo("m!(b)", 0, "m($(a)*$x:id){}");
        expandsTo("m!(7)", -2002, "m($($x:tt)*$y:tt){}");
        expandsTo("m!(7)", -2002, "m($($x:num)?$($y:ex)?){}");
        expandsTo("m!(a)", 0, "m($($x:num)?$($y:ex)?){}");
        expandsTo("m!(())", -2002, "m($($x:num)?$(())?$y:tt){}");
        expandsTo("m!((a b))", -2002, "m($((a b))?$($x:ex)?){}");
        expandsTo("m!(a a)", -2002, "m($($(a)+)+){}");
        expandsTo("m!(a)", 0, "m($($(a)+)+){}");
        expandsTo("m!(a,b)", -2002, "m($($x:ex),*$(,b)?){}");
        expandsTo("m!(a,a,b)", 0, "m($(a),*,b){}");
        expandsTo("m!(a,a,b)", -2002, "m($(a),*,$x:id){}");
    }

    private static void manyThreads() {
        String many = "+".repeat(110);
        expandsTo("m!(" + many + ")", -2002, "m($($(+)+)+){}");
        expandsTo("m!(" + many + ",)", -2001, "m($($(+)+)+){}");
        expandsTo("m!(" + many + ")", -2002, "m($(+)*$(+)*$(+)*$(+)*){}");
        expandsTo("m!(" + many + "*)", -2002, "m($($(+)*$(+)*$(+)**)*){}");
        expandsTo("m!(" + many + ")", 1, "m($($(+)+)+,){};($(+)*){1}");
    }

    private static void matchingExpressions() {
        String m = "m($x:ex){$x}";
        expands("m!(a)m!(7)m!(let)", "a 7 let", m);
        expandsMarked("m!(a+7*b)", "(.1 a + 7 * b ).1", m);
        expandsMarked("m!((a))", "(.1 ( a ) ).1", m);
        expandsMarked("m!((a+(b))*(7))", "(.1 ( a + ( b ) ) * ( 7 ) ).1", m);
        for (String no : new String[] {"", "+", "()", "(a b)", "(a+)", "[a]", "a+", "a b", "+a", "a++b", "(+a)", "a=b",
                "$", "a+()", "a+[b]", "(a[])", "(a,b)", "a+(b=)", "a,"}) {
            expandsTo("m!(" + no + ")", -2001, m);
        }
        expandsTo("m!(" + "(".repeat(6) + "a" + ")".repeat(6) + ")", 15, m);
        expandsTo("m!(" + "(".repeat(7) + "a" + ")".repeat(7) + ")", -2001, m);
        expandsTo("m!(b+" + "(".repeat(7) + "a" + ")".repeat(7) + ")", -2001, m);
        expandsTo("m!((((((((a))))))),b)", -2001, "m($x:ex,$y:ex){}");
        expandsTo("m!(((((((a)))))),((((((b)))))))", 0, "m($x:ex,$y:ex){}");
        expandsMarked("m!(a+b,7,(c))", "(.1 a + b ).1 7 (.1 ( c ) ).1", "m($($x:ex),*){$($x)*}");
        expandsMarked("m!([a+b])", "(.1 a + b ).1", "m([$x:ex]){$x}");
        expandsMarked("m!(a+b;)", "(.1 a + b ).1", "m($x:ex$(,a)*;){$x}");
        expandsTo("m!((a b))", 1, "m($x:ex){};($x:tt){1}");
    }

    private static void bodies() {
        expandsMarked("m!(a 7)", "7 :.1 id.1 a (.1 ).1 =.1", "m($x:id$y:num){$y:id$x()=}");
        expandsMarked("m!(a b)", "a ,.1 b", "m($($x:id)*){$($x),*}");
        expandsMarked("m!(a,b)", "a b", "m($($x:id),*){$($x)?}");
        expandsMarked("m!(a b)", "a +.1 b +.1", "m($($x:id)+){$($x+)+}");
        expandsMarked("m!(a b)", "[.1 a ].1 ;.1 [.1 b ].1", "m($($x:id)+){$([$x]);+}");
        expandsMarked("m!()", "(.1 ).1", "m($($x:id)*){($($x),+)}");
        expandsMarked("m!((a b))", "( a b ) ( a b )", "m($x:tt){$x $x}");
        expandsMarked("m!(a b)", "a b a b", "m($($x:id)*){$($x)*$($x)*}");
        expandsMarked("m!((a+b))", "( a + b )", "m($x:tt){$x}");
    }

    private static void nestedRepetitions() {
        String keyed = "m($($k:num:$($x:id)*;)*){$($k[$($x),*])*}";
        expandsMarked("m!(1:a b;2:;3:c;)", "1 [.1 a ,.1 b ].1 2 [.1 ].1 3 [.1 c ].1", keyed);
        expands("m!()", "", keyed);
        expands("m!(;;a;)", "[ ] [ ] [ a ]", "m($($($x:id)*;)*){$([$($x)*])*}");
        expands("m!(a,b;c)", "a b : c :", "m($($($x:id),+);*){$($($x)*:)*}");
        String pairs = "m($($($x:id)*;)*,$($($y:num)*;)*){$($($x$y)*:)*}";
        expands("m!(a b;;c;,1 2;;3;)", "a 1 b 2 : : c 3 :", pairs);
        expandsTo("m!(a;b c;,1 2;3;)", -2003, pairs);
        expandsTo("m!(a;b c;,1;2 3;4;)", -2003, pairs);
        String inOne = "m($([$($x:id)*]{$($y:num)*})*){$($($x$y)*;)*}";
        expands("m!([a b]{1 2}[]{}[c]{3})", "a 1 b 2 ; ; c 3 ;", inOne);
        expandsTo("m!([a b]{1})", -2003, inOne);
        expandsTo("m!([a b]{1}[]{2})", -2003, inOne);
    }

    private static void unequalRepetitions() {
        String m = "m($($x:id)*;$($y:num)*){$($x$y)*}";
        expands("m!(a b;1 2)m!(;)", "a 1 b 2", m);
        expandsTo("m!(a;)", -2003, m);
        expandsTo("m!(;1)", -2003, m);
        expandsTo("m!(a b;1 2 3)", -2003, m);
        expands("m!(a;1)", "a 1", "m($($x:id)?;$($y:num)*){$($x$y)*}");
        expandsTo("m!(a;1 2)", -2003, "m($($x:id)?;$($y:num)*){$($x$y)*}");
        String outer = "m($($x:id)*;$($($y:num)*,)*){$($x$($y)*)*}";
        expands("m!(a b;1 2,,)", "a 1 2 b", outer);
        expandsTo("m!(a;1 2,,)", -2003, outer);
        expandsTo("m!(a b;1 2,)", -2003, outer);
    }

    private static void limits() {
        String twice = "m($($x:tt)*){$($x)*$($x)*}";
        expandsTo("m!(" + "+".repeat(75) + ")", 150, twice);
        expandsTo("m!(" + "+".repeat(76) + ")", -2005, twice);
        expandsTo("+m!(" + "+".repeat(75) + ")", -2005, twice);
        expandsTo("m!(" + "+".repeat(75) + ")+", -2005, twice);
        expandsTo("m!()".repeat(10), 10, "m(){a}");
        expandsTo("m!()".repeat(11), -2004, "m(){a}");
        expandsTo("m!()", -2004, "m(){m!()}");
        expandsTo("m!(" + "(".repeat(5) + "7" + ")".repeat(5) + ")", -2004, "m($x:tt){m!(([{$x}]))}");
    }

    private static void orderOfErrors() {
        String ten = "n!()".repeat(10);
        String n = "n(){}";
        String m = "m(a$($x:id)*;$($y:num)*){$($x$y)*};($(7)*$(7)*){}";
        expandsTo(ten + "z!()", -2000, m, n);
        expandsTo(ten + "m!(b)", -2001, m, n);
        expandsTo(ten + "m!(7)", -2002, m, n);
        expandsTo(ten + "m!()", -2004, m, n);
        expandsTo(ten + "m!(a b;)", -2004, m, n);
        expandsTo("m!(a b;)", -2003, m, n);
        String full = "m($($x:id)*;$($y:num)*){" + "$($x)*".repeat(7) + "$($x$y)*}";
        expandsTo("m!(" + "a ".repeat(27) + ";" + "1 ".repeat(27) + ")", -2005, full);
        expandsTo("m!(" + "a ".repeat(27) + ";" + "1 ".repeat(26) + ")", -2003, full);
        expandsTo("m!(" + "a ".repeat(16) + ";" + "1 ".repeat(16) + ")", 144, full);
    }

    // ---- promises 7 and 8 ----

    private static void tokens() {
        Calls x = new Calls();
        due("tokens", expand(x, "+ ( ) 0 99 a z az zzz aaa let"), 11);
        int[] codes = {43, 40, 41, 300, 399, 1001, 1026, 1000 + 27 + 26, 1000 + 26 * 757, 1757, 9903};
        for (int i = 0; i < codes.length; i++) {
            due("token " + i, x.token(i), codes[i]);
            due("mark " + i, x.mark(i), 0);
        }
        for (int k : new int[] {-1, 11, 149, 150, 151, Integer.MIN_VALUE, Integer.MAX_VALUE}) {
            due("token " + k, x.token(k), -1);
            due("mark " + k, x.mark(k), -1);
            due("means " + k, x.means(k), -1);
        }
        due("an error", expand(x, "m!()"), -2000);
        due("leaves no token", x.token(0), -1);
        due("leaves no mark", x.mark(0), -1);
    }

    private static void marks() {
        expandsMarked("a m!(b) n!() m!(7)", "a x.1 b x.2 x.3 7", "m($a:tt){x$a}", "n(){x}");
        expandsMarked("m!(a)", "x.1 y.2 a x.1", "m($a:tt){x n!($a)x}", "n($b:tt){y$b}");
        expandsMarked("m!(a)", "(.2 a +.1 a ).2 +.2 1.2", "m($x:tt){n!($x+$x)}", "n($y:ex){$y+1}");
        expandsMarked("m!(a,b)", "a ,.1 b", "m($($x:id),*){$($x),*}");
        expandsMarked("m!()", "b.1 x.2", "m(){n!(b)}", "n($x:id){$x x}");
        expandsMarked("m!()".repeat(10), "a.1 a.2 a.3 a.4 a.5 a.6 a.7 a.8 a.9 a.10", "m(){a}");
    }

    // ---- promise 9 ----

    private static void meanings() {
        means("a let a a", -1, -1, 2, 2);
        means("let a let a a", -1, 1, -1, 3, 3);
        means("let a b", -1, 1, -1);
        means("let a (a) a", -1, 1, -1, 1, -1, 1);
        means("(let a a) a", -1, -1, 2, 2, -1, -1);
        means("let a {let a [a]} a", -1, 1, -1, -1, 4, -1, 4, -1, -1, 1);
        means("(let a (let a) a)", -1, -1, 2, -1, -1, 5, -1, 2, -1);
        means("let (a) a", -1, -1, -1, -1, -1);
        means("(let) a", -1, -1, -1, -1);
        means("let = a", -1, -1, -1);
        means("let let a let", -1, 1, 2, 1);
        means("let 7 a 7", -1, -1, -1, -1);
        means("let aa a aa aaa", -1, 1, -1, 1, -1);
        means("let a (let b) [let c] a b c", -1, 1, -1, -1, 4, -1, -1, -1, 8, -1, 1, -1, -1);
        Calls x = with("n ($a:id){let t=$a;$a+t}", "l(){let}", "k($x:tt){let t $x t}");
        due("hygiene", expand(x, "let t=5;n!(t)t"), 14);
        // let t = 5 ; let.1 t.1 = t ; t + t.1 t
        int[] meant = {-1, 1, -1, -1, -1, -1, 6, -1, 1, -1, 1, -1, 6, 1};
        for (int i = 0; i < meant.length; i++) {
            due("hygiene, means " + i, x.means(i), meant[i]);
        }
        due("a let of another mark", expand(x, "l!()a a"), 3);
        due("binds", x.means(2), 1);
        due("two expansions", expand(x, "k!(t)k!(t)"), 8);
        // let.1 t.1 t t.1 let.2 t.2 t t.2
        due("the first one's", x.means(3), 1);
        due("the second one's", x.means(7), 5);
        due("neither's", x.means(6), -1);
    }

    // ---- promises 10 and 11 ----

    private static void expansionsAndUsed() {
        Calls x = with("m(a){};(b){m!(a)};($x:num){m!(a)m!(a)n!(c)}", "n(){}");
        due("no call", expand(x, "a b"), 2);
        due("no expansion", x.expansions(), 0);
        due("none used", x.used(1), -1);
        due("three", expand(x, "m!(b)m!(a)"), 0);
        used(x, 1, 0, 0);
        due("an error behind three", expand(x, "m!(7)"), -2001);
        used(x, 2, 0, 0);
        due("an unknown one behind one", expand(x, "m!(a)z!()m!(a)"), -2000);
        used(x, 0);
        due("too many", expand(x, "m!(b)".repeat(6)), -2004);
        used(x, 1, 0, 1, 0, 1, 0, 1, 0, 1, 0);
        due("none behind many", expand(x, ""), 0);
        used(x);
        due("one", expand(x, "m!(a)"), 0);
        due("defining leaves it", define(x, "k(){}"), 3);
        used(x, 0);
        due("faulty", expand(x, "m!(a)A"), -6);
        used(x);
        x = with("m($($x:id)*;$($y:id)*){$($x$y)*}", "f($($x:tt)*){$($x)*$($x)*}");
        due("unequal", expand(x, "m!(a;b)m!(a;)"), -2003);
        used(x, 0);
        due("too long", expand(x, "m!(;)f!(" + "+".repeat(80) + ")"), -2005);
        used(x, 0);
        x = with("m(b){};($(a)*$(a)*){}");
        due("ambiguous", expand(x, "m!()m!(b)m!(a)"), -2002);
        used(x, 1, 0);
    }
}
