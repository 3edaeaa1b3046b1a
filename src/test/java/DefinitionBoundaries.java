/** Boundary cases of definitions, their checks, and promises 3, 5 and 6: a method for each sentence. */
public final class DefinitionBoundaries extends Checks {
    public static void main(String[] args) {
        names();
        numberOfArms();
        oneSemicolon();
        fourthArm();
        formOfAnArm();
        emptyPattern();
        emptyBody();
        fragments();
        kinds();
        marks();
        marksBehindSeparators();
        separators();
        bracketsOfPatterns();
        literals();
        repetitionsInOthers();
        bodyRepetitionsInOthers();
        fourRepetitions();
        usesAndColons();
        partsOfABody();
        checksOnlyOfWhatIsNotFaulty();
        sameWord();
        matchesNothing();
        behindAnExpression();
        behindAnExpressionAtTheEndOfARepetition();
        beginningOfElements();
        usesWithoutFragment();
        usesInOtherRepetitions();
        repetitionsWithoutUse();
        orderOfChecksInOneArm();
        orderOfChecksOfTwoArms();
        definitionsOf120Characters();
        fiveDefinitions();
        orderOfAnswers();
        noneInAllTheseCases();
        numbersOfArms();
        finish();
    }

    // ---- the form of a definition ----

    private static void names() {
        sentence("A DEFINITION: a word, its NAME; Any word may be the NAME.");
        for (String name : new String[] {"a", "z", "zzz", "let", "id", "num", "tt", "ex"}) {
            expands(name + "!()", "7", name + "(){7}");
        }
        for (String token : new String[] {"7", "+", ";", "$", ":", "(", "[", "{", ")", "]", "}"}) {
            defineFails(token + "(){}", 0);
        }
        defineFails("(){}", 0);
        defineFails("m n(){}", 2);
        defineFails("$m(){}", 0);
        defineFails("m!(){}", 1);
    }

    private static void numberOfArms() {
        sentence("and 1 .. 3 ARMS");
        defineFails("m", 1);
        defineFails("m;", 1);
        Calls x = with("m(){}", "m(){};(){}", "m(){};(){};(){}");
        for (int arms = 1; arms <= 3; arms++) {
            due("arms of the one with " + arms, x.arms(arms - 1), arms);
        }
        defineFails("m(){};(){};(){};(){}", 15);
    }

    private static void oneSemicolon() {
        sentence("with one ; between each two");
        defines("m(){};(){}");
        defineFails("m(){}(){}", 5);
        defineFails("m(){};;(){}", 6);
        defineFails("m(){},(){}", 5);
        defineFails("m(){};", 6);
        defineFails("m(){};(){};", 11);
        defineFails("m;(){}", 1);
        defineFails("m(){};(){}(){}", 10);
        defineFails("m(){} n(){}", 6);
    }

    private static void fourthArm() {
        sentence("the ; of a fourth one is at fault");
        defines("m(){};(){};(){}");
        defines("m(){};(){};(){}   ");
        defineFails("m(){};(){};(){};", 15);
        defineFails("m(){};(){};(){} ; (){}", 16);
        defineFails("m(a){b};(c){d};(e){f};(g){h}", 21);
    }

    private static void formOfAnArm() {
        sentence("An arm is ( PATTERN ) { BODY }");
        defines("m(a){b}");
        for (String opening : new String[] {"[", "{", "7", "$", ")", "+"}) {
            defineFails("m" + opening, 1);
            defineFails("m(){};" + opening, 6);
        }
        defineFails("m a(){}", 2);
        for (String opening : new String[] {"(", "[", "a", "7", "$", "}", ";", "="}) {
            defineFails("m()" + opening, 3);
            defineFails("m(){};()" + opening, 8);
        }
        defineFails("m(a}", 3);
        defineFails("m(a){b)", 6);
        defineFails("m(a){b]", 6);
    }

    private static void emptyPattern() {
        sentence("A PATTERN is no or some ELEMENTS");
        Calls x = with("m(){7}");
        due("no tree", expand(x, "m!()"), 1);
        due("no tree in [ ]", expand(x, "m![]"), 1);
        due("no tree in { }", expand(x, "m!{ }"), 1);
        due("some tree", expand(x, "m!(a)"), -2001);
        due("a bracket", expand(x, "m!(())"), -2001);
        x = with("m(a){7}");
        due("one element, no tree", expand(x, "m!()"), -2001);
        due("one element, one tree", expand(x, "m!(a)"), 1);
    }

    private static void emptyBody() {
        sentence("A BODY is no or some PARTS");
        Calls x = with("m(){}", "n(){+}");
        due("no part", expand(x, "m!()"), 0);
        due("an outcome of nothing", x.token(0), -1);
        used(x, 0);
        due("no part between others", expand(x, "a m!()b"), 2);
        due("one part", expand(x, "n!()"), 1);
    }

    private static void fragments() {
        sentence("a FRAGMENT $ word : kind, the word being its VARIABLE");
        defines("m($x:id){$x}");
        defines("m($let:id $id:num $num:tt $ex:ex){$let$id$num$ex}");
        for (String token : new String[] {"7", ":", "$", "+", "*", "[", "{", "]", "}", ")"}) {
            defineFails("m($" + token, 3);
        }
        for (String token : new String[] {"7", "$", ";", ",", "!", "(", ")", "]"}) {
            defineFails("m($x" + token, 4);
        }
        defineFails("m($x y", 5);
        for (String token : new String[] {"7", ":", "$", "(", ")", "*"}) {
            defineFails("m($x:" + token, 5);
        }
    }

    private static void kinds() {
        sentence("the kind one of the words id num tt ex");
        for (String kind : new String[] {"id", "num", "tt", "ex"}) {
            defines("m($x:" + kind + "){$x}");
        }
        for (String kind : new String[] {"i", "d", "idd", "ida", "ic", "ie", "di", "n", "nu", "nul", "nun", "mum", "t",
                "ts", "tu", "ttt", "e", "ew", "ey", "exx", "let", "x", "a", "zzz", "nums"}) {
            defineFails("m($x:" + kind + "){}", 5);
        }
    }

    private static void marks() {
        sentence("a REPETITION $ ( elements ) mark, the mark being one of * + ?");
        expands("m!()m!(a)m!(a a)", "1 1 1", "m($(a)*){1}");
        expandsTo("m!()", -2001, "m($(a)+){1}");
        expands("m!(a)m!(a a)", "1 1", "m($(a)+){1}");
        expands("m!()m!(a)", "1 1", "m($(a)?){1}");
        expandsTo("m!(a a)", -2001, "m($(a)?){1}");
        for (String token : new String[] {"$", "(", "[", "{", ")", "]", "}"}) {
            defineFails("m($(a)" + token, 6);
        }
        defineFails("m($(a)){}", 6);
        // Behind the mark, another one is a literal.
        expands("m!(*)m!(a*)", "1 1", "m($(a)**){1}");
        expands("m!(a+)", "1", "m($(a)++){1}");
        expands("m!(?)", "1", "m($(a)??){1}");
        expands("m!(a*)", "1", "m($(a)+*){1}");
    }

    private static void marksBehindSeparators() {
        sentence("* or + in the second");
        expandsTo("m!(a,a)", 0, "m($(a),*){}");
        expandsTo("m!(a,a)", 0, "m($(a),+){}");
        defineFails("m($(a),?){}", 7);
        defineFails("m($(a)b?){}", 7);
        for (String token : new String[] {",", ";", "=", "$", "(", ")", "7", "a"}) {
            defineFails("m($(a)," + token, 7);
        }
        defineFails("m($(a)a a", 8);
        defineFails("m($($x:id)*){$($x),?}", 19);
        defines("m($($x:id)*){$($x)?}");
        defines("m($($x:id)*){$($x),*$($x),+}");
    }

    private static void separators() {
        sentence("the separator a token other than a bracket, $, *, + or ?");
        for (String token : new String[] {",", ";", "=", ":", "!", ">", "a", "let", "zzz", "0", "99"}) {
            String two = "7 " + token + " 7";
            expands("m!(" + two + ")", two, "m($($x:num)" + token + "*){$($x)" + token + "+}");
            expands("m!(" + two + ")", two, "m($($x:num)" + token + "+){$($x)" + token + "*}");
        }
        for (String token : new String[] {"$", "(", "[", "{", ")", "]", "}"}) {
            defineFails("m($(a)" + token + "*){}", 6);
            defineFails("m($($x:id)*){$($x)" + token + "*}", 18);
        }
    }

    private static void bracketsOfPatterns() {
        sentence("a bracket with no or some elements in it");
        for (String pair : new String[] {"()", "[]", "{}"}) {
            String some = pair.charAt(0) + "a" + pair.charAt(1);
            expandsTo("m!(" + pair + ")", 0, "m(" + pair + "){}");
            expandsTo("m!(" + some + ")", -2001, "m(" + pair + "){}");
            expandsTo("m!(" + some + ")", 0, "m(" + some + "){}");
            expandsTo("m!(" + pair + ")", -2001, "m(" + some + "){}");
            expandsTo("m!(a)", -2001, "m(" + some + "){}");
        }
    }

    private static void literals() {
        sentence("or a LITERAL, any other token but $");
        for (String token : new String[] {"+", "*", ",", ";", "=", ":", "!", "?", ">", "a", "zzz", "let", "0", "99"}) {
            expandsTo("m!(" + token + ")", 0, "m(" + token + "){}");
            expandsTo("m!(" + token + " b)", -2001, "m(" + token + "){}");
        }
        defineFails("m($){}", 3);
        defineFails("m($,){}", 3);
        defineFails("m(a$){}", 4);
        defineFails("m($$x:id){}", 3);
    }

    private static void repetitionsInOthers() {
        sentence("A repetition is in at most one other (the ( of one in two others may not stand there)");
        defines("m($(b)*){}");
        defines("m($(b$(b)*)*){}");
        defineFails("m($(b$(b$(b)*)*)*){}", 9);
        defines("m($(b[$(b{b})*])*){}");
        defineFails("m($(b[$(b{$(b)*})*])*){}", 11);
        defines("m($(b$(b)*$(b)*)*$(b)*){}");
        defineFails("m($(b$(b)*$(b$(b)*)*)*){}", 14);
    }

    private static void bodyRepetitionsInOthers() {
        sentence("A repetition (of a body, too) is in at most one other");
        String pattern = "m($($($x:id)*;)*)";
        defines(pattern + "{$($($x)*)*}");
        defineFails(pattern + "{$($($($x)*)*)*}", pattern.length() + 6);
        defines(pattern + "{$([$($x)*][$($x)*])*}");
        defineFails(pattern + "{$([$([$($x)*])*])*}", pattern.length() + 8);
    }

    private static void fourRepetitions() {
        sentence("a pattern has at most 4 (the ( of a pattern's fifth one may not stand there)");
        String four = "$(a)*$(b)*$(c)*$(d)*";
        defines("m(" + four + "){}");
        defineFails("m(" + four + "$(e)*){}", 23);
        defineFails("m(" + four + "$(", 23);
        // Those that are in another one count, too.
        defines("m($(a$(b)*$(c)*)*$(d)*){}");
        defineFails("m($(a$(b)*$(c)*)*$(d)*$(e)*){}", 23);
        defines("m($(a$(b)*$(c)*$(d)*)*){}");
        defineFails("m($(a$(b)*$(c)*$(d)*$(e)*)*){}", 21);
        defineFails("m(" + four + "[$(e)*]){}", 24);
        // A fragment is no repetition, each pattern has four of its own, and those of a body do not count.
        defines("m(" + four + "$x:id){$x}");
        defines("m(" + four + "){};(" + four + "){};(" + four + "){}");
        defineFails("m(a){};(" + four + "$(e)*){}", 29);
        String five = "$($x)*$($x)*$($x)*$($x)*$($x)*";
        expands("m!(7)", "7 7 7 7 7", "m($($x:num)*$(a)*$(b)*$(c)*){" + five + "}");
        defines("m($($x:num)*){" + five + "};(" + four + "){}");
    }

    private static void usesAndColons() {
        sentence("a USE $ word (a : behind it is a part of its own)");
        expands("m!(7)", "7 : id", "m($x:num){$x:id}");
        expands("m!(7)", "7 :", "m($x:num){$x:}");
        expands("m!(7)", "7 : : 7", "m($x:num){$x::$x}");
        expands("m!(7)", "7 7", "m($x:num){$x 7}");
    }

    private static void partsOfABody() {
        sentence("any other token but $ (in a body)");
        for (String token : new String[] {"+", "*", ",", ";", "=", ":", "!", "?", ">", "a", "zzz", "let", "0", "99"}) {
            expands("m!()", token, "m(){" + token + "}");
        }
        expands("m!()", "( ) [ ] { }", "m(){()[]{}}");
        for (String token : new String[] {"$", "7", "+", ",", ":", "[", "{", "}", ")", "]"}) {
            defineFails("m(){$" + token, 5);
        }
        defineFails("m(){$(", 6);
    }

    // ---- checks ----

    private static void checksOnlyOfWhatIsNotFaulty() {
        sentence("CHECKS of a definition that is not faulty");
        defineRefused("m($x:id$x:id){}", -1000);
        defineFails("m($x:id$x:id){", 14);
        defineFails("m($x:id$x:id){};", 16);
        defineFails("m($()*){}A", 9);
        defineFails("m($x:ex a){$", 12);
        defineFails("m(){$x}}", 7);
    }

    private static void sameWord() {
        sentence("-1000 two fragments have the same word.");
        defines("m($x:id$y:id){}");
        defines("m($x:id$xx:id$xxx:id){}");
        defines("m(x$x:id x){x}");
        defines("m($m:id){}");
        defines("m($x:id){};($x:id){};($x:id){}");
        defineRefused("m($x:id$x:id){}", -1000);
        defineRefused("m($x:id$x:num){}", -1000);
        defineRefused("m($x:id$y:id$z:id$x:id){}", -1000);
        defineRefused("m($x:id[{$x:id}]){}", -1000);
        defineRefused("m($x:id$(,$x:id)*){}", -1000);
        defineRefused("m($($x:id)*;$($x:id)*){}", -1000);
        defineRefused("m($($x:id$(,$x:id)*)*){}", -1000);
        defineRefused("m($zzz:id$zzz:id){}", -1000);
        defineRefused("m(){};(){};($x:id$x:id){}", -1000);
    }

    private static void matchesNothing() {
        sentence("-1001 a repetition's elements can match nothing: there are none, or all of them are repetitions"
                + " with * or ?.");
        for (String mark : new String[] {"*", "+", "?", ",*", ",+"}) {
            defines("m($(a)" + mark + "){}");
            defineRefused("m($()" + mark + "){}", -1001);
            defineRefused("m([$()" + mark + "]){}", -1001);
            defineRefused("m($(a$()" + mark + ")*){}", -1001);
            defines("m($($(a)+)" + mark + "){}");
            defines("m($($(a),+)" + mark + "){}");
            defineRefused("m($($(a)*)" + mark + "){}", -1001);
            defineRefused("m($($(a),*)" + mark + "){}", -1001);
            defineRefused("m($($(a)?)" + mark + "){}", -1001);
        }
        defineRefused("m($($(a)*$(b)?)*){}", -1001);
        defineRefused("m($($(a)*$(b)?$(c)*)*){}", -1001);
        defines("m($($(a)*$(b)?$(c)+)*){}");
        defines("m($($(a)+$(b)?$(c)*)*){}");
        defines("m($($(a)*d$(b)?)*){}");
        defines("m($($(a)*$x:id)*){}");
        defines("m($($(a)*[])*){}");
        defines("m($([$(a)*])*){}");
        defines("m($(())*){}");
        defines("m($(a)*$(b)?){}");
        defines("m(){}");
        defineRefused("m(){};($()*){}", -1001);
    }

    private static void behindAnExpression() {
        sentence("-1002 something else than a , or ; or a closing bracket (also that of the pattern) may come right"
                + " behind an ex: behind an element comes what the next one begins with, and if that is a repetition"
                + " with * or ?, also what comes behind that");
        for (String kept : new String[] {"", ",", ";", ",a", ";a", ",+", ";$y:ex"}) {
            defines("m($x:ex" + kept + "){}");
            defines("m(a[$x:ex" + kept + "]a){}");
            defines("m(a{$x:ex" + kept + "}a){}");
            defines("m(a($x:ex" + kept + ")a){}");
        }
        for (String loose : new String[] {" a", " let", "7", "+", "*", "=", ":", "!", "?", ">", "()", "[]", "{}",
                "(,)", "[;]", "$y:id", "$y:num", "$y:tt", "$y:ex"}) {
            defineRefused("m($x:ex" + loose + "){}", -1002);
            defineRefused("m([$x:ex" + loose + "]){}", -1002);
        }
        defines("m($x:ex$(,a)*){}");
        defines("m($x:ex$(,a)*;){}");
        defines("m($x:ex$(,a)?$(;a)*){}");
        defines("m($x:ex$(,a)+a){}");
        defineRefused("m($x:ex$(,a)*a){}", -1002);
        defineRefused("m($x:ex$(,a)?a){}", -1002);
        defineRefused("m($x:ex$(,a)?$(;a)*a){}", -1002);
        defineRefused("m($x:ex$(,a)?$(a)*){}", -1002);
        defineRefused("m($x:ex$(a)*){}", -1002);
        defineRefused("m($x:ex$(a)+){}", -1002);
        defineRefused("m($x:ex$(a),*){}", -1002);
        // Right behind the expression, not farther, and behind no other kind.
        defines("m($x:ex,a b+){}");
        defines("m($x:tt a $y:id+$z:num=){}");
        defines("m(a $x:ex){}");
        defineRefused("m(){};(){};($x:ex a){}", -1002);
    }

    private static void behindAnExpressionAtTheEndOfARepetition() {
        sentence("behind the last element of a repetition come its separator, or if it has none and its mark is * or"
                + " +, what its elements begin with; and what comes behind the repetition.");
        // The separator, and not the elements' beginning then.
        defines("m($($x:ex),*){}");
        defines("m($($x:ex);+){}");
        defines("m($(a$x:ex),*){}");
        defineRefused("m($($x:ex)=*){}", -1002);
        defineRefused("m($($x:ex)a+){}", -1002);
        defineRefused("m($($x:ex)7*){}", -1002);
        // The elements' beginning, if there is no separator.
        defines("m($(,$x:ex)*){}");
        defines("m($(;$x:ex)+){}");
        defineRefused("m($($x:ex)*){}", -1002);
        defineRefused("m($($x:ex)+){}", -1002);
        defineRefused("m($(a$x:ex)*){}", -1002);
        defineRefused("m($([]$x:ex)+){}", -1002);
        // With ? they do not come again.
        defines("m($($x:ex)?){}");
        defines("m($(a$x:ex)?){}");
        // What comes behind the repetition.
        defines("m($($x:ex),*;){}");
        defines("m($($x:ex)?,a){}");
        defineRefused("m($($x:ex),*a){}", -1002);
        defineRefused("m($($x:ex),+a){}", -1002);
        defineRefused("m($($x:ex)?a){}", -1002);
        defineRefused("m($(,$x:ex)*=){}", -1002);
        // In two repetitions.
        defines("m($($($x:ex),*;)*){}");
        defines("m($(a$($x:ex),+);*){}");
        defines("m($(a$($x:ex),*)?){}");
        defineRefused("m($(a$($x:ex),*)*){}", -1002);
        defineRefused("m($(a$($x:ex),*)=*){}", -1002);
        defineRefused("m($(a$($x:ex),*)?a){}", -1002);
        defineRefused("m($($($x:ex)?a)*){}", -1002);
        defineRefused("m($($($x:ex),+)+){}", -1002);
    }

    private static void beginningOfElements() {
        sentence("Elements begin with what the first one begins with, and if that is a repetition with * or ?, with"
                + " what comes behind that, too; a repetition with what its elements begin with.");
        defines("m($x:ex$($(,)+a)*){}");
        defines("m($x:ex$($(,a)*;)+a){}");
        defines("m($x:ex$($(,a)?$(;a)*,)*){}");
        defineRefused("m($x:ex$($(,a)*a)+){}", -1002);
        defineRefused("m($x:ex$($(,a)?a)*){}", -1002);
        defineRefused("m($x:ex$($(a)*,)*){}", -1002);
        defineRefused("m($x:ex$($(a)+,)*){}", -1002);
        defineRefused("m($x:ex$($(,a)?$(a)*,)*){}", -1002);
        defines("m($($(,a)?;$x:ex)*){}");
        defineRefused("m($($(,a)?a$x:ex)*){}", -1002);
        defineRefused("m($($(a)?,$x:ex)*){}", -1002);
        defines("m($($(a)?,$x:ex)?){}");
        defines("m($($(a)?,$x:ex),*){}");
    }

    private static void usesWithoutFragment() {
        sentence("-1003 a use has the word of no fragment of the pattern");
        defines("m($x:id){$x}");
        defines("m($x:id){}");
        defineRefused("m(){$x}", -1003);
        defineRefused("m(x){$x}", -1003);
        defineRefused("m($x:id){$xx}", -1003);
        defineRefused("m($xx:id){$x}", -1003);
        defineRefused("m($x:id){[{$y}]}", -1003);
        defineRefused("m($x:id){$x$x$m}", -1003);
        defineRefused("m($x:id){$id}", -1003);
        // Only the pattern of its own arm counts.
        defineRefused("m($x:id){$x};(){$x}", -1003);
        defineRefused("m(){$x};($x:id){$x}", -1003);
        defineRefused("m($x:id){$x};($y:id){$y};($z:id){$y}", -1003);
        defines("m($x:id){$x};($y:id){$y};($z:id){$z}");
    }

    private static void usesInOtherRepetitions() {
        sentence("or is in another number of repetitions than that");
        String[] patterns = {"$x:id", "$($x:id)*", "$($($x:id)*;)*"};
        String[] bodies = {"$x", "$($x)*", "$($($x)*)*"};
        for (int i = 0; i < 3; i++) {
            for (int j = 0; j < 3; j++) {
                if (i == j) {
                    defines("m(" + patterns[i] + "){" + bodies[j] + "}");
                    defines("m([" + patterns[i] + "]){[" + bodies[j] + "]}");
                } else {
                    defineRefused("m(" + patterns[i] + "){" + bodies[j] + "}", -1003);
                    defineRefused("m([" + patterns[i] + "]){[" + bodies[j] + "]}", -1003);
                }
            }
        }
        defines("m($($x:id)?){$($x)*}");
        defines("m($x:id$($y:num)*){$x$($y)*}");
        defineRefused("m($x:id$($y:num)*){$($x$y)*}", -1003);
        defineRefused("m($($x:id$($y:num)*)*){$($x$y)*}", -1003);
        defines("m($($x:id$($y:num)*)*){$($x$($y)*)*}");
    }

    private static void repetitionsWithoutUse() {
        sentence("or a repetition of the body has no use in it.");
        defines("m($($x:id)*){$($x)*}");
        defines("m($($x:id)*){$([a{$x}])*}");
        defineRefused("m($($x:id)*){$(a)*}", -1003);
        defineRefused("m($($x:id)*){$()*}", -1003);
        defineRefused("m(){$(a)*}", -1003);
        defineRefused("m($($x:id)*){$($x)*$(a)+}", -1003);
        defineRefused("m($($x:id)*){$($x$(a)*)*}", -1003);
        defineRefused("m($($x:id)*){$(x)*}", -1003);
        // A use in the inner one is one in the outer one.
        defines("m($($($x:id)*;)*){$($($x)*)*}");
        defines("m($($($x:id)*;)*){$(a[$($x)*])*}");
        // A repetition of the pattern needs no use.
        defines("m($($x:id)*$(a)+){}");
    }

    private static void orderOfChecksInOneArm() {
        sentence("CHECKS, in this order: -1000, -1001, -1002, -1003");
        defineRefused("m($()*$x:id$x:id){}", -1000);
        defineRefused("m($x:ex$x:ex){}", -1000);
        defineRefused("m($x:id$x:id){$y}", -1000);
        defineRefused("m($y:ex a$()*){}", -1001);
        defineRefused("m($y:id$()*){$x}", -1001);
        defineRefused("m($y:ex a){$x}", -1002);
        defineRefused("m($()*$y:ex a$x:id$x:id){$z}", -1000);
        defineRefused("m($y:ex a$x:id$()*){$z}", -1001);
    }

    private static void orderOfChecksOfTwoArms() {
        sentence("for each arm in order (all of one ahead of the next one's)");
        String[] arms = {"($x:id$x:id){}", "($()*){}", "($x:ex a){}", "(){$x}"};
        for (int i = 0; i < arms.length; i++) {
            for (int j = 0; j < arms.length; j++) {
                defineRefused("m" + arms[i] + ";" + arms[j], -1000 - i);
                defineRefused("m(){};" + arms[i] + ";" + arms[j], -1000 - i);
            }
            defineRefused("m" + arms[i] + ";(){}", -1000 - i);
            defineRefused("m(){};(){};" + arms[i], -1000 - i);
        }
    }

    // ---- promises 3, 5 and 6 ----

    private static void definitionsOf120Characters() {
        sentence("Takes what is typed as a definition (the longest there can be)");
        String pluses = "+".repeat(115);
        expandsTo("m!(" + pluses + ")", 0, "m(" + pluses + "){}");
        expandErrs("m!(" + pluses + "+)", -2001, 0, "m(" + pluses + "){}");
        expandsTo("m!()", 115, "m(){" + pluses + "}");
        expandsTo("m!()+", 116, "m(){" + pluses + "}");
        expandErrs("m!()m!()", -2005, 1, "m(){" + pluses + "}");
        expands("m!(" + "+".repeat(107) + "a)", "a", "m(" + "+".repeat(107) + "$x:id){$x}");
        expandErrs("m!(" + "+".repeat(107) + "7)", -2001, 0, "m(" + "+".repeat(107) + "$x:id){$x}");
        defineFails("m(" + pluses + "){ ", 120);
        defineFails("m(" + pluses + "){A", 119);
        defineFails("m(){" + pluses + ")", 119);
    }

    private static void fiveDefinitions() {
        sentence("Answers how many definitions there are then; -1004 if there are 5 already");
        Calls x = new Calls();
        for (int i = 0; i < 5; i++) {
            due("definitions ahead of number " + i, x.definitions(), i);
            due("define number " + i, define(x, "m(){" + i + "}"), i + 1);
        }
        for (int i = 0; i < 3; i++) {
            due("a sixth", define(x, "m(){9};(a){};(b){}"), -1004);
            due("definitions", x.definitions(), 5);
            due("arms of the fifth", x.arms(4), 1);
            due("arms of the sixth", x.arms(5), -1);
            due("m!()", expand(x, "m!()"), 1);
            due("the fifth one's body", x.token(0), 304);
        }
        due("a new name", define(x, "n(){}"), -1004);
        due("it is none", expand(x, "n!()"), -2000);
    }

    private static void orderOfAnswers() {
        sentence("-1 - p if it is faulty at the character p; -1000 to -1003 by the checks; -1004 if there are 5"
                + " already (looked at in this order)");
        Calls x = with("a(){}", "b(){}", "c(){}", "d(){}", "e(){}");
        due("nothing typed", x.define(), -1);
        due("faulty", define(x, "m"), -2);
        due("faulty and -1000", define(x, "m($x:id$x:id){"), -15);
        due("-1000", define(x, "m($x:id$x:id){}"), -1000);
        due("-1001", define(x, "m($()*){}"), -1001);
        due("-1002", define(x, "m($x:ex a){}"), -1002);
        due("-1003", define(x, "m(){$x}"), -1003);
        due("neither", define(x, "m(){}"), -1004);
        due("definitions", x.definitions(), 5);
    }

    private static void noneInAllTheseCases() {
        sentence("in all these cases it is none; nothing is typed then");
        Calls x = with("m(){a};(b){let c c}");
        due("an outcome", expand(x, "m!(b)m!()"), 4);
        String before = state(x);
        dueText("before", before, "arms 2 -1, used 1 0 -1, outcome let.1 c.1 c.1 a.2, means -1 1 1 -1 -1");
        String[] refused = {"m", "m(){9", "m($x:id$x:id){9}", "m($()*){9}", "m($x:ex a){9}", "m(){$x}"};
        int[] answers = {-2, -6, -1000, -1001, -1002, -1003};
        for (int i = 0; i < refused.length; i++) {
            due("define " + refused[i], define(x, refused[i]), answers[i]);
            dueText("state behind " + refused[i], state(x), before);
            due("nothing is typed behind " + refused[i], x.define(), -1);
        }
        due("the next one", define(x, "m(){}"), 2);
        dueText("state behind it", state(x), before.replace("arms 2 -1", "arms 2 1 -1"));
        due("nothing is typed behind it", x.expand(), 0);
    }

    private static void numbersOfArms() {
        sentence("How many arms definition k (from 0) has; -1 if there is none.");
        Calls x = new Calls();
        due("arms 0 of none", x.arms(0), -1);
        int[] arms = {2, 1, 3, 1, 2};
        String[] texts = {"m(){}", "m(){};(){}", "m(){};(){};(){}"};
        for (int i = 0; i < 5; i++) {
            due("define " + i, define(x, texts[arms[i] - 1]), i + 1);
            for (int k = 0; k <= i; k++) {
                due("arms " + k, x.arms(k), arms[k]);
            }
            due("arms behind the last", x.arms(i + 1), -1);
            due("definitions", x.definitions(), i + 1);
        }
        for (int k : new int[] {-1, -2, 5, 6, 7, 255, 256, Integer.MIN_VALUE, Integer.MAX_VALUE}) {
            due("arms " + k, x.arms(k), -1);
        }
    }
}
