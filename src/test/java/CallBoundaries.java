/** Boundary cases of an object's life: a new one, calls that are refused, and the 512th call. */
public final class CallBoundaries extends Checks {
    private static final int PLUS = '+';

    public static void main(String[] args) {
        newObject();
        refusedOnANewObject();
        refusedBehindDefinitionsAndOutcome();
        refusedWithATextTyped();
        refusedWhenFull();
        refusedBetweenTheCharactersOfAToken();
        answersChangeNothing();
        definingLeavesTheOutcome();
        expandingLeavesTheDefinitions();
        expandingTwice();
        twoObjects();
        lastCall();
        finish();
    }

    private static void newObject() {
        sentence("No definitions, no outcome; nothing is typed.");
        dueText("a new object", state(new Calls()), "arms -1, used -1, outcome , means -1");
        Calls x = new Calls();
        due("definitions", x.definitions(), 0);
        due("expansions", x.expansions(), 0);
        for (int k : new int[] {-1, 0, 1, 5, Integer.MIN_VALUE, Integer.MAX_VALUE}) {
            due("arms " + k, x.arms(k), -1);
            due("token " + k, x.token(k), -1);
            due("mark " + k, x.mark(k), -1);
            due("means " + k, x.means(k), -1);
            due("used " + k, x.used(k), -1);
        }
        due("nothing to expand", x.expand(), 0);
        due("nothing to define", new Calls().define(), -1);
        due("no definition to call", expand(new Calls(), "m!()"), -2000);
        x = new Calls();
        typed(x, "+".repeat(120));
        due("room for 120", x.expand(), 120);
    }

    // ---- refused calls ----

    /** Calls of type that are refused whatever is typed. */
    private static void refuse(Calls x) {
        due("type of no character", typed(x, PLUS, 0), 0);
        due("type of 5", typed(x, 0x2B2B2B2B, 5), 0);
        due("type of -1", typed(x, 0x2B2B2B2B, -1), 0);
        due("type of 31", typed(x, 0x2B2B2B1F, 4), 0);
        due("type of 127", typed(x, 0x7F2B2B2B, 4), 0);
        due("type of 0", typed(x, PLUS, 2), 0);
        due("type of 255", typed(x, 0x2BFF, 2), 0);
    }

    private static void refusedOnANewObject() {
        sentence("A call that is refused changes nothing. (type, on a new object)");
        Calls x = new Calls();
        refuse(x);
        dueText("state", state(x), "arms -1, used -1, outcome , means -1");
        due("nothing is typed", x.expand(), 0);
        refuse(x);
        due("nothing is typed for define", x.define(), -1);
    }

    private static void refusedBehindDefinitionsAndOutcome() {
        sentence("A call that is refused changes nothing. (type, with definitions and an outcome)");
        Calls x = with("m(){let a};(b){}", "n($x:id){$x}");
        due("an outcome", expand(x, "m!(b)m!()n!(a)"), 3);
        String before = state(x);
        dueText("before", before, "arms 2 1 -1, used 1 0 0 -1, outcome let.2 a.2 a, means -1 1 -1 -1");
        refuse(x);
        dueText("state", state(x), before);
        due("nothing is typed", x.define(), -1);
        due("m is there", expand(x, "m!()"), 2);
        due("n is there", expand(x, "n!(b)"), 1);
    }

    private static void refusedWithATextTyped() {
        sentence("A call that is refused changes nothing. (type, with a text typed)");
        Calls x = new Calls();
        for (String part : new String[] {"m(", "$x:i", "d){$", "x;", "$x}"}) {
            refuse(x);
            typed(x, part);
            refuse(x);
        }
        due("the definition", x.define(), 1);
        for (String part : new String[] {"m", "!", "(a", ")"}) {
            refuse(x);
            typed(x, part);
            refuse(x);
        }
        due("the text", x.expand(), 3);
        dueText("its outcome", outcome(x, true), "a ;.1 a");
    }

    private static void refusedWhenFull() {
        sentence("A call that is refused changes nothing. (type, with 120 characters)");
        String definition = "m(" + "+".repeat(50) + "){" + "*".repeat(65) + "}";
        Calls x = new Calls();
        typed(x, definition);
        refuse(x);
        for (int n = 1; n <= 4; n++) {
            due("type of " + n + " more", typed(x, 0x20202020, n), 0);
        }
        due("the definition", x.define(), 1);
        typed(x, "m!(" + "+".repeat(50) + ")" + ";".repeat(66));
        for (int n = 1; n <= 4; n++) {
            due("type of " + n + " more", typed(x, 0x2B2B2B2B, n), 0);
        }
        due("the text", x.expand(), 131);
        due("the body's last token", x.token(64), '*');
        due("the text's last token", x.token(130), ';');
    }

    private static void refusedBetweenTheCharactersOfAToken() {
        sentence("A call that is refused changes nothing. (type, within a word)");
        Calls x = new Calls();
        typed(x, "le");
        refuse(x);
        typed(x, "t 1");
        refuse(x);
        typed(x, "2");
        due("two tokens", x.expand(), 2);
        due("a word", x.token(0), 9903);
        due("a number", x.token(1), 312);
    }

    // ---- other calls ----

    private static void answersChangeNothing() {
        sentence("Nothing is promised beyond the answers and state changes described above (asking changes nothing)");
        Calls x = with("m(){a}");
        due("an outcome", expand(x, "m!()let b b"), 4);
        String before = state(x);
        typed(x, "m!()");
        for (int k : new int[] {-1, 0, 3, 4, 150, Integer.MIN_VALUE, Integer.MAX_VALUE}) {
            x.arms(k);
            x.token(k);
            x.mark(k);
            x.means(k);
            x.used(k);
            x.definitions();
            x.expansions();
        }
        dueText("state", state(x), before);
        due("what was typed", x.expand(), 1);
    }

    private static void definingLeavesTheOutcome() {
        sentence("for the text that was expanded last (whatever is typed or defined then)");
        Calls x = with("m(){let a a}");
        due("an outcome", expand(x, "m!()a"), 4);
        String shown = "used 0 -1, outcome let.1 a.1 a.1 a, means -1 1 1 -1 -1";
        dueText("state", state(x), "arms 1 -1, " + shown);
        typed(x, "m(b){};(){7}");
        dueText("state with a text typed", state(x), "arms 1 -1, " + shown);
        due("another m", x.define(), 2);
        dueText("state behind it", state(x), "arms 1 2 -1, " + shown);
        due("a faulty one", define(x, "m(){8"), -6);
        dueText("state behind a faulty one", state(x), "arms 1 2 -1, " + shown);
        due("the last m", expand(x, "m!()"), 1);
        due("its body", x.token(0), 307);
    }

    private static void expandingLeavesTheDefinitions() {
        sentence("-2000 to -2005 for an error; in all these cases the outcome has none (and the definitions stay)");
        Calls x = with("m(a){1};(b){2}", "n($($x:tt)*){$($x$x)*}", "l(){l!()}");
        String[] texts = {"A", "(", "z!()", "m!()", "l!()", "n!(" + "+".repeat(76) + ")", ""};
        int[] answers = {-1, -2, -2000, -2001, -2004, -2005, 0};
        for (int i = 0; i < texts.length; i++) {
            due("expand " + texts[i], expand(x, texts[i]), answers[i]);
            due("definitions", x.definitions(), 3);
            due("arms 0", x.arms(0), 2);
            due("arms 2", x.arms(2), 1);
            due("arms 3", x.arms(3), -1);
            due("the next text", expand(x, "m!(b)n!(a)"), 3);
            dueText("its outcome", outcome(x, true), "2.1 a a");
            used(x, 1, 0);
        }
    }

    private static void expandingTwice() {
        sentence("Expands what is typed; nothing is typed then.");
        Calls x = with("m(){a b c}");
        due("a long one", expand(x, "m!()m!()"), 6);
        due("a short one", expand(x, "m!()"), 3);
        dueText("nothing of the long one is left", state(x), "arms 1 -1, used 0 -1, outcome a.1 b.1 c.1, means"
                + " -1 -1 -1 -1");
        due("nothing typed", x.expand(), 0);
        dueText("nothing is left", state(x), "arms 1 -1, used -1, outcome , means -1");
        due("marks begin at 1 again", expand(x, "m!()"), 3);
        due("the mark", x.mark(0), 1);
    }

    private static void twoObjects() {
        sentence("A new object: No definitions, no outcome; nothing is typed. (whatever another one holds)");
        Calls one = with("m(){a}");
        due("one's outcome", expand(one, "m!()b"), 2);
        typed(one, "m");
        Calls other = new Calls();
        dueText("the other one", state(other), "arms -1, used -1, outcome , means -1");
        due("nothing typed there", other.expand(), 0);
        due("no m there", expand(other, "m!()"), -2000);
        due("another m there", define(other, "m(){7 7 7}"), 1);
        typed(one, "!()");
        due("one's m", one.expand(), 1);
        due("its body", one.token(0), 1001);
    }

    private static void lastCall() {
        sentence("An object is used for at most 512 calls after it has been made");
        Calls x = with("m($x:id){let$x$x}");
        for (int i = 0; x.left() > 12; i++) {
            if (i % 2 == 0) {
                due("expand, with " + x.left() + " calls left", expand(x, "m!(a)"), 3);
            } else {
                due("expand, with " + x.left() + " calls left", expand(x, "m!(b)m!(c)"), 6);
                due("means, with " + x.left() + " calls left", x.means(5), 4);
            }
        }
        typed(x, "m!(a)m!(b)");
        for (int i = 0; x.left() > 2; i++) {
            due("definitions, with " + x.left() + " calls left", x.definitions(), 1);
        }
        due("the call before the last", x.expand(), 6);
        due("the last one", x.means(5), 4);
        due("calls left", x.left(), 0);
        x = new Calls();
        for (int i = 0; i < 509; i++) {
            due("a refused call", typed(x, 31, 1), 0);
        }
        due("call 510", typed(x, 'A', 1), 1);
        due("call 511", x.define(), -1);
        due("call 512", x.definitions(), 0);
    }
}
