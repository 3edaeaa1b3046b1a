/** What the tests by example are made of. */
abstract class Checks {
    private static int wrong = 0;
    private static int sentences = 0;
    private static String sentence = "";

    /** What follows tests this sentence of the document. */
    static void sentence(String words) {
        sentence = "\"" + words + "\": ";
        sentences++;
    }

    static void due(String what, int got, int want) {
        if (got != want) {
            wrong++;
            System.out.println(sentence + what + ": answered " + got + ", due is " + want);
        }
    }

    static void dueText(String what, String got, String want) {
        if (!got.equals(want)) {
            wrong++;
            System.out.println(sentence + what + ": came to \"" + got + "\", due is \"" + want + "\"");
        }
    }

    static void finish() {
        String tested = sentences == 0 ? "" : sentences + " sentences: ";
        System.out.println(tested + (wrong == 0 ? "all answers are as due" : wrong + " answers are not as due"));
        if (wrong != 0) {
            System.exit(1);
        }
    }

    // ---- calls ----

    static int typed(Calls x, int word, int n) {
        return x.type(word, n) ? 1 : 0;
    }

    static void typed(Calls x, String text) {
        for (int i = 0; i < text.length(); i += 4) {
            int n = Math.min(4, text.length() - i);
            int word = 0;
            for (int j = i; j < i + n; j++) {
                word = word << 8 | text.charAt(j);
            }
            due("type \"" + text + "\" at " + i, typed(x, word, n), 1);
        }
    }

    static int define(Calls x, String text) {
        typed(x, text);
        return x.define();
    }

    static int expand(Calls x, String text) {
        typed(x, text);
        return x.expand();
    }

    static Calls with(String... definitions) {
        Calls x = new Calls();
        for (int i = 0; i < definitions.length; i++) {
            due("define " + definitions[i], define(x, definitions[i]), i + 1);
        }
        return x;
    }

    // ---- one definition ----

    static void defines(String text) {
        due("define " + text, define(new Calls(), text), 1);
    }

    static void defineFails(String text, int at) {
        defineRefused(text, -1 - at);
    }

    /** The text is answered like this and is no definition; the one that was there is what it was. */
    static void defineRefused(String text, int answer) {
        Calls x = with("k(){7};(a){}");
        due("define " + text, define(x, text), answer);
        due("definitions behind " + text, x.definitions(), 1);
        due("arms 0 behind " + text, x.arms(0), 2);
        due("arms 1 behind " + text, x.arms(1), -1);
        due("k!() behind " + text, expand(x, "k!()"), 1);
        due("its token behind " + text, x.token(0), 307);
    }

    // ---- one text ----

    static void expandFails(String text, int at) {
        expandErrs(text, -1 - at, 0);
    }

    /** The text is answered by an error, behind so many expansions, and has no outcome; the next one is expanded. */
    static void expandErrs(String text, int error, int done, String... definitions) {
        Calls x = with(definitions);
        due("expand " + text, expand(x, text), error);
        due("token 0 behind " + text, x.token(0), -1);
        due("mark 0 behind " + text, x.mark(0), -1);
        due("means 0 behind " + text, x.means(0), -1);
        due("expansions behind " + text, x.expansions(), done);
        due("used behind " + text, x.used(done + 1), -1);
        due("definitions behind " + text, x.definitions(), definitions.length);
        due("let a behind " + text, expand(x, "let a"), 2);
        due("its binder behind " + text, x.means(1), 1);
    }

    static void expandsTo(String text, int want, String... definitions) {
        due("expand " + text, expand(with(definitions), text), want);
    }

    /** The outcome is this one, whatever its marks. */
    static void expands(String text, String want, String... definitions) {
        Calls x = with(definitions);
        expand(x, text);
        dueText("expand " + text, outcome(x, false), want);
    }

    /** The outcome is this one, with .k behind each token of the mark k, if that is not 0. */
    static void expandsMarked(String text, String want, String... definitions) {
        Calls x = with(definitions);
        expand(x, text);
        dueText("expand " + text, outcome(x, true), want);
    }

    static void means(String text, int... places) {
        Calls x = new Calls();
        due("expand " + text, expand(x, text), places.length);
        meant(x, text, places);
    }

    static void meant(Calls x, String what, int... places) {
        for (int i = 0; i < places.length; i++) {
            due("means " + i + " of " + what, x.means(i), places[i]);
        }
    }

    /** The arms used in the expansions of the last text were these. */
    static void used(Calls x, int... arms) {
        due("expansions", x.expansions(), arms.length);
        for (int i = 0; i < arms.length; i++) {
            due("used " + (i + 1), x.used(i + 1), arms[i]);
        }
        for (int k : new int[] {0, -1, arms.length + 1, 10 + arms.length, Integer.MIN_VALUE, Integer.MAX_VALUE}) {
            due("used " + k, x.used(k), -1);
        }
    }

    // ---- what an object shows ----

    static String shown(int token) {
        if (token < 300) {
            return String.valueOf((char) token);
        }
        if (token < 1000) {
            return String.valueOf(token - 300);
        }
        StringBuilder word = new StringBuilder();
        for (int rest = token - 1000; rest > 0; rest /= 27) {
            word.insert(0, (char) ('a' + rest % 27 - 1));
        }
        return word.toString();
    }

    static String outcome(Calls x, boolean marks) {
        StringBuilder out = new StringBuilder();
        for (int i = 0;; i++) {
            int token = x.token(i);
            if (token == -1) {
                return out.toString();
            }
            out.append(i > 0 ? " " : "").append(shown(token));
            int mark = marks ? x.mark(i) : 0;
            out.append(mark != 0 ? "." + mark : "");
        }
    }

    /** All that can be asked without a change, for an outcome of few tokens. */
    static String state(Calls x) {
        StringBuilder out = new StringBuilder("arms");
        int definitions = x.definitions();
        for (int k = 0; k <= definitions; k++) {
            out.append(' ').append(x.arms(k));
        }
        out.append(", used");
        int expansions = x.expansions();
        for (int k = 1; k <= expansions + 1; k++) {
            out.append(' ').append(x.used(k));
        }
        out.append(", outcome ").append(outcome(x, true)).append(", means");
        int last = 0;
        for (int k = 0; last == 0; k++) {
            out.append(' ').append(x.means(k));
            last = x.token(k) == -1 ? 1 : 0;
        }
        return out.toString();
    }
}
