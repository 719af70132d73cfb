import java.util.function.IntConsumer;
import java.util.function.IntPredicate;

/**
 * The document's grammars, tried in every way, so that the fault of a text is found by its definition: a text is
 * the beginning of a thing when some way of reading it comes to its end.
 */
final class Grammar {
    /** Reads from a place on and hands every place where it may end to what comes next. */
    interface Rule {
        void read(Attempt on, int at, IntConsumer next);
    }

    static final class Attempt {
        final String text;
        boolean begun;
        boolean complete;

        Attempt(String text) {
            this.text = text;
        }
    }

    static final Rule TERM = (on, at, next) -> term(1, true).read(on, at, next);
    static final Rule TERMS = times(1, 6, term(1, false));
    static final Rule DECLARATION = declaration();
    static final Rule PROGRAM = seq(times(1, 4, variable()), is('='), code(1));

    private Grammar() {
    }

    /** The fault's place, or -1 when the text is such a thing. */
    static int fault(Rule rule, String text) {
        for (int end = 1; end <= text.length(); end++) {
            if (!attempt(rule, text.substring(0, end)).begun) {
                return end - 1;
            }
        }
        return attempt(rule, text).complete ? -1 : text.length();
    }

    private static Attempt attempt(Rule rule, String text) {
        Attempt on = new Attempt(text);
        rule.read(on, 0, end -> {
            if (end == text.length()) {
                on.begun = true;
                on.complete = true;
            }
        });
        return on;
    }

    private static Rule one(IntPredicate fits) {
        return (on, at, next) -> {
            if (at == on.text.length()) {
                on.begun = true;
            } else if (fits.test(on.text.charAt(at))) {
                next.accept(at + 1);
            }
        };
    }

    private static Rule is(char c) {
        return one(x -> x == c);
    }

    private static Rule variable() {
        return one(x -> "abcdefghijklmnopqrstuvwxyz".indexOf(x) >= 0);
    }

    private static Rule digit() {
        return one(x -> "0123456789".indexOf(x) >= 0);
    }

    private static Rule letter() {
        return one(x -> "ABCDEFGHIJKLMNOPQRSTUVWXYZ".indexOf(x) >= 0);
    }

    private static Rule seq(Rule... rules) {
        return (on, at, next) -> seqFrom(0, rules, on, at, next);
    }

    private static void seqFrom(int i, Rule[] rules, Attempt on, int at, IntConsumer next) {
        if (i == rules.length) {
            next.accept(at);
        } else {
            rules[i].read(on, at, end -> seqFrom(i + 1, rules, on, end, next));
        }
    }

    private static Rule or(Rule... rules) {
        return (on, at, next) -> {
            for (Rule rule : rules) {
                rule.read(on, at, next);
            }
        };
    }

    private static Rule times(int least, int most, Rule rule) {
        return (on, at, next) -> {
            if (least <= 0) {
                next.accept(at);
            }
            if (most > 0) {
                rule.read(on, at, end -> times(least - 1, most - 1, rule).read(on, end, next));
            }
        };
    }

    private static Rule term(int depth, boolean holes) {
        return (on, at, next) -> {
            if (depth > 8) {
                return;
            }
            Rule inner = depth == 8 ? none() : term(depth + 1, holes);
            or(variable(), digit(), is('#'), holes ? is('_') : none(), letter(),
                    depth == 8 ? none() : seq(letter(), is('('), times(1, 6, inner), is(')'))).read(on, at, next);
        };
    }

    private static Rule none() {
        return (on, at, next) -> { };
    }

    private static Rule declaration() {
        Rule term = term(1, false);
        Rule startsWithLetter = (on, at, next) -> {
            if (at == on.text.length()) {
                on.begun = true;
            } else if (Character.isUpperCase(on.text.charAt(at))) {
                term.read(on, at, next);
            }
        };
        Rule part = or(seq(variable(), is(':'), term), is('#'), startsWithLetter,
                seq(is('?'), letter(), is('('), times(1, 6, term), is(')'), is('='), term));
        Rule parts = or(times(0, 0, part), seq(part, times(0, 5, seq(is(','), part))));
        return seq(parts, is('>'), or(is('*'), term));
    }

    private static Rule code(int depth) {
        return (on, at, next) -> {
            Rule leaf = or(variable(), digit(), letter(), is('~'));
            if (depth == 12) {
                leaf.read(on, at, next);
                return;
            }
            Rule inner = code(depth + 1);
            Rule pattern = or(digit(), is('_'), letter(), seq(letter(), is('('), times(1, 6, variable()), is(')')));
            Rule branch = seq(is('|'), pattern, is('>'), inner);
            or(leaf, seq(letter(), is('('), times(1, 6, inner), is(')')), seq(or(is('+'), is('-')), inner, inner),
                    seq(is('{'), inner, times(1, 5, branch), is('}')),
                    seq(is('['), inner, or(is('='), is('<')), inner, is('?'), inner, is(':'), inner, is(']')))
                    .read(on, at, next);
        };
    }
}
