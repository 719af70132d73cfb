/** An object with whole texts typed at once; what a call throws is answered as a number. */
final class Talk {
    static final int ARGUMENT = 1001;
    static final int STATE = 1002;

    final ConditionedProofs it = new ConditionedProofs();

    Talk text(String text) {
        for (int i = 0; i < text.length(); i++) {
            if (!it.type(text.charAt(i))) {
                throw new AssertionError("not typed: " + text);
            }
        }
        return this;
    }

    int declare(char letter, String text) {
        text(text);
        try {
            return it.declare(letter);
        } catch (IllegalArgumentException e) {
            return ARGUMENT;
        } catch (IllegalStateException e) {
            return STATE;
        }
    }

    int program(char letter, String text) {
        text(text);
        try {
            return it.program(letter);
        } catch (IllegalArgumentException e) {
            return ARGUMENT;
        } catch (IllegalStateException e) {
            return STATE;
        }
    }

    int check(String text) {
        return text(text).it.check();
    }

    int run(char letter, String text) {
        text(text);
        try {
            return it.run(letter);
        } catch (IllegalArgumentException e) {
            return ARGUMENT;
        }
    }

    int lemma(char letter) {
        try {
            it.lemma(letter);
            return 0;
        } catch (IllegalArgumentException e) {
            return ARGUMENT;
        } catch (IllegalStateException e) {
            return STATE;
        }
    }

    int retract() {
        try {
            return it.retract();
        } catch (IllegalStateException e) {
            return STATE;
        }
    }

    String page() {
        StringBuilder page = new StringBuilder();
        for (int i = 0; i < it.length(); i++) {
            page.append(it.charAt(i));
        }
        return page.toString();
    }

    /** Declares what must be right for the test to mean anything. */
    Talk constant(char letter, String text) {
        int answer = declare(letter, text);
        if (answer < 0 || answer > 6) {
            throw new AssertionError(letter + " " + text + " answered " + answer);
        }
        return this;
    }

    Talk code(char letter, String text) {
        int answer = program(letter, text);
        if (answer < 1 || answer > 4) {
            throw new AssertionError(letter + " " + text + " answered " + answer);
        }
        return this;
    }
}
