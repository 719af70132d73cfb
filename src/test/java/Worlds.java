/** What the tests declare before they ask, and texts of a given size. */
final class Worlds {
    private static final String NUMBERS_WIDE = "K(111111)";
    private static final String NUMBERS_NARROW = "U(1)";

    private Worlds() {
    }

    /** Types T, F and S, things E, D, J of T; J and K have conditions; P gives what it gets. */
    static Talk small() {
        return new Talk().constant('T', ">*").constant('E', ">T").constant('D', "T,T>T").constant('F', "T>*")
                .code('P', "a=a").constant('J', "?P(1)=1>T").constant('K', "?P(1)=1>*").constant('S', "#>*");
    }

    /** U adds one node and three characters, the program Q doubles and adds one node and three characters. */
    static Talk growing() {
        return new Talk().constant('T', ">*").constant('E', ">T").constant('U', "T>T").constant('D', "T,T>T")
                .constant('F', "T>*").code('Q', "a=D(aa)");
    }

    /** A program for the growing world that makes a value of as many nodes from one node. */
    static String nodes(int wanted) {
        return "a=" + grown(wanted);
    }

    private static String grown(int wanted) {
        if (wanted == 1) {
            return "a";
        }
        return wanted % 2 == 1 ? "Q(" + grown((wanted - 1) / 2) + ")" : "U(" + grown(wanted - 1) + ")";
    }

    /** Numbers as arguments: U and K take one and six of them, S is a type of them. */
    static Talk numbers() {
        return new Talk().constant('U', "#>#").constant('K', "#,#,#,#,#,#>#").constant('S', "#>*").code('P', "a=a");
    }

    /** A term of the numbers' world with as many characters (1, or 15 and more), as flat as can be. */
    static String number(int characters) {
        int narrow = 0;
        while ((characters - 1 - 3 * narrow) % 8 != 0) {
            narrow++;
        }
        StringBuilder text = new StringBuilder("1");
        while (text.length() < characters) {
            int place = flattestOne(text);
            boolean wide = text.length() + 3 * narrow < characters;
            text.replace(place, place + 1, wide ? NUMBERS_WIDE : NUMBERS_NARROW);
        }
        if (text.length() != characters) {
            throw new AssertionError("no number of " + characters + " characters");
        }
        return text.toString();
    }

    private static int flattestOne(CharSequence text) {
        int found = -1;
        int least = Integer.MAX_VALUE;
        int depth = 0;
        for (int i = 0; i < text.length(); i++) {
            char c = text.charAt(i);
            depth += c == '(' ? 1 : c == ')' ? -1 : 0;
            if (c == '1' && depth < least) {
                least = depth;
                found = i;
            }
        }
        return found;
    }
}
