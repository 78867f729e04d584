/** Counts answers that aren't as due, and puts texts onto a tape. */
final class Check {
    private final String name;
    private int right;
    private int wrong;

    Check(String name) {
        this.name = name;
    }

    void is(String what, long got, long want) {
        if (got == want) {
            right++;
            return;
        }
        wrong++;
        if (wrong <= 40) {
            System.out.println(name + ": " + what + " answered " + got + ", due is " + want);
        }
    }

    /** Ends the test: exit code 1 if an answer was wrong. */
    void end() {
        System.out.println(name + ": " + right + " right, " + wrong + " wrong");
        if (wrong != 0 || right == 0) {
            System.exit(1);
        }
    }

    static int feed(NoKnot x, String text) {
        int answer = x.count(7);
        for (int at = 0; at < text.length(); at += 20) {
            answer = x.feed(word(text, at), word(text, at + 4), word(text, at + 8),
                    word(text, at + 12), word(text, at + 16));
        }
        return answer;
    }

    static int basket(NoKnot x, String text) {
        feed(x, text);
        return x.basket(text.length());
    }

    static int wish(NoKnot x, String text) {
        feed(x, text);
        return x.wish(text.length());
    }

    static int print(NoKnot x, String text) {
        feed(x, text);
        return x.print(text.length());
    }

    static void row(NoKnot x, int row, int sort, long... values) {
        x.numbers(row, sort, values.length);
        for (int i = 0; i < values.length; i++) {
            x.write(row, i, values[i]);
        }
    }

    private static int word(String text, int at) {
        int word = 0;
        for (int k = at; k < at + 4; k++) {
            word = word << 8 | (k < text.length() ? text.charAt(k) & 255 : ' ');
        }
        return word;
    }
}
