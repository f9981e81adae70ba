import java.util.function.Supplier;
import java.util.function.ToIntFunction;

/** Counts answers that are not the ones that are due; tests share it. */
final class Due {
    private int asked;
    private int wrong;
    private String sentence = "";

    /** What the answers from now on are of: it is said with each one that is wrong. */
    void sentence(String words) {
        sentence = words + "\n    ";
    }

    int asked() {
        return asked;
    }

    void is(String call, long got, long want) {
        asked++;
        if (got != want) {
            wrong++;
            System.out.println(sentence + call + " answered " + got + ", due is " + want);
        }
    }

    void is(String call, boolean got, boolean want) {
        is(call, got ? 1 : 0, want ? 1 : 0);
    }

    /** A call on a new museum that is refused so: all that the museum shows is as without the call. */
    void refuses(String call, Supplier<WhatWasNearly> made, ToIntFunction<WhatWasNearly> refused, int answer) {
        WhatWasNearly x = made.get();
        is(call, refused.applyAsInt(x), answer);
        is(call + " leaves all as it was", Museums.shown(x).equals(Museums.shown(made.get())), true);
    }

    /** Says how it went; ends the program with 1 if an answer was wrong. */
    void close() {
        System.out.println(asked + " answers, " + wrong + " of them not as due");
        if (wrong != 0 || asked == 0) {
            System.exit(1);
        }
    }

    /** Empties the tape and feeds these bytes, one character each. */
    static void feed(WhatWasNearly x, String bytes) {
        x.end(0);
        for (int i = 0; i < bytes.length(); i += 20) {
            x.feed(four(bytes, i), four(bytes, i + 4), four(bytes, i + 8), four(bytes, i + 12), four(bytes, i + 16));
        }
        x.end(bytes.length());
    }

    static int four(String bytes, int from) {
        int word = 0;
        for (int i = from; i < from + 4; i++) {
            word = word << 8 | (i < bytes.length() ? bytes.charAt(i) & 255 : 0);
        }
        return word;
    }

    static int text(WhatWasNearly x, String bytes) {
        feed(x, bytes);
        return x.text();
    }

    /** A new object with this text ruling and so many choices, all 0 with odds of 5. */
    static WhatWasNearly ruled(String bytes, int choices) {
        WhatWasNearly x = new WhatWasNearly();
        for (int i = 0; i < choices; i++) {
            x.choice(0, 5);
        }
        if (text(x, bytes) != 0 || !x.by(0)) {
            throw new IllegalStateException("a text with a fault: " + bytes);
        }
        return x;
    }
}
