/** What the tests share: asking what is due, and telling the rules' text to a cellar. */
final class Check {
    private static int asked = 0;
    private static int wrong = 0;

    private Check() {
    }

    interface Call {
        void run();
    }

    static void due(String what, long got, long want) {
        asked++;
        if (got != want) {
            wrong++;
            System.out.println(what + " answered " + got + ", due is " + want);
        }
    }

    static void due(String what, boolean got, boolean want) {
        due(what, got ? 1 : 0, want ? 1 : 0);
    }

    /** The exact class is due: one below it would be another answer. */
    static void thrown(String what, Class<? extends RuntimeException> want, Call call) {
        asked++;
        Class<?> got = null;
        try {
            call.run();
        } catch (RuntimeException e) {
            got = e.getClass();
        }
        if (got != want) {
            wrong++;
            System.out.println(what + " threw " + got + ", due is " + want);
        }
    }

    static void noIndex(String what, Call call) {
        thrown(what, IndexOutOfBoundsException.class, call);
    }

    static void noArgument(String what, Call call) {
        thrown(what, IllegalArgumentException.class, call);
    }

    /** Puts a text on an empty tape; characters are bytes. */
    static void tape(HamCellar x, String text) {
        for (int at = 0; at < text.length(); at += 20) {
            x.feed(number(text, at), number(text, at + 4), number(text, at + 8),
                    number(text, at + 12), number(text, at + 16));
        }
        due("end(" + text.length() + ")", x.end(text.length()), true);
    }

    static int rules(HamCellar x, String text) {
        tape(x, text);
        return x.rules();
    }

    /** A wrong text: refused, with its fault where it is due. */
    static void refused(HamCellar x, String text, int fault) {
        tape(x, text);
        noArgument("rules of \"" + text + "\"", x::rules);
        due("fault of \"" + text + "\"", x.fault(), fault);
    }

    private static int number(String text, int at) {
        int number = 0;
        for (int i = at; i < at + 4; i++) {
            number = number << 8 | (i < text.length() ? text.charAt(i) & 255 : 0);
        }
        return number;
    }

    static void close(String test) {
        System.out.println(test + ": " + asked + " answers asked, " + wrong + " wrong");
        if (wrong != 0 || asked == 0) {
            System.exit(1);
        }
    }
}
