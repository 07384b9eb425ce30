/** What the tests share: wrong answers are printed and counted, texts are fed. */
final class Checks {
    private static int wrong = 0;

    private Checks() {
    }

    interface Call {
        long ask();
    }

    static void due(String what, long got, long want) {
        if (got != want) {
            wrong++;
            System.out.println(what + " answered " + got + ", due is " + want);
        }
    }

    static void unknown(String what, Call call) {
        refused(what, java.util.NoSuchElementException.class, call);
    }

    static void bad(String what, Call call) {
        refused(what, IllegalArgumentException.class, call);
    }

    private static void refused(String what, Class<?> kind, Call call) {
        String got;
        try {
            got = "" + call.ask();
        } catch (RuntimeException e) {
            if (e.getClass() == kind) {
                return;
            }
            got = e.toString();
        }
        wrong++;
        System.out.println(what + " answered " + got + ", due is a " + kind.getSimpleName());
    }

    static void wrong(String what) {
        wrong++;
        System.out.println(what);
    }

    /** A row of bytes on the TAPE, twenty at a time, the last ones 0. */
    static void feed(StillYear x, String text) {
        for (int i = 0; i < text.length(); i += 20) {
            x.feed(four(text, i), four(text, i + 4), four(text, i + 8), four(text, i + 12), four(text, i + 16));
        }
    }

    static int four(String text, int from) {
        int number = 0;
        for (int i = from; i < from + 4; i++) {
            number = number << 8 | (i < text.length() ? text.charAt(i) & 255 : 0);
        }
        return number;
    }

    static int studio(StillYear x, String text) {
        feed(x, text);
        return x.studio(text.length());
    }

    static int law(StillYear x, String text) {
        feed(x, text);
        return x.law(text.length());
    }

    static int work(StillYear x, String text) {
        feed(x, text);
        return x.work(text.length());
    }

    static int book(StillYear x, String text) {
        feed(x, text);
        return x.book(text.length());
    }

    static StillYear in(String studio) {
        StillYear x = new StillYear();
        if (studio(x, studio) < 0) {
            wrong("the studio has a fault at " + x.fault() + ": " + studio);
        }
        return x;
    }

    static String times(int many, String text) {
        return text.repeat(many);
    }

    static void end(String name) {
        System.out.println(name + ": " + (wrong == 0 ? "all answers are as due" : wrong + " answers are not as due"));
        if (wrong != 0) {
            System.exit(1);
        }
    }
}
