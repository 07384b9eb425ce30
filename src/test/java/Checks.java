/** What the tests share: wrong answers are printed and counted, texts are fed. */
final class Checks {
    private static int wrong = 0;
    private static String heading = "";

    private Checks() {
    }

    interface Call {
        long ask();
    }

    interface NumberedCall {
        long ask(StillYear x, int number);
    }

    /** 3 SEATS, 2 SITTERS, 4 SITTINGS. */
    static final String HOUSE = "seat 2;seat 5;seat 0;sitter 4 20;sitter 1 9;sitting 7;sitting 9;sitting 1;sitting 365;";

    /** Stands ahead of all that is found wrong from now on. */
    static void heading(String text) {
        heading = text;
    }

    static void due(String what, long got, long want) {
        if (got != want) {
            wrong(what + " answered " + got + ", due is " + want);
        }
    }

    static void same(String what, String got, String want) {
        if (!got.equals(want)) {
            wrong(what + " is\n  " + got + "\n  and was\n  " + want);
        }
    }

    static void unknown(String what, Call call) {
        refused(what, java.util.NoSuchElementException.class, call);
    }

    static void bad(String what, Call call) {
        refused(what, IllegalArgumentException.class, call);
    }

    private static void refused(String what, Class<?> kind, Call call) {
        String got;
        try {
            got = "" + call.ask();
        } catch (RuntimeException e) {
            if (e.getClass() == kind) {
                return;
            }
            got = e.toString();
        }
        wrong(what + " answered " + got + ", due is a " + kind.getSimpleName());
    }

    private static void answered(String what, Call call) {
        try {
            call.ask();
        } catch (RuntimeException e) {
            wrong(what + " answered " + e + ", due is a number");
        }
    }

    /** The first and the last number that are allowed, and those beside them that are not; a refused call is counted, and changes nothing. */
    static void bounds(String what, int least, int most, NumberedCall call) {
        StillYear x = livedIn(HOUSE);
        answered(what + " of " + least, () -> call.ask(x, least));
        answered(what + " of " + most, () -> call.ask(x, most));
        int[] beyond = {least - 1, most + 1, Integer.MIN_VALUE, Integer.MAX_VALUE};
        String all = allOf(x);
        for (int number : beyond) {
            bad(what + " of " + number, () -> call.ask(x, number));
        }
        same("what a refused " + what + " leaves", allOf(x), all);
        due("status(0) behind " + what, x.status(0), 0);
        due("status(1) behind " + what, x.status(1), beyond.length);
    }

    /** The first and the last SEAT, SITTER or SITTING, and numbers that are none; a refused call is counted, and changes nothing. */
    static void elements(String what, int many, NumberedCall call) {
        StillYear x = livedIn(HOUSE);
        answered(what + " of 0", () -> call.ask(x, 0));
        answered(what + " of " + (many - 1), () -> call.ask(x, many - 1));
        int[] beyond = {-1, many, Integer.MIN_VALUE, Integer.MAX_VALUE};
        String all = allOf(x);
        for (int number : beyond) {
            unknown(what + " of " + number, () -> call.ask(x, number));
        }
        same("what a refused " + what + " leaves", allOf(x), all);
        due("status(0) behind " + what, x.status(0), beyond.length);
        due("status(1) behind " + what, x.status(1), 0);
        StillYear bare = new StillYear();
        unknown(what + " of 0 in a new object", () -> call.ask(bare, 0));
    }

    /** All that can be seen of an object, but for how many calls were refused. */
    static String allOf(StillYear x) {
        return "fault " + x.fault() + "; " + allButFault(x);
    }

    /** Not how many WORKS there are, nor told(7). */
    static String allThatWorkChanges(StillYear x) {
        String all = allOf(x);
        return "day " + x.told(3) + ", meals " + x.told(4) + all.substring(all.indexOf("; seat"));
    }

    private static String allButFault(StillYear x) {
        StringBuilder all = new StringBuilder("count");
        for (int what = 0; what <= 2; what++) {
            all.append(' ').append(x.count(what));
        }
        all.append("; told");
        for (int what = 0; what <= 10; what++) {
            all.append(' ').append(x.told(what));
        }
        all.append("; by the law ").append(x.would(3, 7, 5, 2, 1, 4, 2, 6)).append(' ').append(x.would(9, 1, 0, 8, 6, 0, 5, 1));
        for (int seat = 0; seat < x.told(0); seat++) {
            all.append("; seat ").append(x.seat(seat, 0)).append(' ').append(x.seat(seat, 1)).append(':');
            for (int sitter = 0; sitter < x.told(1); sitter++) {
                all.append(' ').append(x.plate(seat, sitter));
            }
        }
        for (int sitter = 0; sitter < x.told(1); sitter++) {
            all.append("; sitter");
            for (int what = 0; what <= 4; what++) {
                all.append(' ').append(x.sitter(sitter, what));
            }
            all.append(" goings ").append(x.goings(sitter, 0)).append(' ').append(x.goings(sitter, 1)).append(' ').append(x.bright(sitter));
        }
        for (int sitting = 0; sitting < x.told(2); sitting++) {
            all.append("; sitting ").append(x.sitting(sitting));
        }
        return all.toString();
    }

    static void wrong(String what) {
        wrong++;
        System.out.println(heading + what);
    }

    /** A row of bytes on the TAPE, twenty at a time, the last ones 0. */
    static void feed(StillYear x, String text) {
        for (int i = 0; i < text.length(); i += 20) {
            x.feed(four(text, i), four(text, i + 4), four(text, i + 8), four(text, i + 12), four(text, i + 16));
        }
    }

    static int four(String text, int from) {
        int number = 0;
        for (int i = from; i < from + 4; i++) {
            number = number << 8 | (i < text.length() ? text.charAt(i) & 255 : 0);
        }
        return number;
    }

    static int studio(StillYear x, String text) {
        feed(x, text);
        return x.studio(text.length());
    }

    static int law(StillYear x, String text) {
        feed(x, text);
        return x.law(text.length());
    }

    static int work(StillYear x, String text) {
        feed(x, text);
        return x.work(text.length());
    }

    static int book(StillYear x, String text) {
        feed(x, text);
        return x.book(text.length());
    }

    private static int text(StillYear x, String kind, String text) {
        switch (kind) {
            case "studio": return studio(x, text);
            case "law": return law(x, text);
            case "work": return work(x, text);
            default: return book(x, text);
        }
    }

    /** A text that can be read: what it answers; there is no FAULT, and the TAPE is empty then. */
    static void fine(StillYear x, String kind, String text, int answer) {
        due(kind + " \"" + text + "\"", text(x, kind, text), answer);
        due("fault() of " + kind + " \"" + text + "\"", x.fault(), StillYear.NONE);
        due("count(1) behind " + kind + " \"" + text + "\"", x.count(1), 0);
    }

    /** A text with a FAULT of this number at this place, told to an object with this STUDIO: all else stays, and the TAPE is empty then. */
    static void faulty(String studio, String kind, String text, int fault, int place) {
        StillYear x = livedIn(studio);
        String before = allButFault(x);
        due(kind + " \"" + text + "\"", text(x, kind, text), fault - 10);
        due("fault() of " + kind + " \"" + text + "\"", x.fault(), place);
        same("what " + kind + " \"" + text + "\" leaves", allButFault(x), before);
    }

    /** An object that was told a LAW, WORK, a BOOK if there is a SEAT, and has an IMAGE: so that much can be lost. */
    static StillYear livedIn(String studio) {
        StillYear x = in(studio);
        law(x, "light+3*seat+sitter");
        if (x.told(0) > 0) {
            book(x, "0 6;");
        }
        work(x, x.told(0) > 0 && x.told(1) > 0 ? "sit 0 0;day;sit 0 0;" : "day;");
        x.image();
        return x;
    }

    static StillYear in(String studio) {
        StillYear x = new StillYear();
        if (studio(x, studio) < 0) {
            wrong("the studio has a fault at " + x.fault() + ": " + studio);
        }
        return x;
    }

    static String times(int many, String text) {
        return text.repeat(many);
    }

    static void end(String name) {
        System.out.println(name + ": " + (wrong == 0 ? "all answers are as due" : wrong + " answers are not as due"));
        if (wrong != 0) {
            System.exit(1);
        }
    }
}
