/** Promises 1 to 8 and 43 to 46: the TAPE, the texts that are read from it, what is undone, IMAGES, and what is counted. */
final class BoundsOfTelling {
    private static final String TWO = "seat 2;seat 5;sitter 4 60;sitter 1 60;";

    private final Sentences sentences;

    BoundsOfTelling(Sentences sentences) {
        this.sentences = sentences;
    }

    void run() {
        newObject();
        feed();
        studio();
        law();
        work();
        sixteenWorks();
        book();
        fault();
        undo();
        image();
        restore();
        status();
        count();
        lastCall();
    }

    // ---- promises 1 and 2

    private void newObject() {
        sentences.about(1, "A STUDIO without CLAUSES.");
        StillYear x = new StillYear();
        int[] told = {0, 0, 0, 0, 20, 0, 0, 0, 0, 0, 365};
        for (int what = 0; what < told.length; what++) {
            Checks.due("told(" + what + ")", x.told(what), told[what]);
        }
        String fresh = Checks.allOf(x);
        Checks.fine(x, "studio", "", 0);
        Checks.same("an empty studio", Checks.allOf(x), fresh);
        Checks.fine(x, "studio", TWO, 2);
        Checks.fine(x, "studio", "", 0);
        Checks.same("an empty studio behind another one", Checks.allOf(x), fresh);
        Checks.unknown("seat(0, 0)", () -> x.seat(0, 0));
        Checks.unknown("sitter(0, 0)", () -> x.sitter(0, 0));
        Checks.unknown("sitting(0)", () -> x.sitting(0));
    }

    private void feed() {
        sentences.about(2, "Twenty bytes come on the TAPE, of each number the highest first: how many there are;");
        StillYear x = new StillYear();
        Checks.due("the first twenty", x.feed(0x73656174, 0x20323B73, 0x69747465, 0x72203420, 0x37203B20), 20);
        Checks.due("they are read in this order", x.studio(20), 1);
        Checks.due("the third byte of the second number ends the first clause", x.seat(0, 0), 2);
        Checks.due("dark", x.sitter(0, 0), 4);
        Checks.due("N", x.sitter(0, 1), 7);
        Checks.due("numbers of all bits", x.feed(-1, Integer.MIN_VALUE, Integer.MAX_VALUE, 0, 0x20202020), 20);
        Checks.due("forty", x.feed(0, 0, 0, 0, 0), 40);
        Checks.due("byte 255 is no blank", x.law(40), -9);
        Checks.due("nor a word", x.fault(), 0);
        x.feed(0x20202020, 0x20202020, 0x20202020, 0x20202020, 0x202020B5);
        Checks.due("the lowest byte of the last is the 20th: 181", x.law(20), -9);
        Checks.due("it stands there", x.fault(), 19);
        sentences.about(2, "NONE, doing nothing, if there would be more than 600.");
        for (int i = 1; i <= 30; i++) {
            Checks.due("feed " + i, x.feed(0x20202020, 0x20202020, 0x20202020, 0x20202020, 0x20202020), 20 * i);
        }
        Checks.due("a 31st", x.feed(0x3F3F3F3F, 0, 0, 0, 0), StillYear.NONE);
        Checks.due("bytes", x.count(1), 600);
        Checks.due("a 32nd", x.feed(0x3F3F3F3F, 0, 0, 0, 0), StillYear.NONE);
        Checks.due("blanks alone", x.studio(600), 0);
        Checks.due("room again", x.feed(0, 0, 0, 0, 0), 20);
    }

    // ---- promises 3 to 7

    /** The lengths that are allowed and that are not, with so many bytes on the TAPE; a refused call leaves all as it is, the TAPE too. */
    private static void lengths(String kind, int bytes, int most) {
        lengthsOf(kind, bytes, 0, most);
        lengthsOf(kind, bytes, most, most);
    }

    private static void lengthsOf(String kind, int bytes, int allowed, int most) {
        StillYear x = Checks.livedIn(TWO);
        Checks.law(x, "(");
        Checks.feed(x, Checks.times(bytes, " "));
        String before = Checks.allOf(x);
        int[] wrong = {-1, most + 1, Integer.MIN_VALUE, Integer.MAX_VALUE};
        for (int n : wrong) {
            Checks.bad(kind + "(" + n + ") of " + bytes, () -> read(x, kind, n));
        }
        Checks.same("what a refused " + kind + " leaves", Checks.allOf(x), before);
        Checks.due("status(1)", x.status(1), wrong.length);
        Checks.due(kind + "(" + allowed + ") of " + bytes, read(x, kind, allowed), kind.equals("law") ? -9 : 0);
        Checks.due("the tape is empty then", x.count(1), 0);
    }

    private static int read(StillYear x, String kind, int n) {
        switch (kind) {
            case "studio": return x.studio(n);
            case "law": return x.law(n);
            case "work": return x.work(n);
            default: return x.book(n);
        }
    }

    private void studio() {
        sentences.about(3, "The first n bytes of the TAPE (empty then) are the STUDIO (no LAW, BOOK, IMAGES, nothing to undo): how many SITTERS;");
        StillYear x = Checks.livedIn(TWO);
        Checks.due("an image", x.count(0), 1);
        Checks.feed(x, "sitter 2 5;sitter 2 5;sitter 2 5;?");
        Checks.due("three sitters", x.studio(33), 3);
        Checks.due("the tape is empty", x.count(1), 0);
        Checks.due("no law", x.would(7, 3, 1, 1, 1, 1, 1, 1), 21);
        Checks.due("no book", x.told(6), 0);
        Checks.due("no images", x.count(0), 0);
        Checks.due("nothing to restore", x.restore(), -1);
        Checks.due("no works", x.count(2), 0);
        Checks.due("nothing to undo", x.undo(), -1);
        Checks.due("no seats", x.told(0), 0);
        Checks.feed(x, "sitter 2 5;sitter 2 5;");
        Checks.due("the first of two", x.studio(11), 1);
        Checks.feed(x, "sitter 2 5;sitter 2 5;");
        Checks.due("nothing of two", x.studio(0), 0);
        sentences.about(3, "or the FAULT less 10 (all stays).");
        Checks.faulty(Checks.HOUSE, "studio", "stool;", 1, 0);
        Checks.faulty(Checks.HOUSE, "studio", "seat 1;sitter 1 1;sitting 1;year 1;food 1;seat 10;", 2, 47);
        Checks.faulty(Checks.HOUSE, "studio", Checks.times(9, "seat 1;"), 3, 56);
        sentences.about(3, "IllegalArgumentException: n is not 0 to the TAPE's bytes (it stays).");
        lengths("studio", 20, 20);
        lengths("studio", 580, 580);
        lengths("studio", 600, 600);
        StillYear bare = new StillYear();
        Checks.bad("studio(1) of nothing", () -> bare.studio(1));
        Checks.bad("studio(-1) of nothing", () -> bare.studio(-1));
        Checks.due("studio(0) of nothing", bare.studio(0), 0);
    }

    private void law() {
        sentences.about(4, "Likewise the LAW (n to 150): 1.");
        lengths("law", 140, 140);
        lengths("law", 160, 150);
        lengths("law", 600, 150);
        StillYear x = Checks.livedIn(TWO);
        Checks.feed(x, "7+ 5?");
        Checks.due("the first bytes", x.law(4), 1);
        Checks.due("by it", x.would(0, 1, 0, 0, 0, 0, 0, 0), 12);
        Checks.due("the tape is empty", x.count(1), 0);
        Checks.due("the book stays", x.told(6), 1);
        Checks.due("the image stays", x.count(0), 1);
        Checks.due("the works stay", x.count(2), 1);
        Checks.bad("law(1) of nothing", () -> x.law(1));
        Checks.faulty(TWO, "law", "7+?", 1, 2);
        Checks.faulty(TWO, "law", "7+1000", 2, 2);
        Checks.faulty(TWO, "law", "7+(((((((", 3, 8);
    }

    private void work() {
        sentences.about(5, "Likewise WORK (n to 150), which is done: how many STEPS were done (agains not counted, nor REFUSED ones);");
        lengths("work", 140, 140);
        lengths("work", 160, 150);
        lengths("work", 600, 150);
        StillYear x = Checks.in(TWO);
        Checks.fine(x, "work", "", 0);
        Checks.fine(x, "work", "again 3[];again 0[day;];", 0);
        Checks.fine(x, "work", "rise 0;rise 1;", 0);
        Checks.fine(x, "work", "sit 0 0;sit 1 0;again 2[day;rise 1;];", 3);
        Checks.due("refused", x.told(7), 3);
        Checks.feed(x, "day;day;?");
        Checks.due("the first bytes", x.work(8), 2);
        Checks.due("all are works", x.count(2), 5);
        Checks.bad("work(1) of nothing", () -> x.work(1));
        sentences.about(5, "or the FAULT less 10 (none is);");
        Checks.faulty(TWO, "work", "day;sit 1 1;day", 1, 15);
        Checks.faulty(TWO, "work", "day;sit 1 1;sit 2 0;", 2, 16);
        Checks.faulty(TWO, "work", "day;" + Checks.times(7, "again 1["), 3, 52);
    }

    private void sixteenWorks() {
        sentences.about(5, "-20 ahead of that (nothing is read, there is no FAULT, the TAPE is empty then): 16 WORKS are there that were not undone.");
        StillYear x = Checks.in(TWO);
        for (int i = 1; i <= 15; i++) {
            Checks.fine(x, "work", "day;", 1);
        }
        Checks.fine(x, "work", "day;rise 0;", 1);
        Checks.due("16 works", x.count(2), 16);
        Checks.due("a fault", Checks.law(x, "1+"), -9);
        Checks.due("its place", x.fault(), 2);
        Checks.feed(x, "day;");
        Checks.due("a 17th", x.work(4), -20);
        Checks.due("no fault", x.fault(), StillYear.NONE);
        Checks.due("the tape is empty", x.count(1), 0);
        Checks.due("the day stays", x.told(3), 16);
        Checks.due("the works stay", x.count(2), 16);
        Checks.due("what was refused stays", x.told(7), 1);
        Checks.due("an empty 17th", x.work(0), -20);
        Checks.due("a 17th with a fault", Checks.work(x, "?"), -20);
        Checks.due("no fault", x.fault(), StillYear.NONE);
        Checks.feed(x, Checks.times(160, " "));
        Checks.bad("a 17th of no such length", () -> x.work(151));
        Checks.due("its tape stays", x.count(1), 160);
        Checks.due("a 17th of 150", x.work(150), -20);
        Checks.due("undo", x.undo(), 15);
        Checks.fine(x, "work", "day;", 1);
        Checks.due("a 17th again", Checks.work(x, "day;"), -20);
        x.image();
        x.undo();
        x.undo();
        x.restore();
        Checks.due("16 are there by an image", Checks.work(x, "day;"), -20);
        Checks.fine(x, "studio", TWO, 2);
        Checks.fine(x, "work", "day;", 1);
    }

    private void book() {
        sentences.about(6, "Likewise the BOOK (n to 100): how many lines.");
        lengths("book", 80, 80);
        lengths("book", 120, 100);
        lengths("book", 600, 100);
        StillYear x = Checks.livedIn(TWO);
        Checks.feed(x, "1 1;0 1;?");
        Checks.due("the first bytes", x.book(4), 1);
        Checks.due("the tape is empty", x.count(1), 0);
        Checks.due("lines", x.told(6), 1);
        Checks.fine(x, "book", "1 1;0 1;", 2);
        Checks.fine(x, "book", "", 0);
        Checks.due("the law stays", x.would(9, 1, 0, 0, 0, 0, 0, 0), 9);
        Checks.due("the image stays", x.count(0), 1);
        Checks.due("the works stay", x.count(2), 1);
        Checks.bad("book(1) of nothing", () -> x.book(1));
        Checks.faulty(TWO, "book", "1 1;0 1", 1, 7);
        Checks.faulty(TWO, "book", "1 1;2 1;", 2, 4);
    }

    private void fault() {
        sentences.about(7, "The place of the FAULT of the latest text; NONE without.");
        StillYear x = new StillYear();
        Checks.due("no text", x.fault(), StillYear.NONE);
        String[] kinds = {"studio", "law", "work", "book"};
        for (String kind : kinds) {
            Checks.feed(x, "    ?");
            Checks.due(kind, read(x, kind, 5), -9);
            Checks.due("its place", x.fault(), 4);
            x.undo();
            x.image();
            x.restore();
            x.feed(0, 0, 0, 0, 0);
            Checks.bad("a length that is none", () -> read(x, kind, 21));
            Checks.due("it stays by what is no text", x.fault(), 4);
            Checks.due("a studio without", x.studio(0), 0);
            Checks.due("none", x.fault(), StillYear.NONE);
        }
        Checks.law(x, "?");
        Checks.due("a place 0", x.fault(), 0);
        Checks.law(x, "1");
        Checks.due("a law without", x.fault(), StillYear.NONE);
        Checks.law(x, "?");
        x.work(0);
        Checks.due("a work without", x.fault(), StillYear.NONE);
        Checks.law(x, "?");
        x.book(0);
        Checks.due("a book without", x.fault(), StillYear.NONE);
        Checks.studio(x, Checks.times(599, " ") + "?");
        Checks.due("the last place", x.fault(), 599);
        Checks.studio(x, Checks.times(596, " ") + "seat");
        Checks.due("behind the last byte", x.fault(), 600);
    }

    // ---- promise 8

    private void undo() {
        sentences.about(8, "The latest WORK that was done is undone: how many are left; -1: there is none.");
        StillYear x = Checks.in(TWO);
        Checks.due("none", x.undo(), -1);
        String[] states = new String[16];
        int[] lights = new int[16];
        String[] steps = {"sit 0 0;day;", "feed 0;", "curtain 1 9;", "rise 0;", "sit 1 1;day;", "", "rise 0;", "curtain 1 5;again 9[day;];"};
        for (int i = 0; i < 16; i++) {
            states[i] = i % 7 == 2 ? Checks.allThatWorkChanges(x) : "day " + x.told(3) + ", ";
            lights[i] = x.seat(1, 0);
            Checks.work(x, steps[i % steps.length]);
        }
        for (int i = 15; i >= 0; i--) {
            Checks.due("undo", x.undo(), i);
            Checks.due("light ahead of work " + i, x.seat(1, 0), lights[i]);
            String now = i % 7 == 2 ? Checks.allThatWorkChanges(x) : "day " + x.told(3) + ", ";
            Checks.same("what was ahead of work " + i, now, states[i]);
        }
        Checks.due("none is left", x.undo(), -1);
        Checks.due("day 0", x.told(3), 0);
        Checks.due("all meals", x.told(4), 20);
        StillYear y = Checks.in(TWO);
        Checks.work(y, "day;");
        Checks.work(y, "day;?");
        Checks.due("a work with a fault was not done", y.undo(), 0);
        Checks.due("so the one ahead is undone", y.told(3), 0);
        Checks.work(y, "rise 0;");
        Checks.work(y, "");
        Checks.due("one without steps was done", y.undo(), 1);
        Checks.due("one of refused steps, too", y.undo(), 0);
    }

    // ---- promises 43 and 44

    private void image() {
        sentences.about(43, "An IMAGE of all that WORK changes, and of the WORKS that can be undone: how many there are; -1: there are 3.");
        StillYear x = Checks.in(TWO);
        Checks.due("the first", x.image(), 1);
        Checks.work(x, "sit 0 0;day;feed 1;curtain 0 9;");
        Checks.work(x, "day;");
        String before = allBehindCounts(x);
        Checks.due("the second", x.image(), 2);
        Checks.due("the third", x.image(), 3);
        Checks.due("a fourth", x.image(), -1);
        Checks.due("three are there", x.count(0), 3);
        Checks.work(x, "rise 0;sit 1 1;feed 0;curtain 0 1;day;day;");
        x.undo();
        x.undo();
        x.undo();
        Checks.work(x, "sit 1 0;day;");
        Checks.due("back to the third", x.restore(), 2);
        Checks.same("all that work changes", allBehindCounts(x), before);
        Checks.due("the works", x.count(2), 2);
        Checks.due("room again", x.image(), 3);
        Checks.due("not more", x.image(), -1);
        x.restore();
        Checks.due("a work that can be undone", x.undo(), 1);
        Checks.due("its day", x.told(3), 1);
        Checks.due("another one", x.undo(), 0);
        Checks.due("its day", x.told(3), 0);
        Checks.due("back to the second", x.restore(), 1);
        Checks.due("the day", x.told(3), 2);
        Checks.due("the works", x.count(2), 2);
        Checks.due("back to the first", x.restore(), 0);
        Checks.due("no works in it", x.undo(), -1);
        Checks.due("day 0", x.told(3), 0);
        Checks.due("light", x.seat(0, 0), 2);
    }

    private static String allBehindCounts(StillYear x) {
        String all = Checks.allOf(x);
        return all.substring(all.indexOf("; told"));
    }

    private void restore() {
        sentences.about(44, "All is as in the latest IMAGE, which is gone: how many are left; -1: there is none.");
        StillYear x = Checks.in(TWO);
        Checks.due("none", x.restore(), -1);
        x.image();
        Checks.work(x, "day;rise 0;");
        Checks.due("one", x.restore(), 0);
        Checks.due("day 0", x.told(3), 0);
        Checks.due("no steps refused", x.told(7), 0);
        Checks.due("it is gone", x.restore(), -1);
        Checks.work(x, "day;rise 0;");
        Checks.due("none is there: -1", x.restore(), -1);
        Checks.due("and nothing is restored", x.told(3), 1);
        Checks.due("nor undone", x.count(2), 1);
        x.image();
        Checks.work(x, "day;");
        x.image();
        Checks.work(x, "day;");
        x.image();
        Checks.work(x, "day;");
        int[] days = {3, 2, 1};
        for (int left = 2; left >= 0; left--) {
            Checks.due("left", x.restore(), left);
            Checks.due("the latest", x.told(3), days[2 - left]);
        }
        Checks.law(x, "42");
        x.image();
        Checks.law(x, "43");
        Checks.book(x, "0 1;");
        Checks.feed(x, "?");
        x.restore();
        Checks.due("the law is nothing that work changes", x.would(1, 1, 0, 0, 0, 0, 0, 0), 43);
        Checks.due("nor the book", x.told(6), 1);
        Checks.due("nor the tape", x.count(1), 20);
    }

    // ---- promises 45 and 46

    private void status() {
        sentences.about(45, "How many calls were refused: 0 NoSuchElementException, 1 IllegalArgumentException; NONE for others. (No IMAGE keeps it.)");
        StillYear x = Checks.in(TWO);
        Checks.due("none", x.status(0) + x.status(1), 0);
        x.image();
        Checks.unknown("a seat", () -> x.seat(2, 0));
        Checks.unknown("a seat, and another what", () -> x.seat(2, 9));
        Checks.bad("another what", () -> x.seat(1, 9));
        Checks.due("two", x.status(0), 2);
        Checks.due("one", x.status(1), 1);
        x.restore();
        Checks.due("no image keeps it: two", x.status(0), 2);
        Checks.due("no image keeps it: one", x.status(1), 1);
        Checks.law(x, "?");
        x.undo();
        x.restore();
        Checks.work(x, "rise 0;");
        x.undo();
        x.studio(0);
        Checks.due("what answers a number is not refused: two", x.status(0), 2);
        Checks.due("what answers a number is not refused: one", x.status(1), 1);
        int[] others = {-1, 2, Integer.MIN_VALUE, Integer.MAX_VALUE};
        for (int what : others) {
            Checks.due("status(" + what + ")", x.status(what), StillYear.NONE);
        }
        Checks.due("it is not refused itself", x.status(1), 1);
    }

    private void count() {
        sentences.about(46, "0 IMAGES, 1 bytes of the TAPE, 2 WORKS that can be undone; NONE for others.");
        StillYear x = Checks.in(TWO);
        for (int what = 0; what < 3; what++) {
            Checks.due("count(" + what + ")", x.count(what), 0);
        }
        x.image();
        x.image();
        x.image();
        x.image();
        Checks.due("3 images", x.count(0), 3);
        for (int i = 0; i < 31; i++) {
            x.feed(0x20202020, 0x20202020, 0x20202020, 0x20202020, 0x20202020);
        }
        Checks.due("600 bytes", x.count(1), 600);
        Checks.due("a work", x.work(150), 0);
        Checks.due("no bytes", x.count(1), 0);
        for (int i = 0; i < 17; i++) {
            x.work(0);
        }
        Checks.due("16 works", x.count(2), 16);
        x.undo();
        Checks.due("15 works", x.count(2), 15);
        x.restore();
        Checks.due("2 images", x.count(0), 2);
        Checks.due("no works", x.count(2), 0);
        int[] others = {-1, 3, Integer.MIN_VALUE, Integer.MAX_VALUE};
        for (int what : others) {
            Checks.due("count(" + what + ")", x.count(what), StillYear.NONE);
        }
    }

    // ---- the last call that is promised

    private void lastCall() {
        sentences.about("What it is", "An object is used for at most 512 calls after it has been made; what later calls answer is free.");
        StillYear x = new StillYear();
        Checks.feed(x, "seat 9;sitter 9 60;");
        x.studio(19);
        int calls = 2;
        for (int i = 0; i < 16; i++) {
            Checks.feed(x, "sit 0 0;day;");
            x.work(12);
            calls += 2;
        }
        while (calls < 511) {
            x.span(calls, 20, 16, 96, 0);
            calls++;
        }
        Checks.due("the 512th call", x.plate(0, 0), 16 * 81);
    }
}
