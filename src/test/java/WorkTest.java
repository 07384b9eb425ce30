/** Promises 5, 8, 43, 44, 46 and the STEPS: what is done, refused, left out, undone, kept in images. */
public final class WorkTest {
    private static final String HOUSE = "seat 2;seat 5;seat 3;sitter 4 2;sitter 1 9;sitter 3 4;food 3;";

    public static void main(String[] args) {
        steps();
        days();
        hungerEnds();
        lastDay();
        agains();
        mostSteps();
        undone();
        sixteen();
        images();
        counts();
        Checks.end("WorkTest");
    }

    private static void work(String what, StillYear x, String text, int done, int refused) {
        Checks.due(what, Checks.work(x, text), done);
        Checks.due(what + ", refused", x.told(7), refused);
    }

    private static void steps() {
        StillYear x = Checks.in(HOUSE);
        work("sit", x, "sit 0 1;sit 0 1;sit 1 1;sit 1 0;", 2, 2);
        Checks.due("who sits", x.told(5), 3);
        Checks.due("who sits on 1", x.seat(1, 1), 0);
        work("a day", x, "day;", 1, 0);
        work("moved", x, "sit 0 2;", 1, 0);
        Checks.due("moved: seat", x.sitter(0, 2), 2);
        Checks.due("moved: still", x.sitter(0, 3), 0);
        Checks.due("not moved: still", x.sitter(1, 3), 1);
        Checks.due("nobody sits there now", x.seat(1, 1), StillYear.NONE);
        work("rise", x, "rise 1;rise 1;rise 2;", 1, 2);
        Checks.due("risen: seat", x.sitter(1, 2), StillYear.NONE);
        Checks.due("risen: still", x.sitter(1, 3), 0);
        work("feed", x, "feed 0;feed 0;feed 1;feed 2;", 3, 1);
        Checks.due("no meals are left", x.told(4), 0);
        work("no meal", x, "day;feed 0;", 1, 1);
        Checks.due("hunger stays", x.sitter(0, 4), 1);
        work("curtain", x, "curtain 2 3;curtain 2 0;curtain 2 0;curtain 2 9;", 2, 2);
        Checks.due("light now", x.seat(2, 0), 9);
        Checks.due("mark by the light now", x.mark(0), 36);
    }

    private static void days() {
        StillYear x = Checks.in("seat 1;seat 2;seat 3;sitter 1 60;sitter 2 60;sitter 3 60;");
        Checks.law(x, "still * 10 + others * 3 + hunger + day");
        work("three days", x, "sit 0 0;sit 2 2;day;day;sit 1 1;day;", 6, 0);
        // sitter 0: 0+3+0+0, 10+3+1+1, 20+6+2+2
        Checks.due("of 0 on 0", x.plate(0, 0), 3 + 15 + 30);
        Checks.due("of 1 on 1", x.plate(1, 1), 6 + 2 + 2);
        Checks.due("of 2 on 2", x.plate(2, 2), 48);
        Checks.due("still", x.sitter(0, 3), 3);
        Checks.due("hunger of all", x.sitter(1, 4), 3);
        Checks.due("day", x.told(3), 3);
        StillYear y = Checks.in("seat 9;sitter 9 60;sitter 1 1;");
        Checks.law(y, "99");
        work("to the most", y, "sit 0 0;again 60[day;];feed 0;again 42[day;];", 104, 0);
        Checks.due("9,999 at most", y.plate(0, 0), 9999);
        Checks.due("hunger at most 99", y.sitter(1, 4), 99);
        Checks.due("still goes on", y.sitter(0, 3), 102);
    }

    private static void hungerEnds() {
        StillYear x = Checks.in("seat 1;seat 2;sitter 1 2;sitter 5 2;");
        Checks.law(x, "1 + others");
        work("two days", x, "sit 0 0;sit 1 1;day;feed 1;day;", 5, 0);
        Checks.due("both sit", x.told(5), 3);
        work("a third", x, "day;", 1, 0);
        Checks.due("one rose", x.told(5), 2);
        Checks.due("he left a mark before", x.plate(0, 0), 6);
        Checks.due("still 0", x.sitter(0, 3), 0);
        work("who is too hungry sits a day", x, "sit 0 0;day;", 2, 0);
        Checks.due("and rises; so does the other", x.told(5), 0);
        Checks.due("others as the day begins", x.plate(1, 1), 8);
    }

    private static void lastDay() {
        StillYear x = Checks.in("seat 1;sitter 1 60;");
        for (int i = 0; i < 14; i++) {
            work("days " + i, x, "again 57[day;];", 57, 0);
        }
        work("to day 800", x, "again 3[day;];sit 0 0;", 3, 1);
        Checks.due("day 800", x.told(3), 800);
        Checks.due("he sits", x.told(5), 1);
        Checks.due("ahead goes beyond", x.ahead(1, 0), 1);
        Checks.due("not done", x.told(8), 0);
    }

    private static void agains() {
        StillYear x = new StillYear();
        work("again 0", x, "again 0[day;];day;", 1, 0);
        work("nested", x, "again 3[day;again 2[day;day;];];day;", 16, 0);
        work("nothing inside", x, "again 60[again 60[];];day;", 1, 0);
        work("again 0 around", x, "again 0[again 2[day;];day;];day;", 1, 0);
        work("again 0 inside", x, "again 4[again 0[day;];day;];", 4, 0);
        work("refused in loops", x, "again 2[again 3[];];", 0, 0);
        Checks.due("all days", x.told(3), 1 + 16 + 1 + 1 + 4);
    }

    private static void mostSteps() {
        StillYear x = Checks.in("seat 1;sitter 1 60;");
        work("200 are begun", x, "again 60[day;];again 60[day;];again 60[day;];again 60[day;];", 196, 0);
        Checks.due("days", x.told(3), 196);
        x = Checks.in("seat 1;sitter 1 60;");
        work("agains are begun each time", x, "again 60[again 3[];day;again 0[];again 0[];];", 50, 0);
        x = Checks.in("seat 1;sitter 1 60;");
        work("refused ones, too", x, "again 60[rise 0;rise 0;rise 0;];day;day;", 2, 180);
        work("refused ones to the end", x, "again 60[rise 0;rise 0;rise 0;];again 20[rise 0;];day;", 0, 198);
        x = Checks.in("seat 1;sitter 1 60;");
        work("the 200th is begun", x, "again 60[rise 0;rise 0;rise 0;];again 16[rise 0;];rise 0;day;day;", 1, 197);
        Checks.due("a day", x.told(3), 1);
    }

    private static void undone() {
        StillYear x = Checks.in(HOUSE);
        Checks.due("nothing to undo", x.undo(), -1);
        work("first", x, "sit 0 1;day;", 2, 0);
        work("second", x, "curtain 1 9;feed 0;feed 1;rise 0;rise 0;day;", 5, 1);
        Checks.book(x, "0 5;");
        Checks.law(x, "42");
        Checks.due("undo", x.undo(), 1);
        Checks.due("told(7) behind undo", x.told(7), 0);
        Checks.due("light is back", x.seat(1, 0), 5);
        Checks.due("meals are back", x.told(4), 3);
        Checks.due("he sits again", x.sitter(0, 2), 1);
        Checks.due("still is back", x.sitter(0, 3), 1);
        Checks.due("hunger is back", x.sitter(0, 4), 1);
        Checks.due("the day is back", x.told(3), 1);
        Checks.due("the book stays", x.told(6), 1);
        Checks.due("the law stays", x.mark(0), 42);
        Checks.due("undo", x.undo(), 0);
        Checks.due("the plate is empty", x.told(8), 0);
        Checks.due("nobody sits", x.told(5), 0);
        Checks.due("undo", x.undo(), -1);
    }

    private static void sixteen() {
        StillYear x = Checks.in(HOUSE);
        for (int i = 1; i <= 16; i++) {
            work("work " + i, x, "day;rise 0;", 1, 1);
            Checks.due("works", x.count(2), i);
        }
        Checks.due("a fault", Checks.law(x, "("), -9);
        Checks.feed(x, "day?");
        Checks.bad("a length that is none", () -> x.work(21));
        Checks.due("the fault stays", x.fault(), 1);
        Checks.due("the tape stays", x.count(1), 20);
        Checks.due("a 17th, though faulty", x.work(4), -20);
        Checks.due("no fault", x.fault(), StillYear.NONE);
        Checks.due("the tape is empty", x.count(1), 0);
        Checks.due("told(7) stays", x.told(7), 1);
        Checks.due("the day stays", x.told(3), 16);
        Checks.due("undo", x.undo(), 15);
        work("one again", x, "day;day;", 2, 0);
        Checks.due("a 17th", Checks.work(x, "day;"), -20);
        for (int i = 15; i >= 0; i--) {
            Checks.due("undo to " + i, x.undo(), i);
            Checks.due("day " + i, x.told(3), i);
        }
    }

    private static void images() {
        StillYear x = Checks.in(HOUSE);
        Checks.due("nothing to restore", x.restore(), -1);
        work("one", x, "sit 0 0;day;", 2, 0);
        Checks.due("image 1", x.image(), 1);
        work("two", x, "day;rise 1;", 1, 1);
        Checks.due("image 2", x.image(), 2);
        Checks.due("an image changes nothing", x.told(7), 1);
        Checks.due("undo", x.undo(), 1);
        Checks.due("undo", x.undo(), 0);
        Checks.due("image 3", x.image(), 3);
        Checks.due("a fourth", x.image(), -1);
        Checks.due("images", x.count(0), 3);
        work("three", x, "curtain 0 7;rise 1;", 1, 1);
        Checks.due("restore 3", x.restore(), 2);
        Checks.due("told(7) behind restore", x.told(7), 0);
        Checks.due("light", x.seat(0, 0), 2);
        Checks.due("nothing to undo in it", x.undo(), -1);
        work("four", x, "sit 2 2;day;day;day;", 4, 0);
        Checks.due("restore 2", x.restore(), 1);
        Checks.due("day", x.told(3), 2);
        Checks.due("works", x.count(2), 2);
        Checks.due("undo in it", x.undo(), 1);
        Checks.due("day", x.told(3), 1);
        Checks.due("undo in it", x.undo(), 0);
        Checks.due("day", x.told(3), 0);
        Checks.due("restore 1", x.restore(), 0);
        Checks.due("day", x.told(3), 1);
        Checks.due("who sits", x.told(5), 1);
        Checks.due("none is left", x.restore(), -1);
        Checks.due("undo", x.undo(), 0);
        bookAndLawOutlast();
    }

    private static void bookAndLawOutlast() {
        StillYear x = Checks.in(HOUSE);
        x.image();
        Checks.law(x, "1");
        Checks.book(x, "1 1;");
        Checks.bad("refused", () -> x.told(11));
        Checks.due("restore", x.restore(), 0);
        Checks.due("the book stays", x.told(6), 1);
        Checks.due("the law stays", x.would(9, 9, 0, 0, 0, 0, 0, 0), 1);
        Checks.due("refusals stay", x.status(1), 1);
    }

    private static void counts() {
        StillYear x = Checks.in(HOUSE);
        x.feed(0, 0, 0, 0, 0);
        x.image();
        x.image();
        Checks.due("count(0)", x.count(0), 2);
        Checks.due("count(1)", x.count(1), 20);
        x.work(0);
        Checks.due("count(2)", x.count(2), 1);
        Checks.due("count(3)", x.count(3), StillYear.NONE);
        Checks.due("count(-1)", x.count(-1), StillYear.NONE);
    }
}
