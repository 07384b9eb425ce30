/** Promises 1 to 4, 6, 7: a new object, the TAPE, and the texts with their FAULTS (WORK's too). */
public final class TextTest {
    public static void main(String[] args) {
        newObject();
        tape();
        lengths();
        studios();
        studioFaults();
        studioBegins();
        laws();
        lawFaults();
        workFaults();
        books();
        Checks.end("TextTest");
    }

    private static void newObject() {
        StillYear x = new StillYear();
        int[] want = {0, 0, 0, 0, 20, 0, 0, 0, 0, 0, 365};
        for (int what = 0; what <= 10; what++) {
            Checks.due("new: told(" + what + ")", x.told(what), want[what]);
        }
        Checks.due("new: fault()", x.fault(), StillYear.NONE);
        for (int what = 0; what <= 2; what++) {
            Checks.due("new: count(" + what + ")", x.count(what), 0);
        }
        Checks.due("new: status(0)", x.status(0), 0);
        Checks.due("new: status(1)", x.status(1), 0);
        Checks.due("new: would", x.would(7, 3, 5, 5, 5, 5, 5, 5), 21);
    }

    private static void tape() {
        StillYear x = new StillYear();
        for (int i = 1; i <= 30; i++) {
            Checks.due("feed " + i, x.feed(0x20202020, 0x20202020, 0x20202020, 0x20202020, 0x20202020), 20 * i);
        }
        Checks.due("feed 31", x.feed(1, 2, 3, 4, 5), StillYear.NONE);
        Checks.due("count(1) of a full tape", x.count(1), 600);
        Checks.due("600 blanks", x.studio(600), 0);
        Checks.due("count(1) behind a studio", x.count(1), 0);
        // bytes of 128 and more are bytes too
        x.feed(0xE9FF8001, 0, 0, 0, 0);
        Checks.due("a byte above 127", x.studio(4), -9);
        Checks.due("a byte above 127 stands at", x.fault(), 0);
        // all five numbers, the highest byte first
        Checks.feed(x, "seat 1;seat 2;seat 3");
        Checks.feed(x, ";seat 4;");
        Checks.due("four seats", x.studio(28), 0);
        Checks.due("told(0) of four seats", x.told(0), 4);
        Checks.due("the fourth's light", x.seat(3, 0), 4);
    }

    private static void lengths() {
        StillYear x = Checks.in("seat 1;sitter 1 1;");
        Checks.feed(x, Checks.times(200, " "));
        Checks.bad("studio(-1)", () -> x.studio(-1));
        Checks.bad("studio(201)", () -> x.studio(201));
        Checks.bad("law(151)", () -> x.law(151));
        Checks.bad("law(-1)", () -> x.law(-1));
        Checks.bad("work(151)", () -> x.work(151));
        Checks.bad("work(-1)", () -> x.work(-1));
        Checks.bad("book(101)", () -> x.book(101));
        Checks.bad("book(-1)", () -> x.book(-1));
        Checks.bad("studio(MIN)", () -> x.studio(Integer.MIN_VALUE));
        Checks.bad("book(MAX)", () -> x.book(Integer.MAX_VALUE));
        Checks.due("the tape stays", x.count(1), 200);
        Checks.due("no fault by a wrong length", x.fault(), StillYear.NONE);
        Checks.due("status(1)", x.status(1), 10);
        Checks.due("work(150) of blanks", x.work(150), 0);
        Checks.due("the tape is empty then", x.count(1), 0);
        Checks.bad("work(1) of an empty tape", () -> x.work(1));
        Checks.feed(x, Checks.times(100, " "));
        Checks.due("book(100) of blanks", x.book(100), 0);
        Checks.feed(x, Checks.times(149, " ") + "7");
        Checks.due("law(150)", x.law(150), 1);
        Checks.due("the law of 150 bytes", x.would(0, 1, 0, 0, 0, 0, 0, 0), 7);
        // a faulty text empties the tape, too
        Checks.feed(x, Checks.times(60, "?"));
        Checks.due("law of a prefix", x.law(3), -9);
        Checks.due("the tape behind a fault", x.count(1), 0);
    }

    private static void studios() {
        StillYear x = Checks.in("  seat0;sitter 9 60 ; sitter1 1;sitting 400;sitting1;year 400;year 007;food 0;food 99;  ");
        Checks.due("sitters", x.told(1), 2);
        Checks.due("seats", x.told(0), 1);
        Checks.due("sittings", x.told(2), 2);
        Checks.due("the last year counts", x.told(10), 7);
        Checks.due("the last food counts", x.told(4), 99);
        Checks.due("dark", x.sitter(0, 0), 9);
        Checks.due("N", x.sitter(0, 1), 60);
        Checks.due("dark of the other", x.sitter(1, 0), 1);
        Checks.due("sitting 0", x.sitting(0), 400);
        Checks.due("sitting 1", x.sitting(1), 1);
        Checks.due("8 seats", Checks.studio(x, Checks.times(8, "seat 9;")), 0);
        Checks.due("6 sitters", Checks.studio(x, Checks.times(6, "sitter 1 1;")), 6);
        Checks.due("8 sittings", Checks.studio(x, Checks.times(8, "sitting 1;")), 0);
        Checks.due("60 clauses", Checks.studio(x, Checks.times(60, "year 1;")), 0);
    }

    private static void fault(String kind, StillYear x, int answer, int want, int place) {
        Checks.due(kind, answer, want);
        Checks.due(kind + ", its place", x.fault(), place);
    }

    private static void studioFault(String text, int want, int place) {
        StillYear x = Checks.in("seat 3;seat 4;sitter 2 5;");
        Checks.work(x, "sit 0 1;day;");
        fault("studio " + text, x, Checks.studio(x, text), want, place);
        Checks.due("all stays behind " + text, x.told(0) * 100 + x.told(1) * 10 + x.told(3), 211);
    }

    private static void studioFaults() {
        studioFault("seat 1", -9, 6);
        studioFault("seat 1  ", -9, 8);
        studioFault("seat", -9, 4);
        studioFault("seat ;", -9, 5);
        studioFault("seat x;", -9, 5);
        studioFault("seat 1;;", -9, 7);
        studioFault("seat 1 2;", -9, 7);
        studioFault("Seat 1;", -9, 0);
        studioFault("  stool 1;", -9, 2);
        studioFault("seatseat 1;", -9, 0);
        studioFault("seatz 1;", -9, 0);
        studioFault("seata 1;", -9, 0);
        studioFault("seat{1;", -9, 4);
        studioFault("seat`1;", -9, 4);
        studioFault("seat 1:", -9, 6);
        studioFault("seat /1;", -9, 5);
        studioFault("seat\t1;", -9, 4);
        studioFault("sitter 1;", -9, 8);
        studioFault("seat 10;", -8, 5);
        studioFault("seat  99999999999999999999999;", -8, 6);
        studioFault("sitter 0 0;", -8, 7);
        studioFault("sitter 10 1;", -8, 7);
        studioFault("sitter 1 0;", -8, 9);
        studioFault("sitter 1 61;", -8, 9);
        studioFault("sitting 401;", -8, 8);
        studioFault("sitting 0;", -8, 8);
        studioFault("year 0;", -8, 5);
        studioFault("year 401;", -8, 5);
        studioFault("food 100;", -8, 5);
        studioFault(Checks.times(8, "seat 1;") + " seat 99;", -7, 57);
        studioFault(Checks.times(6, "sitter 1 1;") + "sitter", -7, 66);
        studioFault(Checks.times(8, "sitting 1;") + "sitting 0;", -7, 80);
        studioFault(Checks.times(60, "food 1;") + "year 1;", -7, 420);
        studioFault(Checks.times(60, "food 1;") + "sitter 1 1;", -7, 420);
        studioFault(Checks.times(60, "food 1;") + "fool 1;", -9, 420);
        studioFault(Checks.times(60, "food 1;") + ";", -9, 420);
    }

    private static void studioBegins() {
        StillYear x = Checks.in("seat 3;sitter 2 5;food 9;");
        Checks.law(x, "7");
        Checks.book(x, "0 7;");
        Checks.work(x, "sit 0 0;sit 0 0;day;");
        x.image();
        Checks.due("a new studio", Checks.studio(x, "seat 3;sitter 2 5;"), 1);
        Checks.due("day 0", x.told(3), 0);
        Checks.due("nobody sits", x.told(5), 0);
        Checks.due("nobody is hungry", x.sitter(0, 4), 0);
        Checks.due("the plate is empty", x.told(8), 0);
        Checks.due("meals", x.told(4), 20);
        Checks.due("no book", x.told(6), 0);
        Checks.due("no law", x.would(3, 2, 0, 0, 0, 0, 0, 0), 6);
        Checks.due("no images", x.count(0), 0);
        Checks.due("nothing to restore", x.restore(), -1);
        Checks.due("nothing to undo", x.undo(), -1);
        Checks.due("no steps refused", x.told(7), 0);
    }

    private static void law(String text, int want) {
        StillYear x = new StillYear();
        Checks.due("law " + text, Checks.law(x, text), 1);
        Checks.due("no fault: " + text, x.fault(), StillYear.NONE);
        Checks.due("by law " + text, x.would(9, 8, 70, 60, 5, 4, 3, 200), want);
    }

    private static void laws() {
        law("light", 9);
        law("dark", 8);
        law("still", 70);
        law("hunger", 60);
        law("seat", 5);
        law("sitter", 4);
        law("others", 3);
        law("day/10", 20);
        law(" 1 + 2 * 3 ", 7);
        law("9-3-2", 4);
        law("50/7/2", 3);
        law("50%7*3", 3);
        law("(1+2)*3", 9);
        law("least[5,3]", 3);
        law("most[5, 3+4]", 7);
        law("most[0-5,0-3]+50", 47);
        law("least[0-5,0-3]+50", 45);
        law("1-2", 0);
        law("999", 99);
        law("7/0+5", 5);
        law("7%0+5", 5);
        law("(0-7)/2+50", 47);
        law("(0-7)%4+50", 47);
        law("7%(0-4)+50", 53);
        law("0099", 99);
        // 32 bits that wrap: 999^4 is below 0 by then, 65536 * 65536 is 0
        law("999*999*999*999/999/999+450", 23);
        law("256*256*256*256+3", 3);
        law("((((((5))))))", 5);
        law("least[most[(least[most[(5),1],9]),2],9]", 5);
        law("(1)+((((((2))))))", 3);
    }

    private static void lawFault(String text, int want, int place) {
        StillYear x = new StillYear();
        Checks.law(x, "5");
        fault("law " + text, x, Checks.law(x, text), want, place);
        Checks.due("the law stays behind " + text, x.would(9, 9, 0, 0, 0, 0, 0, 0), 5);
    }

    private static void lawFaults() {
        lawFault("", -9, 0);
        lawFault("   ", -9, 3);
        lawFault("+1", -9, 0);
        lawFault("1+", -9, 2);
        lawFault("1 2", -9, 2);
        lawFault("light dark", -9, 6);
        lawFault("1;", -9, 1);
        lawFault("(1", -9, 2);
        lawFault("()", -9, 1);
        lawFault("1)", -9, 1);
        lawFault("least(1,2)", -9, 5);
        lawFault("least[1]", -9, 7);
        lawFault("least[1,2", -9, 9);
        lawFault("least[1,2)", -9, 9);
        lawFault("most[1,2,3]", -9, 8);
        lawFault("lights", -9, 0);
        lawFault("5dark", -9, 1);
        lawFault("1000", -8, 0);
        lawFault("1+ 12345678901234567890", -8, 3);
        lawFault("(((((( (1", -7, 7);
        lawFault("((((((least", -7, 6);
        lawFault("((((((most[1,2]))))))", -7, 6);
        lawFault("((((((leest", -9, 6);
        lawFault("least[least[least[1,least[1,least[1,least[1,(2)", -7, 44);
    }

    private static void workFault(String text, int want, int place) {
        StillYear x = Checks.in("seat 1;seat 2;sitter 1 1;sitter 2 2;sitter 3 3;");
        Checks.work(x, "sit 0 0;sit 0 0;");
        fault("work " + text, x, Checks.work(x, text), want, place);
        Checks.due("none is done: " + text, x.told(3) * 100 + x.told(5), 1);
        Checks.due("no work more: " + text, x.count(2), 1);
        Checks.due("told(7) stays: " + text, x.told(7), 1);
    }

    private static void workFaults() {
        workFault("day", -9, 3);
        workFault("day;day", -9, 7);
        workFault("day;;", -9, 4);
        workFault("day;days;", -9, 4);
        workFault("day;]", -9, 4);
        workFault("day;again 2[day;]", -9, 17);
        workFault("day;again 2[day;", -9, 16);
        workFault("day;again 2[day];", -9, 15);
        workFault("day;again 2 day;", -9, 12);
        workFault("day;again [];", -9, 10);
        workFault("day;sit 1;", -9, 9);
        workFault("day;sit 1 1 1;", -9, 12);
        workFault("day;sit 3 1;", -8, 8);
        workFault("day;sit 2 2;", -8, 10);
        workFault("day;rise 3;", -8, 9);
        workFault("day;rise 0 1;", -9, 11);
        workFault("day;feed 3;", -8, 9);
        workFault("day;curtain 2 0;", -8, 12);
        workFault("day;curtain 0 10;", -8, 14);
        workFault("day;again 61[", -8, 10);
        workFault("day;" + Checks.times(6, "again 1[") + "again", -7, 52);
        workFault("day;" + Checks.times(6, "again 1[") + "agains", -9, 52);
        StillYear x = new StillYear();
        fault("sit without sitters", x, Checks.work(x, "sit 0 0;"), -8, 4);
        fault("six agains", x, Checks.work(x, Checks.times(6, "again 1[") + "day;" + Checks.times(6, "];")), 1, -1);
        fault("blanks", x, Checks.work(x, " again  2 [ day ; ] ;  "), 2, -1);
        fault("no blanks", x, Checks.work(x, "again2[day;];again03[day;];"), 5, -1);
    }

    private static void books() {
        StillYear x = Checks.in(Checks.times(8, "seat 1;") + "sitter 1 1;");
        Checks.due("book", Checks.book(x, " 3 9999 ;0 0;"), 2);
        Checks.due("told(6)", x.told(6), 2);
        bookFault(x, "3", -9, 1);
        bookFault(x, "3 ;", -9, 2);
        bookFault(x, ";", -9, 0);
        bookFault(x, "3 5", -9, 3);
        bookFault(x, "x 5;", -9, 0);
        bookFault(x, "8 5;", -8, 0);
        bookFault(x, "1 5; 1 ;", -8, 5);
        bookFault(x, "1 10000;", -8, 2);
        String eight = "0 1;1 1;2 1;3 1;4 1;5 1;6 1;7 1;";
        bookFault(x, eight + "8 1;", -8, 32);
        bookFault(x, eight + "7 1;", -8, 32);
        bookFault(x, eight + ";", -9, 32);
        Checks.due("eight lines", Checks.book(x, eight), 8);
        Checks.due("an empty book", Checks.book(x, ""), 0);
        Checks.due("told(6) of it", x.told(6), 0);
    }

    private static void bookFault(StillYear x, String text, int want, int place) {
        fault("book " + text, x, Checks.book(x, text), want, place);
        Checks.due("the book stays: " + text, x.told(6), 2);
    }
}
