/** Promises 20 to 25: how he sat, where he would leave most, who is to sit where, booked sittings packed. */
public final class SearchTest {
    public static void main(String[] args) {
        goings();
        manyWays();
        firstDay();
        bright();
        places();
        placesAlike();
        placesOfAnotherStudio();
        packing();
        Checks.end("SearchTest");
    }

    private static void going(String what, StillYear x, int sitter, int ways, int length) {
        Checks.due(what + ", ways", x.goings(sitter, 0), ways);
        Checks.due(what + ", length", x.goings(sitter, 1), length);
    }

    private static void goings() {
        StillYear x = Checks.in("seat 2;seat 5;seat 0;sitter 4 2;sitter 1 9;");
        going("an empty book", x, 0, 1, 0);
        Checks.book(x, "0 16;1 40;");
        going("2 and 2 days", x, 0, 6, 4);
        going("8 and 8 days", x, 1, 12870, 16);
        Checks.book(x, "0 16;1 40;2 0;");
        going("never on a seat of mark 0", x, 0, 6, 4);
        Checks.book(x, "0 16;1 40;2 1;");
        going("something on a seat of mark 0", x, 0, 0, -1);
        Checks.book(x, "0 12;");
        going("it does not come out", x, 0, 0, -1);
        going("it does", x, 1, 1, 6);
        Checks.book(x, "0 0;1 0;");
        going("nothing of him", x, 0, 1, 0);
        Checks.work(x, "curtain 0 3;");
        Checks.book(x, "0 12;");
        going("by the light now", x, 0, 1, 1);
        Checks.bad("goings(0, 2)", () -> x.goings(0, 2));
        Checks.bad("goings(0, -1)", () -> x.goings(0, -1));
        Checks.unknown("goings(2, 2)", () -> x.goings(2, 2));
        Checks.unknown("goings(-1, 0)", () -> x.goings(-1, 0));
    }

    private static void manyWays() {
        StillYear x = Checks.in("seat 1;seat 1;seat 1;seat 1;seat 1;seat 1;seat 1;seat 1;sitter 1 9;");
        Checks.book(x, "0 16;1 16;");
        going("below the cut", x, 0, 601080390, 32);
        Checks.book(x, "0 17;1 16;");
        going("C(33, 16) is above the cut", x, 0, 1000000000, 33);
        Checks.book(x, "0 9999;1 1;");
        going("one day among many", x, 0, 10000, 10000);
        Checks.book(x, "0 1;1 9999;");
        going("many days around one", x, 0, 10000, 10000);
        Checks.book(x, "0 9999;1 2;");
        going("two days among many", x, 0, 50005000, 10001);
        Checks.book(x, "0 9999;1 9999;2 9999;3 9999;4 9999;5 9999;6 9999;7 9999;");
        going("all most", x, 0, 1000000000, 79992);
        Checks.book(x, "0 1;1 1;2 1;3 1;4 1;5 1;6 1;7 1;");
        going("8!", x, 0, 40320, 8);
    }

    private static void firstDay() {
        StillYear x = Checks.in("seat 2;seat 5;seat 1;sitter 4 60;sitter 1 60;");
        Checks.law(x, "light + still + hunger + others + day");
        Checks.work(x, "sit 0 0;sit 1 1;day;day;");
        Checks.book(x, "0 4;1 5;");
        going("still 0, hunger 0, no others, day 0", x, 0, 3, 3);
        Checks.due("bright by the first day", x.bright(0), 2);
        Checks.due("places by the first day", x.places(), 7);
        Checks.law(x, "0-1");
        going("mark 0", x, 0, 0, -1);
        Checks.due("bright, all marks 0", x.bright(0), 2);
        Checks.due("places, all marks 0", x.places(), 0);
        Checks.due("placed, all marks 0", x.placed(1), 1);
    }

    private static void bright() {
        StillYear x = Checks.in("seat 2;seat 5;seat 5;seat 3;sitter 4 2;");
        Checks.due("the first of alike ones", x.bright(0), 1);
        Checks.book(x, "1 0;");
        Checks.due("a line of 0 is a line", x.bright(0), 2);
        Checks.book(x, "1 1;2 1;");
        Checks.due("another", x.bright(0), 3);
        Checks.book(x, "0 1;1 1;2 1;3 1;");
        Checks.due("all in lines", x.bright(0), StillYear.NONE);
        Checks.unknown("bright(1)", () -> x.bright(1));
        Checks.unknown("bright(-1)", () -> x.bright(-1));
        StillYear y = Checks.in("sitter 1 1;");
        Checks.due("no seats", y.bright(0), StillYear.NONE);
    }

    private static void placed(StillYear x, int together, int... seats) {
        Checks.due("places()", x.places(), together);
        for (int i = 0; i < seats.length; i++) {
            Checks.due("placed(" + i + ")", x.placed(i), seats[i]);
        }
    }

    private static void places() {
        placed(new StillYear(), 0);
        placed(Checks.in("seat 5;"), 0);
        placed(Checks.in("sitter 1 1;"), -1, -1);
        placed(Checks.in("seat 5;sitter 1 1;sitter 2 1;"), -1, -1, -1);
        placed(Checks.in("seat 2;seat 9;seat 5;sitter 1 1;sitter 9 1;"), 5 + 81, 2, 1);
        StillYear x = Checks.in("seat 9;seat 9;sitter 1 9;sitter 1 9;");
        // he who would leave most on SEAT 0 is not to sit there: 60 and 0, or 50 and 55
        Checks.law(x, "(1 - seat) * (60 - 5 * sitter) + seat * (1 - sitter) * 50");
        placed(x, 105, 1, 0);
        Checks.unknown("placed(2)", () -> x.placed(2));
        Checks.unknown("placed(-1)", () -> x.placed(-1));
        StillYear most = Checks.in(Checks.times(8, "seat 9;") + Checks.times(6, "sitter 9 9;"));
        placed(most, 486, 0, 1, 2, 3, 4, 5);
        Checks.law(most, "99");
        placed(most, 594, 0, 1, 2, 3, 4, 5);
        Checks.work(most, "sit 0 7;sit 1 6;curtain 0 0;day;");
        Checks.law(most, "light");
        placed(most, 54, 1, 2, 3, 4, 5, 6);
    }

    private static void placesAlike() {
        StillYear x = Checks.in("seat 3;seat 3;seat 1;seat 3;sitter 2 1;sitter 2 1;sitter 2 1;");
        placed(x, 18, 0, 1, 3);
        Checks.due("places changes nothing", x.told(5), 0);
    }

    /** What was weighed for a larger studio does not count in a smaller one. */
    private static void placesOfAnotherStudio() {
        StillYear x = Checks.in(Checks.times(8, "seat 9;") + Checks.times(6, "sitter 9 9;"));
        placed(x, 6 * 81, 0, 1, 2, 3, 4, 5);
        Checks.studio(x, "seat 1;seat 2;sitter 1 9;sitter 2 9;");
        placed(x, 5, 0, 1);
        Checks.studio(x, "");
        placed(x, 0);
        Checks.studio(x, "seat 3;seat 1;seat 2;sitter 1 9;sitter 2 9;");
        placed(x, 8, 2, 0);
    }

    private static void packed(String studio, int years, int... year) {
        StillYear x = Checks.in(studio);
        Checks.due("packing " + studio, x.packing(), years);
        for (int i = 0; i < year.length; i++) {
            Checks.due("packed(" + i + ") " + studio, x.packed(i), year[i]);
        }
        Checks.unknown("packed, beyond", () -> x.packed(year.length));
        Checks.unknown("packed(-1)", () -> x.packed(-1));
    }

    private static void packing() {
        packed("", 0);
        packed("sitting 365;", 1, 0);
        packed("sitting 366;", -1, -1);
        packed("sitting 1;sitting 9;year 8;", -1, -1, -1);
        packed("sitting 5;sitting 5;year 10;", 1, 0, 0);
        packed("sitting 5;sitting 6;year 10;", 2, 0, 1);
        // each in the first year with room for it: three years; the fewest are two
        packed("sitting 5;sitting 4;sitting 6;sitting 5;year 10;", 2, 0, 1, 1, 0);
        packed("sitting 3;sitting 3;sitting 2;sitting 5;sitting 5;sitting 2;year 10;", 2, 0, 0, 0, 1, 1, 0);
        packed("sitting 4;sitting 1;sitting 6;sitting 5;sitting 4;year 10;", 2, 0, 0, 1, 0, 1);
        packed("sitting 7;sitting 5;sitting 1;sitting 3;sitting 6;sitting 4;sitting 2;sitting 2;year 15;", 2, 0, 0, 0, 1, 1, 1, 0, 1);
        packed(Checks.times(8, "sitting 400;") + "year 400;", 8, 0, 1, 2, 3, 4, 5, 6, 7);
        packed(Checks.times(8, "sitting 50;") + "year 400;", 1, 0, 0, 0, 0, 0, 0, 0, 0);
    }
}
