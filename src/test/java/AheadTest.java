/** Promises 14, 17 to 19, 35, 36, 39, 41, 42: what would be, and that nothing stays changed by asking. */
public final class AheadTest {
    public static void main(String[] args) {
        marks();
        ahead();
        whenSeen();
        meals();
        rising();
        gains();
        seasons();
        seasonsWithout();
        Checks.end("AheadTest");
    }

    private static void marks() {
        StillYear x = Checks.in("seat 4;seat 2;sitter 3 2;sitter 5 9;");
        Checks.law(x, "light * dark + still * 20 + others + hunger * 2 - day");
        Checks.due("he does not sit", x.mark(0), 0);
        Checks.work(x, "sit 0 0;");
        Checks.due("he sits", x.mark(0), 12);
        Checks.work(x, "sit 1 1;day;");
        Checks.due("a day later", x.mark(0), 12 + 20 + 1 + 2 - 1);
        Checks.work(x, "curtain 0 9;");
        Checks.due("by the light now", x.mark(0), 27 + 20 + 1 + 2 - 1);
        Checks.law(x, "0-5");
        Checks.due("0 at least", x.mark(0), 0);
        Checks.law(x, "100");
        Checks.due("99 at most", x.mark(0), 99);
        Checks.unknown("mark(2)", () -> x.mark(2));
        Checks.unknown("mark(-1)", () -> x.mark(-1));
    }

    private static void ahead() {
        StillYear x = Checks.in("seat 4;seat 2;sitter 3 2;sitter 5 4;");
        Checks.work(x, "sit 0 0;sit 1 1;");
        int[][] want = {{0, 3, 3}, {22, 3, 0}, {44, 3, 0}, {66, 2, 0}, {76, 2, 0}, {86, 0, 0}, {86, 0, 0}};
        for (int n = 0; n < want.length; n++) {
            for (int what = 0; what < 3; what++) {
                Checks.due("ahead(" + n + ", " + what + ")", x.ahead(n, what), want[n][what]);
            }
        }
        Checks.due("ahead(99, 0)", x.ahead(99, 0), 86);
        Checks.due("nothing stays changed", x.told(3) + x.told(8) + x.sitter(0, 4), 0);
        Checks.bad("ahead(100, 0)", () -> x.ahead(100, 0));
        Checks.bad("ahead(-1, 0)", () -> x.ahead(-1, 0));
        Checks.bad("ahead(0, 3)", () -> x.ahead(0, 3));
        Checks.bad("ahead(0, -1)", () -> x.ahead(0, -1));
        Checks.law(x, "day");
        Checks.due("the day goes on", x.ahead(3, 0), 2 * (0 + 1 + 2));
    }

    private static void whenSeen() {
        StillYear x = Checks.in("seat 1;seat 1;sitter 1 60;sitter 1 60;sitter 1 3;");
        Checks.due("he does not sit", x.when(0), StillYear.NONE);
        Checks.work(x, "sit 0 0;");
        Checks.due("tomorrow", x.when(0), 1);
        Checks.work(x, "again 5[day;];");
        Checks.due("now", x.when(0), 0);
        Checks.work(x, "rise 0;sit 1 0;");
        Checks.due("risen, though seen", x.when(0), StillYear.NONE);
        Checks.due("more than half: not in 5, in 6", x.when(1), 6);
        Checks.work(x, "rise 1;feed 2;sit 2 0;");
        Checks.due("he rises by hunger before", x.when(2), StillYear.NONE);
        Checks.due("nothing stays changed", x.told(3), 5);
        Checks.unknown("when(3)", () -> x.when(3));
        Checks.unknown("when(-1)", () -> x.when(-1));
        StillYear y = Checks.in("seat 1;sitter 1 60;");
        Checks.work(y, "sit 0 0;");
        Checks.law(y, "day/59");
        Checks.due("the day he rises he left something", y.when(0), 60);
        Checks.law(y, "day/61");
        Checks.due("too late", y.when(0), StillYear.NONE);
    }

    private static void meals() {
        StillYear x = Checks.in("seat 1;seat 1;sitter 1 1;sitter 1 7;sitter 1 60;");
        meal(x, 0, 0, 0);
        meal(x, 0, 1, 0);
        meal(x, 0, 2, 1);
        meal(x, 0, 400, 399);
        meal(x, 1, 7, 0);
        meal(x, 1, 8, 1);
        meal(x, 1, 14, 1);
        meal(x, 1, 15, 2);
        meal(x, 2, 400, 6);
        Checks.work(x, "sit 1 0;sit 2 1;again 7[day;];");
        meal(x, 0, 0, 0);
        meal(x, 0, 1, 1);
        meal(x, 0, 2, 2);
        meal(x, 1, 0, 0);
        meal(x, 1, 1, 1);
        meal(x, 1, 7, 1);
        meal(x, 1, 8, 2);
        meal(x, 2, 53, 0);
        meal(x, 2, 54, 1);
        Checks.due("need(0)", x.need(0), 0);
        Checks.due("need(1)", x.need(1), 1);
        Checks.due("need(54)", x.need(54), 8 + 1);
        Checks.bad("meals(0, 401)", () -> x.meals(0, 401));
        Checks.bad("meals(0, -1)", () -> x.meals(0, -1));
        Checks.bad("need(401)", () -> x.need(401));
        Checks.bad("need(-1)", () -> x.need(-1));
        Checks.unknown("meals(3, 401)", () -> x.meals(3, 401));
        Checks.unknown("meals(-1, 0)", () -> x.meals(-1, 0));
    }

    private static void meal(StillYear x, int sitter, int n, int want) {
        Checks.due("meals(" + sitter + ", " + n + ")", x.meals(sitter, n), want);
    }

    private static void rising() {
        StillYear x = Checks.in("seat 1;seat 1;sitter 1 3;sitter 1 60;");
        Checks.due("he does not sit", x.rising(0), StillYear.NONE);
        Checks.work(x, "sit 0 0;day;");
        Checks.due("in 3 days", x.rising(0), 3);
        Checks.work(x, "day;day;");
        Checks.due("in 1 day", x.rising(0), 1);
        Checks.work(x, "day;");
        Checks.due("he rose", x.rising(0), StillYear.NONE);
        Checks.work(x, "day;sit 0 0;");
        Checks.due("hungry, he sits for a day", x.rising(0), 1);
        Checks.unknown("rising(2)", () -> x.rising(2));
        Checks.unknown("rising(-1)", () -> x.rising(-1));
    }

    private static void gains() {
        StillYear x = Checks.in("seat 4;seat 2;seat 7;sitter 3 9;sitter 1 9;");
        Checks.law(x, "light * dark + still * 10 + seat + others * 2 + hunger");
        Checks.due("he does not sit", x.gains(0, 0), -100);
        Checks.work(x, "sit 0 0;sit 1 1;day;");
        Checks.due("mark now", x.mark(0), 12 + 10 + 2 + 1);
        Checks.due("more", x.gains(0, 2), 21 + 2 + 2 + 1 - 25);
        Checks.due("less", x.gains(1, 2), 7 + 2 + 2 + 1 - (2 + 10 + 1 + 2 + 1));
        Checks.due("somebody sits there", x.gains(0, 1), -100);
        Checks.due("he himself does", x.gains(0, 0), -100);
        Checks.unknown("gains(2, 0)", () -> x.gains(2, 0));
        Checks.unknown("gains(0, 3)", () -> x.gains(0, 3));
        Checks.unknown("gains(-1, 0)", () -> x.gains(-1, 0));
        Checks.unknown("gains(0, -1)", () -> x.gains(0, -1));
    }

    private static void seasons() {
        StillYear x = Checks.in("seat 4;seat 2;seat 7;sitter 3 9;sitter 1 2;food 4;");
        Checks.work(x, "sit 1 2;day;");
        // seed 1: what is drawn by hand
        int seed = 1;
        int[] drawn = new int[3];
        for (int i = 0; i < 3; i++) {
            seed = seed * 1103515245 + 12345;
            drawn[i] = seed >>> 16 & 0x7FFF;
        }
        int sitter = drawn[0] % 2;
        int seat = drawn[1] % 3;
        boolean sat = seat != 2;
        Checks.due("the draws are told", drawn[0], 16838);
        Checks.due("the draws are told", drawn[1], 5758);
        Checks.due("the draws are told", drawn[2], 10113);
        int feeds = drawn[2] % 16;
        Checks.due("season(1, feeds, 1, 2)", x.season(1, feeds, 1, 2), 4);
        Checks.due("season(1, feeds + 1, 1, 2)", x.season(1, feeds + 1, 1, 2), 3);
        Checks.due("season(1, 0, 1, 1)", x.season(1, 0, 1, 1), sat ? 2 | 1 << sitter : 2);
        Checks.due("season(1, 0, 1, 0)", x.season(1, 0, 1, 0), 7 + 7 + (sat && sitter == 0 ? 3 * (seat == 0 ? 4 : 2) : 0));
        Checks.due("nothing stays changed", x.told(3) * 10 + x.told(5), 12);
        int least = Integer.MAX_VALUE;
        int most = 0;
        int seen = 0;
        for (int i = 0; i < 20; i++) {
            int plate = x.season(-5 + i, 7, 40, 0);
            least = Math.min(least, plate);
            most = Math.max(most, plate);
            seen += x.season(-5 + i, 7, 40, 3) == 0 ? 1 : 0;
        }
        Checks.due("span, least", x.span(-5, 20, 7, 40, 0), least);
        Checks.due("span, most", x.span(-5, 20, 7, 40, 1), most);
        Checks.due("span, all seen", x.span(-5, 20, 7, 40, 2), seen);
        Checks.due("span of one", x.span(9, 1, 7, 40, 0), x.season(9, 7, 40, 0));
        Checks.due("seeds wrap", x.span(Integer.MAX_VALUE, 2, 7, 9, 1),
            Math.max(x.season(Integer.MAX_VALUE, 7, 9, 0), x.season(Integer.MIN_VALUE, 7, 9, 0)));
        badSeasons(x);
    }

    private static void badSeasons(StillYear x) {
        int[][] bad = {{-1, 1, 0}, {17, 1, 0}, {0, 0, 0}, {0, 97, 0}, {0, 1, -1}, {0, 1, 4}};
        for (int[] b : bad) {
            Checks.bad("season", () -> x.season(1, b[0], b[1], b[2]));
            Checks.bad("span", () -> x.span(1, 1, b[0], b[1], b[2]));
        }
        Checks.bad("span, none", () -> x.span(1, 0, 0, 1, 0));
        Checks.bad("span, 21", () -> x.span(1, 21, 0, 1, 0));
        Checks.bad("span, what 3", () -> x.span(1, 1, 0, 1, 3));
        Checks.due("season, all most", x.season(1, 16, 96, 2) >= 0 ? 1 : 0, 1);
    }

    private static void seasonsWithout() {
        StillYear noSeats = Checks.in("sitter 3 9;sitter 1 2;food 9;");
        Checks.work(noSeats, "day;");
        Checks.due("no seats, nobody sits", noSeats.season(3, 16, 96, 1), 0);
        Checks.due("no seats, all unseen", noSeats.season(3, 16, 96, 3), 3);
        Checks.due("no seats, they are fed", noSeats.season(3, 16, 96, 2), 0);
        // without a seat the second draw is the one by 16
        int first = 3 * 1103515245 + 12345;
        int second = first * 1103515245 + 12345;
        int by16 = (second >>> 16 & 0x7FFF) % 16;
        Checks.due("no seat is drawn: not fed", noSeats.season(3, by16, 1, 2), 9);
        Checks.due("no seat is drawn: fed", noSeats.season(3, by16 + 1, 1, 2), 8);
        StillYear noSitters = Checks.in("seat 3;food 9;");
        Checks.due("no sitters", noSitters.season(3, 16, 96, 2), 9);
        Checks.due("no sitters, none unseen", noSitters.season(3, 16, 96, 3), 0);
        Checks.due("no sitters, all are seen", noSitters.span(3, 7, 16, 96, 2), 7);
    }
}
