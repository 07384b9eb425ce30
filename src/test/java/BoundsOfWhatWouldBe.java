/** Promises 17 to 28, 35, 36, 39, 41 and 42: what would be, and what is searched for and worked out. */
final class BoundsOfWhatWouldBe {
    private static final String FULL = Checks.times(8, "seat 1;") + Checks.times(6, "sitter 1 60;");

    private final Sentences sentences;

    BoundsOfWhatWouldBe(Sentences sentences) {
        this.sentences = sentences;
    }

    void run() {
        ahead();
        when();
        meals();
        goings();
        bright();
        places();
        placed();
        packing();
        packed();
        well();
        getsUp();
        food();
        rising();
        gains();
        need();
        season();
        span();
    }

    // ---- promises 17 to 21

    private void ahead() {
        sentences.about(17, "In n DAYS (0 to 99), nothing being done: 0 all that is on the PLATE, 1 who sits (bits), 2 who is SEEN nowhere (bits).");
        Checks.bounds("ahead's n", 0, 99, (x, n) -> x.ahead(n, 0));
        Checks.bounds("ahead's n, another what", 0, 99, (x, n) -> x.ahead(n, 2));
        StillYear x = Checks.in("seat 1;seat 1;sitter 1 60;sitter 1 1;");
        Checks.work(x, "sit 0 0;sit 1 1;");
        int[][] want = {{0, 0, 3, 3}, {1, 2, 3, 0}, {2, 4, 1, 0}, {60, 62, 1, 0}, {61, 63, 0, 0}, {99, 63, 0, 0}};
        for (int[] row : want) {
            for (int what = 0; what < 3; what++) {
                Checks.due("ahead(" + row[0] + ", " + what + ")", x.ahead(row[0], what), row[1 + what]);
            }
        }
        StillYear most = Checks.in("seat 1;sitter 1 60;food 99;");
        Checks.law(most, "99");
        Checks.work(most, "sit 0 0;again 60[day;];feed 0;");
        Checks.due("9,999 at most", most.ahead(60, 0), 9999);
        StillYear bare = new StillYear();
        Checks.due("nothing", bare.ahead(99, 0) + bare.ahead(99, 1) + bare.ahead(99, 2), 0);
    }

    private void when() {
        sentences.about(18, "WHEN.");
        StillYear x = Checks.in(FULL);
        Checks.due("he does not sit", x.when(5), StillYear.NONE);
        Checks.work(x, "sit 5 7;");
        Checks.due("in a day", x.when(5), 1);
        Checks.work(x, "day;");
        Checks.due("now", x.when(5), 0);
        Checks.unknown("no such sitter", () -> x.when(6));
    }

    private void meals() {
        sentences.about(19, "MEALS for n (0 to 400) DAYS.");
        Checks.bounds("meals' n", 0, 400, (x, n) -> x.meals(1, n));
        StillYear x = Checks.in("sitter 1 1;sitter 1 60;");
        Checks.due("0 days", x.meals(0, 0), 0);
        Checks.due("400 days, N 1", x.meals(0, 400), 399);
        Checks.due("400 days, N 60", x.meals(1, 400), 6);
        Checks.due("60 days, N 60", x.meals(1, 60), 0);
        Checks.due("61 days, N 60", x.meals(1, 61), 1);
        Checks.work(x, "again 60[day;];again 60[day;];");
        Checks.due("the hungriest, 0 days", x.meals(1, 0), 0);
        Checks.due("the hungriest, 1 day", x.meals(1, 1), 1);
        Checks.due("the hungriest, 60 days", x.meals(1, 60), 1);
        Checks.due("the hungriest, 61 days", x.meals(1, 61), 2);
        Checks.due("the hungriest, 400 days, N 1", x.meals(0, 400), 400);
        StillYear none = Checks.in("sitter 1 1;food 0;");
        Checks.due("though there are no meals", none.meals(0, 400), 399);
    }

    private void goings() {
        sentences.about(20, "GOINGS: 0 how many ways, 1 LENGTH.");
        StillYear x = Checks.in(FULL);
        Checks.due("no book: one way", x.goings(5, 0), 1);
        Checks.due("no book: no days", x.goings(5, 1), 0);
        Checks.book(x, "7 2;0 1;");
        Checks.due("ways", x.goings(5, 0), 3);
        Checks.due("days", x.goings(5, 1), 3);
        Checks.work(x, "curtain 0 2;");
        Checks.due("no way", x.goings(5, 0), 0);
        Checks.due("no days", x.goings(5, 1), StillYear.NONE);
        Checks.unknown("no such sitter", () -> x.goings(6, 0));
    }

    private void bright() {
        sentences.about(21, "BRIGHT; NONE: all SEATS are in lines, or there are none.");
        StillYear x = Checks.in(FULL);
        Checks.due("all are alike", x.bright(5), 0);
        Checks.book(x, "0 1;1 1;2 1;3 1;4 1;5 1;6 1;");
        Checks.due("one is in no line", x.bright(5), 7);
        Checks.book(x, "0 1;1 1;2 1;3 1;4 1;5 1;6 1;7 0;");
        Checks.due("all are in lines", x.bright(5), StillYear.NONE);
        Checks.due("there are none", Checks.in("sitter 1 1;").bright(0), StillYear.NONE);
    }

    // ---- promises 22 to 25

    private void places() {
        sentences.about(22, "PLACES: MARKS together (0: there are no SITTERS).");
        Checks.due("nothing at all", new StillYear().places(), 0);
        Checks.due("seats alone", Checks.in(Checks.times(8, "seat 9;")).places(), 0);
        Checks.due("one and one", Checks.in("seat 9;sitter 9 1;").places(), 81);
        Checks.due("sitters alone", Checks.in("sitter 9 1;").places(), StillYear.NONE);
        Checks.due("six and eight", Checks.in(FULL).places(), 6);
        StillYear x = Checks.in(FULL);
        Checks.law(x, "0-1");
        Checks.due("marks of 0", x.places(), 0);
        Checks.law(x, "999");
        Checks.due("as much as there may be", x.places(), 594);
    }

    private void placed() {
        sentences.about(23, "The SEAT of a SITTER by PLACES; NONE.");
        StillYear x = Checks.in(FULL);
        Checks.due("the first", x.placed(0), 0);
        Checks.due("the last", x.placed(5), 5);
        Checks.law(x, "seat");
        Checks.due("the first, on the best six", x.placed(0), 2);
        Checks.due("the last, on the best six", x.placed(5), 7);
        Checks.due("fewer seats", Checks.in("seat 1;sitter 1 1;sitter 1 1;").placed(1), StillYear.NONE);
        Checks.due("no seats", Checks.in("sitter 1 1;").placed(0), StillYear.NONE);
        StillYear none = Checks.in("seat 1;");
        Checks.unknown("no sitters", () -> none.placed(0));
        StillYear fewer = Checks.in("seat 1;sitter 1 1;sitter 1 1;");
        Checks.unknown("no such sitter, though there are fewer seats", () -> fewer.placed(2));
    }

    private void packing() {
        sentences.about(24, "PACKING: how many YEARS (0: there are no SITTINGS).");
        Checks.due("no sittings", new StillYear().packing(), 0);
        Checks.due("no sittings in a year", Checks.in("year 1;").packing(), 0);
        Checks.due("one", Checks.in("sitting 365;").packing(), 1);
        Checks.due("one that is too long", Checks.in("sitting 366;").packing(), StillYear.NONE);
        Checks.due("as many as there may be", Checks.in(Checks.times(8, "sitting 400;") + "year 400;").packing(), 8);
        Checks.due("none with another one", Checks.in(Checks.times(8, "sitting 183;")).packing(), 8);
        Checks.due("each with another one", Checks.in(Checks.times(8, "sitting 182;")).packing(), 4);
    }

    private void packed() {
        sentences.about(25, "The YEAR of a SITTING by PACKING; NONE.");
        StillYear x = Checks.in(Checks.times(7, "sitting 300;") + "sitting 65;");
        Checks.due("the first", x.packed(0), 0);
        Checks.due("the seventh", x.packed(6), 6);
        Checks.due("the last, with the first", x.packed(7), 0);
        Checks.due("one is too long", Checks.in("sitting 1;sitting 366;").packed(0), StillYear.NONE);
        StillYear none = new StillYear();
        Checks.unknown("no sittings", () -> none.packed(0));
        StillYear long1 = Checks.in("sitting 366;");
        Checks.unknown("no such sitting, though one is too long", () -> long1.packed(1));
    }

    // ---- promises 26 to 28

    private void well() {
        sentences.about(26, "WELL by q (0 to 16), n (0 to 12): above (part 0), below (part 1), in least terms.");
        Checks.bounds("well's q", 0, 16, (x, q) -> x.well(q, 3, 0));
        Checks.bounds("well's n", 0, 12, (x, n) -> x.well(3, n, 1));
        Checks.bounds("well's part", 0, 1, (x, part) -> x.well(3, 3, part));
        wellIs(0, 0, 1, 1);
        wellIs(0, 12, 1, 1);
        wellIs(16, 0, 1, 1);
        wellIs(16, 1, 0, 1);
        wellIs(16, 12, 0, 1);
        wellIs(1, 0, 1, 1);
        wellIs(1, 1, 15, 16);
        wellIs(2, 1, 7, 8);
        wellIs(8, 12, 1, 4096);
        wellIs(15, 12, 1, 281474976710656L);
        wellIs(1, 12, 129746337890625L, 281474976710656L);
    }

    private static void wellIs(int q, int n, long above, long below) {
        StillYear x = new StillYear();
        Checks.due("well(" + q + ", " + n + ", 0)", x.well(q, n, 0), above);
        Checks.due("well(" + q + ", " + n + ", 1)", x.well(q, n, 1), below);
    }

    private void getsUp() {
        sentences.about(27, "GETS UP by a, b, c (0 to 99): 0 how many RESTS, 1 the first (10 times what the one does, 0 he stays, 1 he gets up, "
            + "and the other one; NONE), 2 what both have by it together (0 without).");
        Checks.bounds("getsUp's a", 0, 99, (x, a) -> x.getsUp(a, 3, 3, 0));
        Checks.bounds("getsUp's b", 0, 99, (x, b) -> x.getsUp(3, b, 3, 1));
        Checks.bounds("getsUp's c", 0, 99, (x, c) -> x.getsUp(3, 3, c, 2));
        StillYear x = new StillYear();
        Checks.due("all four", x.getsUp(0, 0, 0, 0), 4);
        Checks.due("all four: the first", x.getsUp(0, 0, 0, 1), 0);
        Checks.due("the first: one of them gets up", x.getsUp(0, 0, 99, 1), 1);
        Checks.due("what they have by it", x.getsUp(0, 0, 99, 2), 99);
        Checks.due("how many", x.getsUp(0, 0, 99, 0), 3);
        Checks.due("the first: both get up", x.getsUp(0, 99, 99, 1), 11);
        Checks.due("what they have by it", x.getsUp(0, 99, 99, 2), 198);
        Checks.due("what they have by it, both staying", x.getsUp(99, 99, 99, 2), 198);
        // both getting up always rests, since who stays then has 0: there is never none
        for (int a = 0; a <= 99; a += 33) {
            for (int b = 0; b <= 99; b += 33) {
                for (int c = 0; c <= 99; c += 33) {
                    Checks.due("one at least", x.getsUp(a, b, c, 0) > 0 && x.getsUp(a, b, c, 1) >= 0 ? 1 : 0, 1);
                }
            }
        }
    }

    private void food() {
        sentences.about(28, "What a SITTER gets of n (0 to 999) by FOOD among told SITTERS (0, if he is none of them).");
        Checks.bounds("food's n", 0, 999, (x, n) -> x.food(1, 3, n));
        Checks.bounds("food's n, for none of them", 0, 999, (x, n) -> x.food(1, 1, n));
        StillYear x = Checks.in(Checks.times(6, "sitter 1 1;"));
        Checks.work(x, "again 10[day;];");
        Checks.due("he is one of them", x.food(5, 63, 999), 10);
        Checks.due("he is none of them", x.food(5, 31, 999), 0);
        Checks.due("nobody is", x.food(0, 0, 999), 0);
        Checks.due("he alone is", x.food(5, 32, 9), 9);
        Checks.due("there is nothing", x.food(5, 32, 0), 0);
        sentences.about(28, "IllegalArgumentException: bits of no SITTERS.");
        Checks.bounds("food's sitters", 0, 3, (y, sitters) -> y.food(0, sitters, 5));
        Checks.due("all six", x.food(0, 63, 60), 10);
        Checks.bad("a seventh", () -> x.food(0, 64, 60));
        Checks.bad("a seventh and the first", () -> x.food(0, 65, 60));
        Checks.bad("bit 31", () -> x.food(0, Integer.MIN_VALUE + 1, 60));
    }

    // ---- promises 35, 36, 39

    private void rising() {
        sentences.about(35, "In how many DAYS, nothing being done, a SITTER rises by hunger (1 at least); NONE: he does not sit.");
        StillYear x = Checks.in("seat 1;seat 1;sitter 1 60;sitter 1 1;");
        Checks.due("he does not sit", x.rising(0), StillYear.NONE);
        Checks.work(x, "sit 0 0;sit 1 1;");
        Checks.due("N 60", x.rising(0), 61);
        Checks.due("N 1", x.rising(1), 2);
        Checks.due("he sits yet", x.ahead(60, 1), 1);
        Checks.due("he rose", x.ahead(61, 1), 0);
        Checks.work(x, "day;");
        Checks.due("N 1, hunger 1", x.rising(1), 1);
        Checks.work(x, "day;");
        Checks.due("he rose by hunger", x.rising(1), StillYear.NONE);
        Checks.work(x, "sit 1 1;");
        Checks.due("N 1, hunger 2", x.rising(1), 1);
        Checks.work(x, "again 60[day;];again 60[day;];sit 0 0;sit 1 1;");
        Checks.due("N 60, hunger 99", x.rising(0), 1);
        Checks.due("N 1, hunger 99", x.rising(1), 1);
        Checks.work(x, "feed 0;");
        Checks.due("fed", x.rising(0), 61);
    }

    private void gains() {
        sentences.about(36, "How much more a SITTER would leave this DAY, sat he on another SEAT now (still 0; all else as it is; below 0: less);");
        StillYear x = Checks.in("seat 0;seat 9;seat 0;sitter 9 60;sitter 1 60;");
        Checks.work(x, "sit 0 0;");
        Checks.due("more", x.gains(0, 1), 81);
        Checks.due("alike", x.gains(0, 2), 0);
        Checks.law(x, "light*11");
        Checks.due("as much more as can be", x.gains(0, 1), 99);
        Checks.work(x, "sit 0 1;");
        Checks.due("as much less as can be", x.gains(0, 0), -99);
        Checks.law(x, "still*5+others*7+hunger*3+day");
        Checks.work(x, "sit 1 2;day;day;");
        Checks.due("still is 0 there, all else as it is", x.gains(0, 0), -10);
        Checks.law(x, "0-still");
        Checks.due("0 at least both", x.gains(0, 0), 0);
        sentences.about(36, "-100: somebody sits there, or he does not sit.");
        Checks.due("another one sits there", x.gains(0, 2), -100);
        Checks.due("he himself sits there", x.gains(0, 1), -100);
        Checks.work(x, "rise 1;");
        Checks.due("he does not sit", x.gains(1, 0), -100);
        Checks.due("he does not sit, another one does there", x.gains(1, 1), -100);
    }

    private void need() {
        sentences.about(39, "MEALS for n (0 to 400) DAYS of all who sit now, together.");
        Checks.bounds("need", 0, 400, (x, n) -> x.need(n));
        StillYear x = Checks.in(Checks.times(6, "seat 1;") + Checks.times(6, "sitter 1 1;"));
        Checks.due("nobody sits", x.need(400), 0);
        Checks.work(x, "sit 5 0;");
        Checks.due("the last sits", x.need(400), 399);
        Checks.due("a day", x.need(1), 0);
        Checks.due("two days", x.need(2), 1);
        Checks.work(x, "sit 0 1;sit 1 2;sit 2 3;sit 3 4;sit 4 5;");
        Checks.due("all sit", x.need(400), 6 * 399);
        Checks.due("no days", x.need(0), 0);
        Checks.work(x, "day;");
        Checks.due("hungry, a day", x.need(1), 6);
        Checks.due("no sitters", new StillYear().need(400), 0);
    }

    // ---- promises 41 and 42

    private void season() {
        sentences.about(41, "A SEASON of so many DAYS (1 to 96), Q (0 to 16): 0 all that is on the PLATE then, 1 who sits then (bits), "
            + "2 meals that are left then, 3 who is SEEN nowhere then (bits).");
        Checks.bounds("season's q", 0, 16, (x, q) -> x.season(1, q, 3, 0));
        Checks.bounds("season's days", 1, 96, (x, days) -> x.season(1, 3, days, 3));
        StillYear x = Checks.in("seat 3;sitter 2 60;food 99;");
        int[][] want = {{0, 1, 6, 1, 99, 0}, {0, 60, 360, 1, 99, 0}, {16, 1, 6, 1, 99, 0}, {16, 96, 576, 1, 4, 0}};
        for (int[] row : want) {
            for (int what = 0; what < 4; what++) {
                Checks.due("season(5, " + row[0] + ", " + row[1] + ", " + what + ")", x.season(5, row[0], row[1], what), row[2 + what]);
            }
        }
        int[] seeds = {Integer.MIN_VALUE, -1, 0, Integer.MAX_VALUE};
        for (int seed : seeds) {
            Checks.due("any seed", x.season(seed, 16, 96, 0), 576);
        }
        StillYear bare = new StillYear();
        int[] nothing = {0, 0, 20, 0};
        for (int what = 0; what < 4; what++) {
            Checks.due("nobody: season(1, 16, 96, " + what + ")", bare.season(1, 16, 96, what), nothing[what]);
        }
    }

    private void span() {
        sentences.about(42, "Of so many SEEDS (1 to 20; seed, seed and 1, ..): 0 the least that is on the PLATE then, 1 the most, "
            + "2 by how many all SITTERS are SEEN somewhere then.");
        Checks.bounds("span's many", 1, 20, (x, many) -> x.span(1, many, 3, 3, 0));
        Checks.bounds("span's q", 0, 16, (x, q) -> x.span(1, 2, q, 3, 1));
        Checks.bounds("span's days", 1, 96, (x, days) -> x.span(1, 2, 3, days, 2));
        spanIs(-3, 1);
        spanIs(-3, 2);
        spanIs(-3, 20);
        // seed and 1 wraps, too
        spanIs(Integer.MAX_VALUE, 1);
        spanIs(Integer.MAX_VALUE, 2);
        spanIs(Integer.MAX_VALUE - 18, 20);
        spanIs(-1, 2);
        StillYear bare = new StillYear();
        Checks.due("nobody: the least", bare.span(1, 20, 16, 96, 0), 0);
        Checks.due("nobody: the most", bare.span(1, 20, 16, 96, 1), 0);
        Checks.due("nobody: all are seen", bare.span(1, 20, 16, 96, 2), 20);
        StillYear dark = Checks.in("seat 0;sitter 1 1;");
        Checks.due("he leaves nothing: none", dark.span(1, 20, 16, 96, 2), 0);
    }

    private static void spanIs(int seed, int many) {
        StillYear x = Checks.in("seat 3;seat 8;sitter 2 4;sitter 5 6;food 9;");
        int least = Integer.MAX_VALUE;
        int most = Integer.MIN_VALUE;
        int seen = 0;
        for (int i = 0; i < many; i++) {
            int all = x.season(seed + i, 4, 9, 0);
            least = Math.min(least, all);
            most = Math.max(most, all);
            seen += x.season(seed + i, 4, 9, 3) == 0 ? 1 : 0;
        }
        Checks.due("span(" + seed + ", " + many + ", 4, 9, 0)", x.span(seed, many, 4, 9, 0), least);
        Checks.due("span(" + seed + ", " + many + ", 4, 9, 1)", x.span(seed, many, 4, 9, 1), most);
        Checks.due("span(" + seed + ", " + many + ", 4, 9, 2)", x.span(seed, many, 4, 9, 2), seen);
    }
}
