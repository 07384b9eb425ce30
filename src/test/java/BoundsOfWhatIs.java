/** Promises 9 to 16, 29 to 34, 37, 38 and 40: what is there now. */
final class BoundsOfWhatIs {
    private static final String FULL = Checks.times(8, "seat 1;") + Checks.times(6, "sitter 1 60;");

    private final Sentences sentences;

    BoundsOfWhatIs(Sentences sentences) {
        this.sentences = sentences;
    }

    void run() {
        told();
        refusedSteps();
        seenNowhere();
        anotherWhat();
        seat();
        noSuchElement();
        sitter();
        plate();
        sitting();
        mark();
        would();
        share();
        darkest();
        stillest();
        stains();
        hungriest();
        brightest();
        empty();
        absent();
        crowd();
        lead();
    }

    /** All SITTERS leave 1 on SEAT 0, one behind the other; then nobody sits. */
    private static StillYear sixOnOne() {
        StillYear x = Checks.in(FULL);
        Checks.work(x, "sit 0 0;day;rise 0;sit 1 0;day;rise 1;sit 2 0;day;rise 2;sit 3 0;day;rise 3;sit 4 0;day;rise 4;sit 5 0;day;rise 5;");
        Checks.due("six on one seat", x.seat(0, 2), 6);
        return x;
    }

    // ---- promise 9

    private void told() {
        sentences.about(9, "0 SEATS, 1 SITTERS, 2 SITTINGS, 3 the DAY, 4 meals that are left, 5 SITTERS who sit (bits), 6 lines of the BOOK,");
        StillYear x = new StillYear();
        int[] none = {0, 0, 0, 0, 20, 0, 0};
        for (int what = 0; what < none.length; what++) {
            Checks.due("nothing: told(" + what + ")", x.told(what), none[what]);
        }
        StillYear y = Checks.in(FULL + Checks.times(8, "sitting 1;") + "food 99;");
        Checks.work(y, "sit 0 0;sit 1 1;sit 2 2;sit 3 3;sit 4 4;sit 5 5;again 60[day;];feed 0;");
        Checks.book(y, "0 1;1 1;2 1;3 1;4 1;5 1;6 1;7 1;");
        int[] most = {8, 6, 8, 60, 98, 63, 8};
        for (int what = 0; what < most.length; what++) {
            Checks.due("as much as there may be: told(" + what + ")", y.told(what), most[what]);
        }
        Checks.work(y, "rise 0;");
        Checks.due("all but the first sit", y.told(5), 62);
        Checks.work(y, "sit 0 0;rise 5;");
        Checks.due("all but the last sit", y.told(5), 31);
        sentences.about(9, "8 all that is on the PLATE,");
        Checks.due("nothing", x.told(8), 0);
        Checks.due("60 of each of six", y.told(8), 360);
        sentences.about(9, "10 days of a YEAR.");
        Checks.due("without", x.told(10), 365);
        Checks.due("the least", Checks.in("year 1;").told(10), 1);
        Checks.due("the most", Checks.in("year 400;").told(10), 400);
    }

    private void refusedSteps() {
        sentences.about(9, "7 STEPS REFUSED by the latest WORK (0 ahead of any, behind undo(), restore()),");
        StillYear x = Checks.in("seat 1;sitter 1 60;");
        Checks.due("ahead of any", x.told(7), 0);
        Checks.work(x, "rise 0;rise 0;");
        Checks.due("two", x.told(7), 2);
        Checks.work(x, "");
        Checks.due("none by the latest", x.told(7), 0);
        Checks.work(x, "rise 0;");
        Checks.work(x, "rise 0;rise 0;rise 0;");
        Checks.due("three by the latest", x.told(7), 3);
        x.undo();
        Checks.due("behind undo()", x.told(7), 0);
        Checks.work(x, "rise 0;");
        x.image();
        Checks.due("an image leaves it", x.told(7), 1);
        x.restore();
        Checks.due("behind restore()", x.told(7), 0);
        Checks.work(x, "again 60[rise 0;rise 0;rise 0;];again 60[rise 0;];");
        Checks.due("as many as can be", x.told(7), 198);
        Checks.work(x, "rise 0;?");
        Checks.due("no work was done since", x.told(7), 198);
        Checks.fine(x, "studio", "seat 1;sitter 1 60;", 1);
        Checks.due("a new studio, ahead of any", x.told(7), 0);
    }

    private void seenNowhere() {
        sentences.about(9, "9 SITTERS who are SEEN nowhere (bits),");
        StillYear x = Checks.in(FULL);
        Checks.due("all", x.told(9), 63);
        Checks.work(x, "sit 0 0;sit 5 7;day;");
        Checks.due("all but the first and the last", x.told(9), 30);
        Checks.work(x, "sit 1 1;sit 2 2;sit 3 3;sit 4 4;day;");
        Checks.due("none", x.told(9), 0);
        Checks.due("one on each but the half", sixOnOne().told(9), 63);
        Checks.due("no sitters", new StillYear().told(9), 0);
    }

    private void anotherWhat() {
        sentences.about(9, "IllegalArgumentException: another what (so below).");
        Checks.bounds("told", 0, 10, (x, what) -> x.told(what));
        Checks.bounds("seat", 0, 3, (x, what) -> x.seat(2, what));
        Checks.bounds("sitter", 0, 7, (x, what) -> x.sitter(1, what));
        Checks.bounds("ahead's what", 0, 2, (x, what) -> x.ahead(0, what));
        Checks.bounds("goings", 0, 1, (x, what) -> x.goings(0, what));
        Checks.bounds("getsUp's what", 0, 2, (x, what) -> x.getsUp(1, 2, 3, what));
        Checks.bounds("darkest", 0, 1, (x, what) -> x.darkest(what));
        Checks.bounds("stillest", 0, 1, (x, what) -> x.stillest(what));
        Checks.bounds("stains", 0, 1, (x, what) -> x.stains(what));
        Checks.bounds("hungriest", 0, 1, (x, what) -> x.hungriest(what));
        Checks.bounds("brightest", 0, 1, (x, what) -> x.brightest(what));
        Checks.bounds("empty", 0, 1, (x, what) -> x.empty(what));
        Checks.bounds("season's what", 0, 3, (x, what) -> x.season(1, 0, 1, what));
        Checks.bounds("span's what", 0, 2, (x, what) -> x.span(1, 1, 0, 1, what));
        StillYear bare = new StillYear();
        Checks.bad("darkest of nothing", () -> bare.darkest(2));
        Checks.bad("stillest of nobody", () -> bare.stillest(2));
        Checks.bad("hungriest of nobody", () -> bare.hungriest(2));
        Checks.bad("brightest of nothing", () -> bare.brightest(2));
    }

    // ---- promise 10

    private void seat() {
        sentences.about(10, "Of a SEAT: 0 LIGHT now, 1 who sits there (NONE), 2 all that is on it, 3 SEEN (NONE).");
        StillYear x = Checks.in("seat 0;" + Checks.times(6, "seat 1;") + "seat 9;" + Checks.times(6, "sitter 1 60;"));
        Checks.due("the least light", x.seat(0, 0), 0);
        Checks.due("the most light", x.seat(7, 0), 9);
        Checks.due("nobody sits there", x.seat(7, 1), StillYear.NONE);
        Checks.due("nothing is on it", x.seat(7, 2), 0);
        Checks.due("nobody is seen", x.seat(7, 3), StillYear.NONE);
        Checks.work(x, "sit 0 0;sit 5 7;day;curtain 0 9;curtain 7 0;");
        Checks.due("light now", x.seat(0, 0), 9);
        Checks.due("no light now", x.seat(7, 0), 0);
        Checks.due("the first sits there", x.seat(0, 1), 0);
        Checks.due("the last sits there", x.seat(7, 1), 5);
        Checks.due("he left nothing there", x.seat(0, 2), 0);
        Checks.due("who leaves nothing is not seen", x.seat(0, 3), StillYear.NONE);
        Checks.due("on the last", x.seat(7, 2), 9);
        Checks.due("the last is seen", x.seat(7, 3), 5);
    }

    private void noSuchElement() {
        sentences.about(10, "NoSuchElementException: no such SEAT, SITTER, SITTING (so below, ahead of others).");
        Checks.elements("seat", 3, (x, seat) -> x.seat(seat, 0));
        Checks.elements("sitter", 2, (x, sitter) -> x.sitter(sitter, 0));
        Checks.elements("plate's seat", 3, (x, seat) -> x.plate(seat, 1));
        Checks.elements("plate's sitter", 2, (x, sitter) -> x.plate(2, sitter));
        Checks.elements("sitting", 4, (x, sitting) -> x.sitting(sitting));
        Checks.elements("mark", 2, (x, sitter) -> x.mark(sitter));
        Checks.elements("share's seat", 3, (x, seat) -> x.share(seat, 1, 0));
        Checks.elements("share's sitter", 2, (x, sitter) -> x.share(2, sitter, 0));
        Checks.elements("when", 2, (x, sitter) -> x.when(sitter));
        Checks.elements("meals", 2, (x, sitter) -> x.meals(sitter, 0));
        Checks.elements("goings", 2, (x, sitter) -> x.goings(sitter, 0));
        Checks.elements("bright", 2, (x, sitter) -> x.bright(sitter));
        Checks.elements("placed", 2, (x, sitter) -> x.placed(sitter));
        Checks.elements("packed", 4, (x, sitting) -> x.packed(sitting));
        Checks.elements("food", 2, (x, sitter) -> x.food(sitter, 0, 0));
        Checks.elements("rising", 2, (x, sitter) -> x.rising(sitter));
        Checks.elements("gains' sitter", 2, (x, sitter) -> x.gains(sitter, 2));
        Checks.elements("gains' seat", 3, (x, seat) -> x.gains(1, seat));
        Checks.elements("crowd", 3, (x, seat) -> x.crowd(seat));
        Checks.elements("lead", 3, (x, seat) -> x.lead(seat));
        aheadOfOthers();
    }

    private void aheadOfOthers() {
        StillYear x = Checks.in("seat 1;sitter 1 1;");
        Checks.unknown("seat(1, 9)", () -> x.seat(1, 9));
        Checks.unknown("sitter(1, 9)", () -> x.sitter(1, 9));
        Checks.unknown("share(1, 0, 9)", () -> x.share(1, 0, 9));
        Checks.unknown("share(0, 1, 9)", () -> x.share(0, 1, 9));
        Checks.unknown("meals(1, 401)", () -> x.meals(1, 401));
        Checks.unknown("goings(1, 9)", () -> x.goings(1, 9));
        Checks.unknown("food(1, 0, 1000)", () -> x.food(1, 0, 1000));
        Checks.unknown("food(1, 2, 0)", () -> x.food(1, 2, 0));
        Checks.unknown("food(-1, -1, -1)", () -> x.food(-1, -1, -1));
        Checks.unknown("plate(1, 1)", () -> x.plate(1, 1));
        Checks.unknown("gains(1, 1)", () -> x.gains(1, 1));
        Checks.due("one for each call", x.status(0), 11);
        Checks.due("no other", x.status(1), 0);
    }

    // ---- promises 11 to 16

    private void sitter() {
        sentences.about(11, "Of a SITTER: 0 DARK, 1 N, 2 the SEAT (NONE), 3 still (0: he does not sit), 4 hunger, "
            + "5 SELVES (bits of SEATS), 6 SEATS on which he is SEEN (bits), 7 all there is of him.");
        StillYear x = Checks.in(Checks.times(8, "seat 1;") + "sitter 1 1;sitter 9 60;");
        int[] first = {1, 1, StillYear.NONE, 0, 0, 0, 0, 0};
        int[] last = {9, 60, StillYear.NONE, 0, 0, 0, 0, 0};
        for (int what = 0; what < 8; what++) {
            Checks.due("at first: sitter(0, " + what + ")", x.sitter(0, what), first[what]);
            Checks.due("at first: sitter(1, " + what + ")", x.sitter(1, what), last[what]);
        }
        Checks.work(x, "sit 1 7;sit 0 0;day;day;");
        int[] risen = {1, 1, StillYear.NONE, 0, 2, 1, 1, 2};
        int[] sits = {9, 60, 7, 2, 2, 128, 128, 18};
        for (int what = 0; what < 8; what++) {
            Checks.due("he rose by hunger: sitter(0, " + what + ")", x.sitter(0, what), risen[what]);
            Checks.due("he sits: sitter(1, " + what + ")", x.sitter(1, what), sits[what]);
        }
        Checks.work(x, "sit 1 0;day;sit 1 1;day;sit 1 2;day;sit 1 3;day;sit 1 4;day;sit 1 5;day;sit 1 6;day;");
        Checks.due("selves on all", x.sitter(1, 5), 255);
        Checks.due("seen on all, though another one is there", x.sitter(1, 6), 255);
        Checks.due("another one is seen nowhere", x.sitter(0, 6), 0);
        Checks.due("selves stay", x.sitter(0, 5), 1);
        Checks.due("all there is of him", x.sitter(1, 7), 81);
    }

    private void plate() {
        sentences.about(12, "How much there is of a SITTER on a SEAT.");
        StillYear x = Checks.in(Checks.times(8, "seat 9;") + Checks.times(5, "sitter 1 60;") + "sitter 9 60;");
        Checks.work(x, "sit 5 7;sit 0 0;day;");
        Checks.due("the last on the last", x.plate(7, 5), 81);
        Checks.due("the first on the first", x.plate(0, 0), 9);
        Checks.due("the last on the first", x.plate(0, 5), 0);
        Checks.due("the first on the last", x.plate(7, 0), 0);
        Checks.due("the first on the second", x.plate(1, 0), 0);
        Checks.due("the last on the one ahead", x.plate(6, 5), 0);
        Checks.unknown("seat 8", () -> x.plate(8, 5));
        Checks.unknown("sitter 6", () -> x.plate(7, 6));
        Checks.unknown("seat 5, sitter 7 are the wrong way round", () -> x.plate(5, 7));
    }

    private void sitting() {
        sentences.about(13, "Days of a SITTING.");
        StillYear x = Checks.in("sitting 1;" + Checks.times(6, "sitting 20;") + "sitting 400;");
        Checks.due("the first, the least", x.sitting(0), 1);
        Checks.due("the last, the most", x.sitting(7), 400);
        Checks.unknown("a 9th", () -> x.sitting(8));
        StillYear none = Checks.in("seat 1;sitter 1 1;");
        Checks.unknown("none", () -> none.sitting(0));
    }

    private void mark() {
        sentences.about(14, "MARK a SITTER leaves this DAY (0: he does not sit).");
        StillYear x = Checks.in("seat 9;sitter 9 1;sitter 1 1;");
        Checks.law(x, "100+others");
        Checks.due("he does not sit", x.mark(0), 0);
        Checks.work(x, "sit 0 0;");
        Checks.due("99 at most", x.mark(0), 99);
        Checks.due("another one does not sit", x.mark(1), 0);
        Checks.law(x, "0-1");
        Checks.due("0 at least", x.mark(0), 0);
        Checks.law(x, "light+still+hunger+day+others+7");
        Checks.due("day 0", x.mark(0), 16);
        Checks.work(x, "day;");
        Checks.due("day 1", x.mark(0), 19);
        Checks.work(x, "day;");
        Checks.due("he rose by hunger", x.mark(0), 0);
    }

    private void would() {
        sentences.about(15, "MARK by the LAW for such light (0 to 9), dark (1 to 9), still (0 to 999), hunger (0 to 99), seat (0 to 7), "
            + "sitter (0 to 5), others (0 to 5), day (0 to 800).");
        int[] least = {0, 1, 0, 0, 0, 0, 0, 0};
        int[] most = {9, 9, 999, 99, 7, 5, 5, 800};
        String[] names = {"light", "dark", "still", "hunger", "seat", "sitter", "others", "day"};
        for (int i = 0; i < names.length; i++) {
            int at = i;
            Checks.bounds("would's " + names[i], least[i], most[i], (x, number) -> would(x, changed(least, at, number)));
            StillYear x = new StillYear();
            Checks.law(x, names[i] + "-" + most[i] + "+99");
            Checks.due("the most of " + names[i], would(x, changed(least, i, most[i])), 99);
            Checks.due("one less of " + names[i], would(x, changed(least, i, most[i] - 1)), 98);
            Checks.law(x, names[i] + "+50");
            Checks.due("the least of " + names[i], would(x, changed(most, i, least[i])), 50 + least[i]);
            Checks.law(x, "50");
            Checks.due("all most", would(x, most), 50);
        }
        StillYear none = new StillYear();
        Checks.due("seats and sitters that are not there may be asked for", none.would(1, 2, 0, 0, 7, 5, 5, 0), 2);
    }

    private static int[] changed(int[] row, int index, int number) {
        int[] copy = row.clone();
        copy[index] = number;
        return copy;
    }

    private static int would(StillYear x, int[] of) {
        return x.would(of[0], of[1], of[2], of[3], of[4], of[5], of[6], of[7]);
    }

    private void share() {
        sentences.about(16, "What part of all on a SEAT is a SITTER: above (part 0), below (part 1), in least terms; 0 by 1: there is nothing.");
        StillYear x = Checks.in("seat 1;seat 1;sitter 1 60;sitter 2 60;sitter 3 60;");
        shares(x, 0, 0, 0, 1);
        Checks.work(x, "sit 0 0;day;");
        shares(x, 0, 0, 1, 1);
        shares(x, 0, 1, 0, 1);
        shares(x, 1, 0, 0, 1);
        Checks.work(x, "rise 0;sit 1 0;day;day;rise 1;sit 2 0;day;");
        // 1, 4, 3 of 8
        shares(x, 0, 0, 1, 8);
        shares(x, 0, 1, 1, 2);
        shares(x, 0, 2, 3, 8);
        Checks.bounds("share's part", 0, 1, (y, part) -> y.share(0, 0, part));
        Checks.bounds("share's part where there is nothing", 0, 1, (y, part) -> y.share(2, 1, part));
        StillYear most = Checks.in("seat 1;sitter 1 60;sitter 1 60;food 99;");
        Checks.law(most, "99-sitter*98");
        Checks.work(most, "sit 0 0;again 60[day;];feed 0;again 60[day;];rise 0;feed 1;sit 1 0;day;");
        shares(most, 0, 0, 9999, 10000);
        shares(most, 0, 1, 1, 10000);
    }

    private static void shares(StillYear x, int seat, int sitter, int above, int below) {
        Checks.due("share(" + seat + ", " + sitter + ", 0)", x.share(seat, sitter, 0), above);
        Checks.due("share(" + seat + ", " + sitter + ", 1)", x.share(seat, sitter, 1), below);
    }

    // ---- promises 29 to 34

    private static void both(String what, int zero, int one, int wantZero, int wantOne) {
        Checks.due(what + ", 0", zero, wantZero);
        Checks.due(what + ", 1", one, wantOne);
    }

    private void darkest() {
        sentences.about(29, "The SEAT with most on it (what 0), of alike ones the first, how much (1); NONE both: nothing is on the PLATE.");
        StillYear bare = new StillYear();
        both("no seats", bare.darkest(0), bare.darkest(1), StillYear.NONE, StillYear.NONE);
        StillYear x = Checks.in(FULL);
        both("nothing", x.darkest(0), x.darkest(1), StillYear.NONE, StillYear.NONE);
        Checks.work(x, "sit 0 7;day;");
        both("1 on the last", x.darkest(0), x.darkest(1), 7, 1);
        Checks.work(x, "sit 0 6;day;");
        both("alike ones", x.darkest(0), x.darkest(1), 6, 1);
        Checks.work(x, "sit 1 7;day;");
        both("alike ones by two", x.darkest(0), x.darkest(1), 6, 2);
        Checks.work(x, "rise 0;day;");
        both("most by two", x.darkest(0), x.darkest(1), 7, 3);
        Checks.work(x, "rise 1;sit 2 0;again 3[day;];");
        both("alike ones, the first of all", x.darkest(0), x.darkest(1), 0, 3);
    }

    private void stillest() {
        sentences.about(30, "The SITTER who sits stillest (what 0), of alike ones the first, how many DAYS (1); NONE both: nobody sits.");
        StillYear bare = new StillYear();
        both("no sitters", bare.stillest(0), bare.stillest(1), StillYear.NONE, StillYear.NONE);
        StillYear x = Checks.in(FULL);
        both("nobody sits", x.stillest(0), x.stillest(1), StillYear.NONE, StillYear.NONE);
        Checks.work(x, "sit 5 0;");
        both("not a day yet", x.stillest(0), x.stillest(1), 5, 0);
        Checks.work(x, "sit 4 1;");
        both("alike ones", x.stillest(0), x.stillest(1), 4, 0);
        Checks.work(x, "day;sit 0 2;");
        both("alike ones, a day", x.stillest(0), x.stillest(1), 4, 1);
        Checks.work(x, "sit 4 3;");
        both("the other one was moved", x.stillest(0), x.stillest(1), 5, 1);
        Checks.work(x, "rise 5;");
        both("he rose: alike ones", x.stillest(0), x.stillest(1), 0, 0);
        Checks.work(x, "rise 0;rise 4;");
        both("nobody sits any more", x.stillest(0), x.stillest(1), StillYear.NONE, StillYear.NONE);
    }

    private void stains() {
        sentences.about(31, "Pairs of SITTERS of whom there is anything on one SEAT: 0 how many (each once), "
            + "1 the first (10 times the lesser, and the other one; NONE).");
        StillYear bare = new StillYear();
        both("nobody", bare.stains(0), bare.stains(1), 0, StillYear.NONE);
        StillYear x = Checks.in(FULL);
        Checks.work(x, "sit 5 0;sit 4 1;day;");
        both("each on a seat of his own", x.stains(0), x.stains(1), 0, StillYear.NONE);
        Checks.work(x, "rise 5;sit 4 0;");
        both("he sits there, but has left nothing", x.stains(0), x.stains(1), 0, StillYear.NONE);
        Checks.work(x, "day;");
        both("the last pair", x.stains(0), x.stains(1), 1, 45);
        Checks.work(x, "sit 5 1;day;");
        both("on two seats, each once", x.stains(0), x.stains(1), 1, 45);
        Checks.work(x, "sit 0 7;rise 5;sit 5 7;day;rise 0;sit 5 7;day;");
        both("a first one", x.stains(0), x.stains(1), 2, 5);
        StillYear all = sixOnOne();
        both("all pairs", all.stains(0), all.stains(1), 15, 1);
    }

    private void hungriest() {
        sentences.about(32, "The hungriest SITTER (what 0), of alike ones the first, his hunger (1); NONE both: there are no SITTERS.");
        StillYear bare = Checks.in("seat 1;");
        both("no sitters", bare.hungriest(0), bare.hungriest(1), StillYear.NONE, StillYear.NONE);
        StillYear x = Checks.in(FULL);
        both("nobody is hungry", x.hungriest(0), x.hungriest(1), 0, 0);
        Checks.work(x, "day;feed 0;feed 1;");
        both("alike ones", x.hungriest(0), x.hungriest(1), 2, 1);
        Checks.work(x, "feed 2;feed 3;feed 4;day;");
        both("the last", x.hungriest(0), x.hungriest(1), 5, 2);
        Checks.work(x, "again 60[day;];again 60[day;];");
        both("all as hungry as can be", x.hungriest(0), x.hungriest(1), 0, 99);
    }

    private void brightest() {
        sentences.about(33, "The SEAT of most LIGHT now (what 0), of alike ones the first, that LIGHT (1); NONE both: there are no SEATS.");
        StillYear bare = Checks.in("sitter 1 1;");
        both("no seats", bare.brightest(0), bare.brightest(1), StillYear.NONE, StillYear.NONE);
        StillYear x = Checks.in(Checks.times(8, "seat 0;"));
        both("no light", x.brightest(0), x.brightest(1), 0, 0);
        Checks.work(x, "curtain 7 1;");
        both("the last", x.brightest(0), x.brightest(1), 7, 1);
        Checks.work(x, "curtain 6 1;");
        both("alike ones", x.brightest(0), x.brightest(1), 6, 1);
        Checks.work(x, "curtain 7 9;");
        both("the most light", x.brightest(0), x.brightest(1), 7, 9);
        Checks.work(x, "curtain 7 0;");
        both("now it is dark there", x.brightest(0), x.brightest(1), 6, 1);
    }

    private void empty() {
        sentences.about(34, "SEATS (bits) on which nobody sits (what 0), on which there is nothing (1).");
        StillYear bare = new StillYear();
        both("no seats", bare.empty(0), bare.empty(1), 0, 0);
        StillYear x = Checks.in(FULL);
        both("all", x.empty(0), x.empty(1), 255, 255);
        Checks.work(x, "sit 5 7;sit 0 0;");
        both("they just sat down", x.empty(0), x.empty(1), 126, 255);
        Checks.work(x, "day;rise 0;rise 5;");
        both("they rose", x.empty(0), x.empty(1), 255, 126);
        StillYear full = Checks.in("seat 1;seat 1;sitter 1 60;sitter 1 60;");
        Checks.work(full, "sit 0 0;sit 1 1;day;");
        both("none", full.empty(0), full.empty(1), 0, 0);
        StillYear dark = Checks.in("seat 0;sitter 1 60;");
        Checks.work(dark, "sit 0 0;day;");
        both("a mark of 0 is nothing", dark.empty(0), dark.empty(1), 0, 1);
    }

    // ---- promises 37, 38, 40

    private void absent() {
        sentences.about(37, "SITTERS (bits) of whom there is nothing anywhere.");
        Checks.due("no sitters", Checks.in("seat 1;").absent(), 0);
        StillYear x = Checks.in(FULL);
        Checks.due("all", x.absent(), 63);
        Checks.work(x, "sit 5 7;");
        Checks.due("he just sat down", x.absent(), 63);
        Checks.work(x, "day;");
        Checks.due("1 on the last seat is something", x.absent(), 31);
        Checks.work(x, "rise 5;");
        Checks.due("it stays", x.absent(), 31);
        Checks.due("none", sixOnOne().absent(), 0);
    }

    private void crowd() {
        sentences.about(38, "How many SITTERS there is anything of on a SEAT.");
        StillYear x = Checks.in(FULL);
        Checks.work(x, "sit 5 7;");
        Checks.due("he just sat down", x.crowd(7), 0);
        Checks.work(x, "day;");
        Checks.due("one", x.crowd(7), 1);
        Checks.work(x, "rise 5;sit 0 7;day;");
        Checks.due("two", x.crowd(7), 2);
        Checks.due("none beside", x.crowd(6), 0);
        Checks.due("all", sixOnOne().crowd(0), 6);
        Checks.due("no sitters", Checks.in("seat 1;").crowd(0), 0);
    }

    private void lead() {
        sentences.about(40, "How much more there is on a SEAT of the SITTER of most than of the next one "
            + "(alike ones: 0; all of his, if there are no others).");
        StillYear x = Checks.in("seat 1;seat 2;sitter 1 60;sitter 3 60;sitter 2 60;");
        Checks.due("nothing", x.lead(0), 0);
        Checks.work(x, "sit 2 0;day;");
        Checks.due("no others", x.lead(0), 2);
        Checks.work(x, "rise 2;sit 0 0;day;");
        Checks.due("2 and 1", x.lead(0), 1);
        Checks.work(x, "day;");
        Checks.due("alike ones", x.lead(0), 0);
        Checks.work(x, "rise 0;sit 1 0;day;");
        Checks.due("3, and two of 2", x.lead(0), 1);
        Checks.work(x, "day;");
        Checks.due("6, and two of 2", x.lead(0), 4);
        Checks.due("nothing on the other one", x.lead(1), 0);
        Checks.due("alike ones all", sixOnOne().lead(0), 0);
        Checks.due("nothing on the last one", sixOnOne().lead(7), 0);
        StillYear last = Checks.in(FULL);
        Checks.work(last, "sit 5 7;sit 0 6;sit 1 5;day;");
        Checks.due("the last on the last", last.lead(7), 1);
        Checks.due("the first on the one ahead of it", last.lead(6), 1);
        Checks.due("nobody on the one ahead of those", last.lead(4), 0);
        Checks.due("no sitters", Checks.in("seat 1;").lead(0), 0);
        StillYear one = Checks.in("seat 3;sitter 3 60;");
        Checks.work(one, "sit 0 0;day;");
        Checks.due("there is no other sitter", one.lead(0), 9);
    }
}
