import java.math.BigInteger;

/** The terms' bounds of what is asked: SEEN, SELVES, WHEN, MEALS, GOINGS, BRIGHT, PLACES, PACKING, WELL, GETS UP, FOOD, SEASON, DRAW. */
final class BoundsOfAsking {
    private static final String EIGHT = Checks.times(8, "seat 1;") + "sitter 1 9;";

    private final Sentences sentences;

    BoundsOfAsking(Sentences sentences) {
        this.sentences = sentences;
    }

    void run() {
        nothingStaysChanged();
        beyondTheLastDay();
        seen();
        selves();
        whenSeen();
        meals();
        goings();
        firstDay();
        neverOnMarkNone();
        rowsOfSeats();
        lengthOfGoings();
        bright();
        mostTogether();
        firstOfAlikePlaces();
        fewerSeats();
        fewestYears();
        firstOfAlikePackings();
        longerThanAYear();
        well();
        getsUp();
        food();
        seasons();
        draws();
    }

    private void about(String sentence) {
        sentences.about("Terms", sentence);
    }

    // ---- asking

    private void nothingStaysChanged() {
        about("Asked, nothing stays changed;");
        StillYear x = Checks.livedIn(Checks.HOUSE);
        Checks.work(x, "sit 1 2;day;rise 0;rise 0;");
        x.feed(1, 2, 3, 4, 5);
        String before = Checks.allOf(x);
        for (int sitter = 0; sitter < 2; sitter++) {
            x.mark(sitter);
            x.when(sitter);
            x.meals(sitter, 400);
            x.placed(sitter);
            x.rising(sitter);
            x.gains(sitter, 1);
            x.food(sitter, 3, 1);
        }
        for (int what = 0; what < 3; what++) {
            x.ahead(99, what);
            x.season(7, 16, 96, what);
            x.span(7, 20, 16, 96, what);
        }
        for (int what = 0; what < 2; what++) {
            x.darkest(what);
            x.stillest(what);
            x.stains(what);
            x.hungriest(what);
            x.brightest(what);
            x.empty(what);
            x.share(0, 0, what);
            x.well(3, 12, what);
        }
        x.season(7, 16, 96, 3);
        x.places();
        x.packing();
        x.packed(3);
        x.need(400);
        x.absent();
        x.crowd(0);
        x.lead(0);
        x.getsUp(1, 2, 3, 0);
        Checks.same("what asking leaves", Checks.allOf(x), before);
    }

    private void beyondTheLastDay() {
        about("DAYS go by as by day (beyond 800, too).");
        StillYear x = Checks.in("seat 1;sitter 1 60;food 1;");
        for (int i = 0; i < 13; i++) {
            Checks.work(x, "again 60[day;];");
        }
        Checks.work(x, "again 20[day;];feed 0;sit 0 0;");
        Checks.law(x, "day-790");
        Checks.due("the day", x.told(3), 800);
        Checks.due("day 800", x.ahead(1, 0), 10);
        Checks.due("days 800 and 801", x.ahead(2, 0), 10 + 11);
        Checks.due("a season of them", x.season(1, 0, 2, 0), 10 + 11);
        Checks.due("a span of them", x.span(1, 2, 0, 2, 1), 10 + 11);
        Checks.due("he sits 60 days beyond", x.ahead(60, 1), 1);
        Checks.due("and not 61", x.ahead(61, 1), 0);
        Checks.law(x, "day/803");
        Checks.due("when, beyond", x.when(0), 4);
        StillYear y = Checks.in("seat 4;seat 2;sitter 3 2;sitter 5 4;");
        Checks.work(y, "sit 0 0;sit 1 1;");
        for (int n = 1; n <= 6; n++) {
            int all = y.ahead(n, 0);
            int sits = y.ahead(n, 1);
            int unseen = y.ahead(n, 2);
            Checks.work(y, "again " + n + "[day;];");
            Checks.due("on the plate in " + n, y.told(8), all);
            Checks.due("who sits in " + n, y.told(5), sits);
            Checks.due("who is unseen in " + n, y.told(9), unseen);
            y.undo();
        }
    }

    // ---- who is seen

    private void seen() {
        about("SEEN on a SEAT: the SITTER of whom there is more than half of all there is on it; NONE.");
        StillYear x = Checks.in("seat 1;seat 1;sitter 1 60;sitter 1 60;sitter 1 60;");
        Checks.due("nothing is on it", x.seat(0, 3), StillYear.NONE);
        Checks.work(x, "sit 0 0;day;");
        Checks.due("1 of 1", x.seat(0, 3), 0);
        Checks.work(x, "rise 0;sit 2 0;day;");
        Checks.due("1 of 2, the half", x.seat(0, 3), StillYear.NONE);
        Checks.work(x, "day;");
        Checks.due("2 of 3", x.seat(0, 3), 2);
        Checks.work(x, "rise 2;sit 1 0;day;");
        Checks.due("2 of 4, the most but the half", x.seat(0, 3), StillYear.NONE);
        Checks.work(x, "rise 1;sit 2 0;day;");
        Checks.due("3 of 5", x.seat(0, 3), 2);
        Checks.due("nothing on the other one", x.seat(1, 3), StillYear.NONE);
        Checks.law(x, "99");
        Checks.work(x, "rise 2;feed 0;feed 1;sit 0 0;sit 1 1;again 59[day;];feed 0;feed 1;");
        Checks.work(x, "again 60[day;];feed 0;feed 1;rise 0;sit 1 0;again 60[day;];feed 1;again 60[day;];");
        Checks.due("as much as there may be of both, and a little", x.plate(0, 0) + x.plate(0, 1), 9999 + 9999);
        Checks.due("none has more than half", x.seat(0, 3), StillYear.NONE);
    }

    private void selves() {
        about("SELVES of a SITTER: SEATS on which there is anything of him.");
        StillYear x = Checks.in(Checks.times(8, "seat 1;") + "sitter 1 60;sitter 9 60;");
        Checks.due("none", x.sitter(0, 5), 0);
        Checks.work(x, "sit 0 7;day;sit 0 6;");
        Checks.due("1 on the last; he sits on another one", x.sitter(0, 5), 128);
        Checks.work(x, "sit 1 7;rise 0;sit 1 0;day;");
        Checks.due("another one's do not count", x.sitter(0, 5), 128);
        Checks.work(x, "rise 1;again 1[sit 0 0;day;sit 0 1;day;sit 0 2;day;sit 0 3;day;];");
        Checks.work(x, "sit 0 4;day;sit 0 5;day;sit 0 6;day;");
        Checks.due("all", x.sitter(0, 5), 255);
    }

    private void whenSeen() {
        about("WHEN of a SITTER: in how many DAYS (0: now; 200 at most), nothing being done, he is SEEN on the SEAT he sits on now; "
            + "NONE (also: he does not sit).");
        StillYear x = Checks.in("seat 1;seat 1;sitter 1 60;sitter 1 60;food 99;");
        Checks.due("he does not sit", x.when(0), StillYear.NONE);
        Checks.work(x, "sit 0 0;");
        Checks.due("in 1", x.when(0), 1);
        Checks.work(x, "day;");
        Checks.due("now", x.when(0), 0);
        Checks.work(x, "rise 0;");
        Checks.due("seen, but he sits no more", x.when(0), StillYear.NONE);
        Checks.work(x, "sit 0 1;");
        Checks.due("seen on another seat than his", x.when(0), 1);
        // nobody sits longer than 61 DAYS without a meal, so that 61 are the most that can come
        Checks.work(x, "sit 0 0;again 59[day;];rise 0;feed 1;sit 1 0;");
        Checks.due("60 against him", x.plate(0, 0), 60);
        Checks.due("more than half by his last day", x.when(1), 61);
        Checks.work(x, "rise 1;feed 0;sit 0 0;day;rise 0;feed 1;sit 1 0;");
        Checks.due("61 against him", x.when(1), StillYear.NONE);
        Checks.law(x, "0");
        Checks.due("he leaves nothing", x.when(1), StillYear.NONE);
    }

    private void meals() {
        about("MEALS of a SITTER for n DAYS: how often he must be fed, from now on, at any time, "
            + "that he does not rise by hunger in n DAYS, at the least.");
        int[] fasts = {1, 2, 7, 60};
        int[] hungers = {0, 1, 2, 6, 7, 8, 59, 60, 61, 99};
        for (int fast : fasts) {
            for (int hunger : hungers) {
                StillYear x = Checks.in("seat 1;sitter 1 " + fast + ";");
                Checks.work(x, "again " + hunger / 2 + "[day;];again " + (hunger - hunger / 2) + "[day;];");
                for (int n = 0; n <= 400; n += n < 130 ? 1 : 27) {
                    Checks.due("N " + fast + ", hunger " + hunger + ", " + n + " days", x.meals(0, n), fedWhenHeMust(fast, hunger, n));
                }
            }
        }
    }

    private static int fedWhenHeMust(int fast, int hungerNow, int days) {
        int fed = 0;
        int hunger = hungerNow;
        for (int day = 0; day < days; day++) {
            if (hunger + 1 > fast) {
                hunger = 0;
                fed++;
            }
            hunger++;
        }
        return fed;
    }

    // ---- GOINGS and BRIGHT

    private static void going(String what, StillYear x, int sitter, int ways, int length) {
        Checks.due(what + ", ways", x.goings(sitter, 0), ways);
        Checks.due(what + ", length", x.goings(sitter, 1), length);
    }

    private void goings() {
        about("GOINGS of a SITTER: in how many ways he can have sat, one SEAT each DAY, so that there is just of him what the BOOK tells, "
            + "nothing on other SEATS than those in lines,");
        StillYear x = Checks.in("seat 2;seat 5;seat 3;sitter 1 9;");
        going("no book", x, 0, 1, 0);
        Checks.book(x, "0 2;");
        going("one day", x, 0, 1, 1);
        Checks.book(x, "0 1;");
        going("less than a day's mark", x, 0, 0, StillYear.NONE);
        Checks.book(x, "0 3;");
        going("a day and a half", x, 0, 0, StillYear.NONE);
        Checks.book(x, "0 2;1 5;2 3;");
        going("a day on each", x, 0, 6, 3);
        Checks.book(x, "0 2;1 0;2 3;");
        going("nothing on the one in the middle", x, 0, 2, 2);
        Checks.book(x, "0 9998;");
        going("many days, one way", x, 0, 1, 4999);
        Checks.book(x, "0 9999;");
        going("9,999 by marks of 2", x, 0, 0, StillYear.NONE);
        Checks.book(x, "2 9999;");
        going("9,999 by marks of 3", x, 0, 1, 3333);
        Checks.book(x, "0 2;1 6;");
        going("one line can't be, none can", x, 0, 0, StillYear.NONE);
        Checks.book(x, "");
        going("an empty book", x, 0, 1, 0);
        StillYear bare = Checks.in("sitter 1 1;");
        going("no seats", bare, 0, 1, 0);
    }

    private void firstDay() {
        about("each DAY by the MARK he would leave there now on a first DAY (still 0, hunger 0, no others, DAY 0);");
        StillYear x = Checks.in("seat 2;seat 5;sitter 1 60;sitter 3 60;");
        Checks.work(x, "sit 0 0;sit 1 1;day;day;");
        Checks.book(x, "0 12;");
        String[] none = {"still", "hunger", "others", "day"};
        for (String name : none) {
            Checks.law(x, name + "*5+6");
            going(name + " is 0", x, 0, 1, 2);
            Checks.law(x, name);
            going("nothing by " + name, x, 0, 0, StillYear.NONE);
        }
        Checks.law(x, "dark*4");
        going("his own dark", x, 1, 1, 1);
        Checks.law(x, "light*3");
        going("light", x, 0, 1, 2);
        Checks.work(x, "curtain 0 4;");
        going("light now", x, 0, 1, 1);
        Checks.law(x, "100");
        Checks.book(x, "1 99;");
        going("99 at most", x, 0, 1, 1);
    }

    private void neverOnMarkNone() {
        about("on SEATS where that MARK is 0 he never sat;");
        StillYear x = Checks.in("seat 0;seat 1;sitter 1 9;");
        Checks.book(x, "0 0;1 2;");
        going("nothing there", x, 0, 1, 2);
        Checks.book(x, "0 1;1 2;");
        going("1 there", x, 0, 0, StillYear.NONE);
        Checks.book(x, "0 0;");
        going("nothing at all", x, 0, 1, 0);
        Checks.law(x, "0-1");
        Checks.book(x, "1 1;");
        going("a mark below 0 is 0", x, 0, 0, StillYear.NONE);
    }

    private void rowsOfSeats() {
        about("ways are rows of SEATS, DAY by DAY; cut at 1,000,000,000;");
        StillYear x = Checks.in(EIGHT);
        Checks.book(x, "0 1;1 1;");
        going("two rows", x, 0, 2, 2);
        Checks.book(x, "0 2;1 1;");
        going("three rows", x, 0, 3, 3);
        Checks.book(x, "0 1;1 1;2 1;3 1;4 1;5 1;6 1;7 1;");
        going("8!", x, 0, 40320, 8);
        Checks.book(x, "0 1815;1 3;");
        going("C(1818, 3)", x, 0, choose(1818, 3), 1818);
        Checks.book(x, "0 1816;1 3;");
        going("C(1819, 3)", x, 0, choose(1819, 3), 1819);
        Checks.book(x, "0 1817;1 3;");
        going("C(1820, 3)", x, 0, choose(1820, 3), 1820);
        Checks.book(x, "3 3;5 1817;");
        going("C(1820, 3) by other seats", x, 0, choose(1820, 3), 1820);
        Checks.book(x, "0 9999;1 9999;2 9999;3 9999;4 9999;5 9999;6 9999;7 9999;");
        going("as many as there may be", x, 0, 1000000000, 79992);
        Checks.book(x, "0 9999;1 9999;2 1;");
        going("cut, and more", x, 0, 1000000000, 19999);
        Checks.book(x, "0 1;1 9999;2 9999;");
        going("cut late", x, 0, 1000000000, 19999);
    }

    private static int choose(int days, int chosen) {
        BigInteger ways = BigInteger.ONE;
        for (int i = 1; i <= chosen; i++) {
            ways = ways.multiply(BigInteger.valueOf(days - chosen + i)).divide(BigInteger.valueOf(i));
        }
        return ways.min(BigInteger.valueOf(1000000000)).intValueExact();
    }

    private void lengthOfGoings() {
        about("LENGTH of them: how many DAYS they are; NONE without a way.");
        StillYear x = Checks.in("seat 9;seat 1;sitter 1 9;");
        Checks.due("no lines", x.goings(0, 1), 0);
        Checks.book(x, "0 9;1 9;");
        Checks.due("1 and 9", x.goings(0, 1), 10);
        Checks.book(x, "0 9;1 9999;");
        Checks.due("1 and 9,999", x.goings(0, 1), 10000);
        Checks.book(x, "0 8;1 9;");
        Checks.due("no way", x.goings(0, 1), StillYear.NONE);
        Checks.due("no way, none", x.goings(0, 0), 0);
    }

    private void bright() {
        about("BRIGHT of a SITTER: the SEAT in no line on which that MARK of his is most, of alike ones the first.");
        StillYear x = Checks.in("seat 2;seat 5;seat 5;seat 0;sitter 4 9;sitter 1 9;");
        Checks.due("of alike ones the first", x.bright(0), 1);
        Checks.book(x, "1 0;");
        Checks.due("a line that tells 0 is one", x.bright(0), 2);
        Checks.book(x, "1 7;2 7;");
        Checks.due("the third", x.bright(0), 0);
        Checks.book(x, "0 7;1 7;2 7;");
        Checks.due("a mark of 0 may be the most", x.bright(0), 3);
        Checks.book(x, "");
        Checks.law(x, "100+seat");
        Checks.due("99 at most: all are alike", x.bright(0), 0);
        Checks.law(x, "0-seat");
        Checks.due("0 at least: all are alike", x.bright(0), 0);
        Checks.law(x, "seat*sitter");
        Checks.due("by his own number", x.bright(1), 3);
        Checks.law(x, "light");
        Checks.work(x, "curtain 3 9;sit 1 3;");
        Checks.due("by the light now, though somebody sits there", x.bright(0), 3);
    }

    // ---- PLACES and PACKING

    private static void placed(StillYear x, int together, int... seats) {
        Checks.due("places()", x.places(), together);
        for (int i = 0; i < seats.length; i++) {
            Checks.due("placed(" + i + ")", x.placed(i), seats[i]);
        }
    }

    private void mostTogether() {
        about("PLACES: of all ways to let all SITTERS sit on unlike SEATS that by which the MARKS of a first DAY "
            + "(as in GOINGS, LIGHT as now) together are most;");
        placed(Checks.in("seat 2;seat 9;seat 5;sitter 1 1;sitter 9 1;"), 5 + 81, 2, 1);
        StillYear x = Checks.in("seat 2;seat 9;sitter 1 60;sitter 2 60;");
        placed(x, 2 + 18, 0, 1);
        Checks.law(x, "(1-seat)*(60-5*sitter)+seat*(1-sitter)*50");
        placed(x, 105, 1, 0);
        Checks.law(x, "light+still+hunger+others+day");
        Checks.work(x, "sit 0 0;sit 1 1;day;");
        placed(x, 11, 0, 1);
        Checks.work(x, "curtain 0 8;");
        placed(x, 17, 0, 1);
        StillYear most = Checks.in(Checks.times(8, "seat 9;") + Checks.times(6, "sitter 9 9;"));
        Checks.law(most, "100");
        placed(most, 6 * 99, 0, 1, 2, 3, 4, 5);
        Checks.law(most, "(seat+sitter)/7*(7/(seat+sitter))*9");
        placed(most, 54, 7, 6, 5, 4, 3, 2);
        Checks.law(most, "seat/2*9");
        placed(most, 3 * 9 * 2 + 2 * 9 * 2 + 9 * 2, 2, 3, 4, 5, 6, 7);
    }

    private void firstOfAlikePlaces() {
        about("of alike ways the first (SITTER by SITTER the least SEAT);");
        placed(Checks.in("seat 3;seat 3;seat 1;seat 3;sitter 2 1;sitter 2 1;sitter 2 1;"), 18, 0, 1, 3);
        placed(Checks.in("seat 1;seat 3;seat 3;sitter 2 1;sitter 2 1;"), 12, 1, 2);
        placed(Checks.in("seat 0;seat 0;sitter 2 1;sitter 2 1;"), 0, 0, 1);
        StillYear x = Checks.in("seat 1;seat 1;sitter 1 1;sitter 1 1;");
        Checks.law(x, "sitter*5+seat");
        placed(x, 6, 0, 1);
    }

    private void fewerSeats() {
        about("NONE: there are fewer SEATS.");
        placed(Checks.in("sitter 1 1;"), StillYear.NONE, StillYear.NONE);
        placed(Checks.in("seat 1;sitter 1 1;sitter 1 1;"), StillYear.NONE, StillYear.NONE, StillYear.NONE);
        placed(Checks.in("seat 1;seat 2;sitter 1 1;sitter 1 1;"), 3, 0, 1);
        placed(Checks.in(Checks.times(5, "seat 1;") + Checks.times(6, "sitter 1 1;")), StillYear.NONE, StillYear.NONE);
        placed(Checks.in(Checks.times(6, "seat 1;") + Checks.times(6, "sitter 1 1;")), 6, 0, 1, 2, 3, 4, 5);
    }

    private static void packed(String studio, int years, int... year) {
        StillYear x = Checks.in(studio);
        Checks.due("packing() of " + studio, x.packing(), years);
        for (int i = 0; i < year.length; i++) {
            Checks.due("packed(" + i + ") of " + studio, x.packed(i), year[i]);
        }
    }

    private void fewestYears() {
        about("PACKING: of all ways to lay SITTINGS in YEARS, no YEAR holding more days than it has, that by which YEARS are fewest;");
        packed("sitting 365;", 1, 0);
        packed("sitting 1;sitting 1;year 1;", 2, 0, 1);
        packed("sitting 5;sitting 5;year 10;", 1, 0, 0);
        packed("sitting 5;sitting 6;year 10;", 2, 0, 1);
        packed("sitting 364;sitting 1;", 1, 0, 0);
        packed("sitting 365;sitting 1;", 2, 0, 1);
        // the first year with room for each makes three
        packed("sitting 5;sitting 4;sitting 6;sitting 5;year 10;", 2, 0, 1, 1, 0);
        packed(Checks.times(8, "sitting 400;") + "year 400;", 8, 0, 1, 2, 3, 4, 5, 6, 7);
        packed(Checks.times(8, "sitting 50;") + "year 400;", 1, 0, 0, 0, 0, 0, 0, 0, 0);
        packed(Checks.times(8, "sitting 50;") + "year 399;", 2, 0, 0, 0, 0, 0, 0, 0, 1);
        packed(Checks.times(8, "sitting 201;") + "year 400;", 8, 0, 1, 2, 3, 4, 5, 6, 7);
        packed(Checks.times(8, "sitting 200;") + "year 400;", 4, 0, 0, 1, 1, 2, 2, 3, 3);
    }

    private void firstOfAlikePackings() {
        about("of alike ways the first (SITTING by SITTING the least YEAR, numbered from 0 on);");
        packed("sitting 4;sitting 4;sitting 4;year 10;", 2, 0, 0, 1);
        packed("sitting 6;sitting 6;sitting 4;sitting 4;year 10;", 2, 0, 1, 0, 1);
        packed("sitting 4;sitting 1;sitting 6;sitting 5;sitting 4;year 10;", 2, 0, 0, 1, 0, 1);
        packed("sitting 9;sitting 1;sitting 9;sitting 1;year 10;", 2, 0, 0, 1, 1);
    }

    private void longerThanAYear() {
        about("NONE: one is longer than a YEAR.");
        packed("sitting 366;", StillYear.NONE, StillYear.NONE);
        packed("sitting 1;sitting 9;year 8;", StillYear.NONE, StillYear.NONE, StillYear.NONE);
        packed("sitting 9;sitting 1;year 8;", StillYear.NONE, StillYear.NONE, StillYear.NONE);
        packed("sitting 400;year 400;", 1, 0);
        packed("sitting 400;year 399;", StillYear.NONE, StillYear.NONE);
        packed("sitting 2;year 1;", StillYear.NONE, StillYear.NONE);
        packed(Checks.times(7, "sitting 1;") + "sitting 9;year 8;", StillYear.NONE, StillYear.NONE);
    }

    // ---- WELL, GETS UP, FOOD

    private void well() {
        about("WELL by q, n: each DAY he falls ill by q of 16: how likely he does not in n DAYS.");
        StillYear x = new StillYear();
        for (int q = 0; q <= 16; q++) {
            for (int n = 0; n <= 12; n++) {
                BigInteger above = BigInteger.valueOf(16 - q).pow(n);
                BigInteger below = BigInteger.valueOf(16).pow(n);
                BigInteger common = above.gcd(below);
                Checks.due("well(" + q + ", " + n + ", 0)", x.well(q, n, 0), above.divide(common).longValueExact());
                Checks.due("well(" + q + ", " + n + ", 1)", x.well(q, n, 1), below.divide(common).longValueExact());
            }
        }
    }

    private static void gets(int a, int b, int c, int many, int first, int together) {
        StillYear x = new StillYear();
        String call = "getsUp(" + a + ", " + b + ", " + c + ", ";
        Checks.due(call + "0)", x.getsUp(a, b, c, 0), many);
        Checks.due(call + "1)", x.getsUp(a, b, c, 1), first);
        Checks.due(call + "2)", x.getsUp(a, b, c, 2), together);
    }

    private void getsUp() {
        about("GETS UP by a, b, c: two sit; each stays or gets up: both stay: each has a; both get up: each has b; "
            + "one gets up: he has c, the other one 0; RESTS: neither would have more by the other thing.");
        gets(0, 0, 0, 4, 0, 0);
        gets(5, 0, 5, 4, 0, 10);
        gets(5, 1, 5, 2, 0, 10);
        gets(5, 0, 6, 3, 1, 6);
        gets(5, 1, 6, 1, 11, 2);
        gets(5, 0, 4, 2, 0, 10);
        gets(5, 1, 4, 2, 0, 10);
        gets(99, 99, 99, 2, 0, 198);
        gets(99, 0, 99, 4, 0, 198);
        gets(98, 0, 99, 3, 1, 99);
        gets(98, 99, 99, 1, 11, 198);
        gets(0, 99, 0, 2, 0, 0);
        gets(0, 99, 1, 1, 11, 198);
    }

    private void food() {
        about("FOOD of n among told SITTERS (bits) by hunger: no more than that each, no more than a bound, "
            + "the greatest by which no more than n are given (all, if they are no more).");
        StillYear x = Checks.in("sitter 1 1;sitter 1 1;sitter 1 1;");
        Checks.work(x, "again 4[day;];feed 1;day;day;feed 2;day;");
        // hungers 7, 3, 1: by a bound of 0, 1, 2, 3, .. so many are given: 0, 3, 5, 7, 8, 9, 10, 11
        int[][] want = {{0, 0, 0, 0}, {2, 0, 0, 0}, {3, 1, 1, 1}, {4, 1, 1, 1}, {5, 2, 2, 1}, {6, 2, 2, 1}, {7, 3, 3, 1},
            {8, 4, 3, 1}, {9, 5, 3, 1}, {10, 6, 3, 1}, {11, 7, 3, 1}, {12, 7, 3, 1}, {999, 7, 3, 1}};
        for (int[] row : want) {
            for (int sitter = 0; sitter < 3; sitter++) {
                Checks.due("food(" + sitter + ", 7, " + row[0] + ")", x.food(sitter, 7, row[0]), row[1 + sitter]);
            }
        }
        Checks.due("two of them", x.food(0, 5, 5), 4);
        Checks.due("one of them", x.food(0, 1, 5), 5);
        Checks.due("one of them, all", x.food(0, 1, 7), 7);
        StillYear y = Checks.in(Checks.times(6, "sitter 1 1;"));
        Checks.due("nobody is hungry", y.food(5, 63, 999), 0);
        Checks.work(y, "again 60[day;];again 60[day;];");
        Checks.due("594 are all", y.food(5, 63, 594), 99);
        Checks.due("593 are not", y.food(5, 63, 593), 98);
        Checks.due("one each", y.food(5, 63, 6), 1);
        Checks.due("not one each", y.food(0, 63, 5), 0);
    }

    // ---- SEASON and DRAW

    private static final int[] SEEDS = {0, 1, -1, 12345, Integer.MAX_VALUE, Integer.MIN_VALUE, Integer.MIN_VALUE + 1, 1 << 16, 777777777};

    /** DRAWS by numbers that do not wrap by themselves. */
    private static final class Draw {
        private long seed;

        Draw(int seed) {
            this.seed = seed & 0xFFFFFFFFL;
        }

        int by(int many) {
            seed = (seed * 1103515245L + 12345L) % (1L << 32);
            return (int) (seed / (1L << 16) % (1L << 15) % many);
        }
    }

    /** One DAY of a SEASON as WORK. */
    private static String drawn(Draw draw, int sitters, int seats, int q) {
        if (sitters == 0) {
            return "day;";
        }
        int sitter = draw.by(sitters);
        String sit = seats == 0 ? "" : "sit " + sitter + " " + draw.by(seats) + ";";
        String feed = draw.by(16) < q ? "feed " + sitter + ";" : "";
        return sit + feed + "day;";
    }

    /** What is asked must be what comes if all that is DRAWN is done as WORK. */
    private static void season(String studio, int seed, int q, int days) {
        StillYear x = Checks.in(studio);
        int[] asked = new int[4];
        for (int what = 0; what < 4; what++) {
            asked[what] = x.season(seed, q, days, what);
        }
        Draw draw = new Draw(seed);
        StringBuilder text = new StringBuilder();
        for (int day = 0; day < days; day++) {
            String more = drawn(draw, x.told(1), x.told(0), q);
            if (text.length() + more.length() > 150) {
                Checks.work(x, text.toString());
                text.setLength(0);
            }
            text.append(more);
        }
        Checks.work(x, text.toString());
        Checks.due("the days that were done", x.told(3), days);
        String of = studio + " by seed " + seed + ", q " + q + ", " + days + " days: ";
        Checks.due(of + "0", asked[0], x.told(8));
        Checks.due(of + "1", asked[1], x.told(5));
        Checks.due(of + "2", asked[2], x.told(4));
        Checks.due(of + "3", asked[3], x.told(9));
    }

    private void seasons() {
        about("SEASON by a SEED: for so many DAYS: DRAW by how many SITTERS there are, DRAW by how many SEATS: sit (if it can be done;");
        for (int seed : SEEDS) {
            season("seat 4;seat 2;seat 7;sitter 3 9;sitter 1 2;food 4;", seed, 5, 40);
            season(Checks.times(8, "seat 3;") + Checks.times(6, "sitter 2 60;"), seed, 0, 96);
            season("seat 3;sitter 2 60;", seed, 3, 1);
        }
        about("without SEATS no SEAT is DRAWN, nobody sits);");
        for (int seed : SEEDS) {
            season("sitter 3 9;sitter 1 2;food 40;", seed, 8, 40);
        }
        about("DRAW by 16 below Q: feed of this SITTER (if it can); then day.");
        for (int seed : SEEDS) {
            for (int q = 0; q <= 16; q += q == 1 || q == 14 ? 13 : 1) {
                season("seat 4;seat 2;sitter 3 9;sitter 1 2;sitter 1 1;food 9;", seed, q, 20);
            }
            season("seat 4;seat 2;sitter 3 9;sitter 1 2;food 99;", seed, 16, 96);
            season("seat 4;seat 2;sitter 3 9;sitter 1 2;food 0;", seed, 16, 50);
        }
        about("Without SITTERS nothing is DRAWN, DAYS go by.");
        for (int seed : SEEDS) {
            season("seat 1;food 9;", seed, 16, 96);
            season("", seed, 16, 1);
        }
    }

    private void draws() {
        about("DRAW: the SEED (32 bits) becomes itself times 1,103,515,245, and 12,345 (it wraps); its bits 16 to 30, what is left of them.");
        // known rows: of seed 1 these are 16838, 5758, 10113; of seed 0 they are 0, 21468, 9988
        Draw one = new Draw(1);
        Checks.due("seed 1, first", one.by(32768), 16838);
        Checks.due("seed 1, second", one.by(32768), 5758);
        Checks.due("seed 1, third", one.by(32768), 10113);
        Draw none = new Draw(0);
        Checks.due("seed 0, first", none.by(32768), 0);
        Checks.due("seed 0, second", none.by(32768), 21468);
        Checks.due("seed 0, third", none.by(32768), 9988);
        StillYear x = Checks.in(Checks.times(7, "seat 1;") + Checks.times(5, "sitter 1 9;"));
        Checks.law(x, "1+seat*5+sitter*40");
        Checks.due("seed 1: sitter 16838 % 5, seat 5758 % 7", x.season(1, 0, 1, 0), Math.min(99, 1 + 5758 % 7 * 5 + 16838 % 5 * 40));
        Checks.due("seed 0: sitter 0, seat 21468 % 7", x.season(0, 0, 1, 0), 1 + 21468 % 7 * 5);
        Checks.due("seed 0: who sits", x.season(0, 0, 1, 1), 1);
        Checks.due("seed 1: who sits", x.season(1, 0, 1, 1), 1 << 16838 % 5);
        // bit 31 is no part of it, so that a seed and the same one by bit 31 more draw alike
        for (int seed : SEEDS) {
            Checks.due("bit 31 of " + seed, x.season(seed, 8, 96, 0), x.season(seed ^ Integer.MIN_VALUE, 8, 96, 0));
        }
        for (int seed = -50; seed <= 50; seed++) {
            season(Checks.times(7, "seat 1;") + Checks.times(5, "sitter 1 9;"), seed, 7, 4);
        }
    }
}
