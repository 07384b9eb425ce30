/** The terms' bounds of the STEPS and the DAY. */
final class BoundsOfSteps {
    private static final String TWO = "seat 2;seat 5;sitter 4 60;sitter 1 60;food 3;";
    private static final String FULL = Checks.times(8, "seat 9;") + Checks.times(6, "sitter 9 60;");

    private final Sentences sentences;

    BoundsOfSteps(Sentences sentences) {
        this.sentences = sentences;
    }

    void run() {
        atFirst();
        inOrder();
        refusedChangesNothing();
        twoHundred();
        againsAreBegun();
        refusedAreBegun();
        leftOut();
        sit();
        rise();
        feed();
        curtain();
        lastDay();
        marksAsTheDayBegins();
        mostOfOne();
        stillLonger();
        hunger();
        risesByHunger();
        dayIsOneMore();
    }

    private void about(String sentence) {
        sentences.about("Terms", sentence);
    }

    private static void work(StillYear x, String text, int done, int refused) {
        Checks.fine(x, "work", text, done);
        Checks.due("told(7) behind " + text, x.told(7), refused);
    }

    private void atFirst() {
        about("It is DAY 0 at first, nobody sits, nobody is hungry, the PLATE is empty: of each SITTER on each SEAT there is 0.");
        StillYear x = Checks.in(FULL);
        Checks.due("the day", x.told(3), 0);
        Checks.due("who sits", x.told(5), 0);
        Checks.due("the plate", x.told(8), 0);
        for (int sitter = 0; sitter < 6; sitter++) {
            Checks.due("his seat", x.sitter(sitter, 2), StillYear.NONE);
            Checks.due("his hunger", x.sitter(sitter, 4), 0);
            for (int seat = 0; seat < 8; seat++) {
                Checks.due("of " + sitter + " on " + seat, x.plate(seat, sitter), 0);
            }
        }
        for (int seat = 0; seat < 8; seat++) {
            Checks.due("who is on " + seat, x.seat(seat, 1), StillYear.NONE);
        }
        Checks.work(x, "sit 5 7;sit 0 0;day;");
        Checks.fine(x, "studio", FULL, 6);
        Checks.due("a new studio, the day", x.told(3), 0);
        Checks.due("a new studio, who sits", x.told(5), 0);
        Checks.due("a new studio, hunger", x.hungriest(1), 0);
        Checks.due("a new studio, the plate", x.told(8), 0);
    }

    private void inOrder() {
        about("STEPS are done in order;");
        StillYear x = Checks.in(TWO);
        work(x, "day;sit 0 0;", 2, 0);
        Checks.due("the day came ahead", x.told(8), 0);
        work(x, "sit 0 1;day;sit 0 0;", 3, 0);
        Checks.due("he sat there by day", x.plate(1, 0), 20);
        work(x, "again 2[curtain 0 1;curtain 0 2;];rise 0;day;", 6, 0);
        Checks.due("the last curtain counts", x.seat(0, 0), 2);
        Checks.due("he rose ahead of the day", x.plate(0, 0), 0);
    }

    private void refusedChangesNothing() {
        about("one that can't be done is REFUSED, and changes nothing;");
        String hungry = "sit 0 0;day;feed 1;day;";
        refusedAlone(hungry, "sit 0 0;");
        refusedAlone(hungry, "sit 1 0;");
        refusedAlone(hungry, "rise 1;");
        refusedAlone(hungry, "feed 0;");
        refusedAlone(hungry, "curtain 1 5;");
        refusedAlone("sit 0 0;", "feed 0;");
        refusedAlone("sit 0 0;", "again 60[feed 0;];");
    }

    /** There is one meal. */
    private static void refusedAlone(String ahead, String step) {
        StillYear x = Checks.in("seat 2;seat 5;sitter 4 60;sitter 1 60;food 1;");
        Checks.work(x, ahead);
        Checks.due("refused ahead of " + step, x.told(7), 0);
        String before = Checks.allThatWorkChanges(x);
        work(x, step, 0, step.startsWith("again") ? 60 : 1);
        Checks.same("what " + step + " leaves", Checks.allThatWorkChanges(x), before);
    }

    private void twoHundred() {
        about("200 STEPS at most are begun by one WORK");
        StillYear x = new StillYear();
        // 3 times 61 and 15 are 198, and the day behind is the 199th
        work(x, Checks.times(3, "again 60[day;];") + "again 14[day;];day;", 195, 0);
        x = new StillYear();
        work(x, Checks.times(3, "again 60[day;];") + "again 15[day;];day;", 196, 0);
        x = new StillYear();
        work(x, Checks.times(3, "again 60[day;];") + "again 16[day;];day;", 196, 0);
        x = new StillYear();
        work(x, "again 60[again 60[day;];];", 200 - 1 - 4, 0);
        work(x, Checks.times(3, "again 60[day;];") + "again 60[day;];", 196, 0);
        Checks.due("each work has its own 200", x.told(3), 391);
    }

    private void againsAreBegun() {
        about("(an again, too, each time it is come to;");
        StillYear x = new StillYear();
        work(x, "again 60[again 0[];again 60[];again 1[];];day;", 1, 0);
        x = new StillYear();
        // 1 and 60 times 3, 1 and 18 are 200
        work(x, "again 60[again 0[];again 60[];again 1[];];again 18[again 0[];];day;", 0, 0);
        x = new StillYear();
        work(x, "again 60[again 0[];again 60[];again 1[];];again 17[again 0[];];day;day;", 1, 0);
        x = new StillYear();
        // 49 rounds of 4 are 196, and 1: of the 50th round 3 are begun, 2 of them days
        work(x, "again 60[again 1[day;];day;day;];", 3 * 49 + 2, 0);
    }

    private void refusedAreBegun() {
        about("REFUSED ones, too),");
        StillYear x = Checks.in(TWO);
        work(x, "again 60[rise 0;rise 0;rise 0;];again 16[rise 0;];day;day;day;", 2, 196);
        work(x, "again 60[rise 0;rise 0;rise 0;];again 18[rise 0;];day;", 0, 198);
        work(x, "again 60[rise 0;rise 0;rise 0;];again 17[rise 0;];day;", 1, 197);
    }

    private void leftOut() {
        about("what would come behind is left out.");
        StillYear x = Checks.in(TWO);
        work(x, Checks.times(3, "again 60[day;];") + "again 16[day;];sit 0 0;rise 1;again 9[day;];", 196, 0);
        Checks.due("he does not sit", x.told(5), 0);
        Checks.due("no day more", x.told(3), 196);
        x = Checks.in(TWO);
        work(x, Checks.times(3, "again 60[day;];") + "again 15[day;];again 9[day;];day;", 195, 0);
        Checks.due("the 200th is an again: what stands in it is left out", x.told(3), 195);
        work(x, "day;", 1, 0);
        Checks.due("the next work begins anew", x.told(3), 196);
    }

    private void sit() {
        about("sit: P sits on S, still 0 (REFUSED, if somebody sits there, he too).");
        StillYear x = Checks.in(FULL);
        work(x, "sit 5 7;sit 0 0;day;", 3, 0);
        Checks.due("the last on the last", x.seat(7, 1), 5);
        Checks.due("his seat", x.sitter(5, 2), 7);
        Checks.due("still a day", x.sitter(5, 3), 1);
        work(x, "sit 5 7;", 0, 1);
        Checks.due("he sits there himself: still a day", x.sitter(5, 3), 1);
        work(x, "sit 5 0;", 0, 1);
        Checks.due("somebody sits there: he stays", x.sitter(5, 2), 7);
        Checks.due("somebody sits there: so does he", x.seat(0, 1), 0);
        work(x, "sit 5 6;", 1, 0);
        Checks.due("moved", x.sitter(5, 2), 6);
        Checks.due("moved: still 0", x.sitter(5, 3), 0);
        Checks.due("moved: nobody sits there now", x.seat(7, 1), StillYear.NONE);
        work(x, "sit 1 7;", 1, 0);
        Checks.due("his old seat is another's", x.seat(7, 1), 1);
    }

    private void rise() {
        about("rise: P sits no more (REFUSED, if he does not).");
        StillYear x = Checks.in(TWO);
        work(x, "rise 0;", 0, 1);
        work(x, "sit 0 0;day;rise 0;", 3, 0);
        Checks.due("his seat", x.sitter(0, 2), StillYear.NONE);
        Checks.due("still", x.sitter(0, 3), 0);
        Checks.due("his hunger stays", x.sitter(0, 4), 1);
        Checks.due("what he left stays", x.plate(0, 0), 8);
        work(x, "rise 0;", 0, 1);
    }

    private void feed() {
        about("feed: his hunger is 0, a meal is gone (REFUSED, if it is 0, or there is none).");
        StillYear x = Checks.in("seat 2;sitter 4 60;sitter 1 60;food 2;");
        work(x, "feed 0;", 0, 1);
        Checks.due("not hungry: no meal is gone", x.told(4), 2);
        work(x, "sit 0 0;day;day;feed 0;", 4, 0);
        Checks.due("hunger 2, fed", x.sitter(0, 4), 0);
        Checks.due("he sits on", x.sitter(0, 3), 2);
        Checks.due("a meal is gone", x.told(4), 1);
        work(x, "feed 0;", 0, 1);
        work(x, "feed 1;", 1, 0);
        Checks.due("who does not sit can be fed", x.sitter(1, 4), 0);
        Checks.due("the last meal is gone", x.told(4), 0);
        work(x, "day;feed 0;feed 1;", 1, 2);
        Checks.due("there is none: hunger stays", x.sitter(0, 4), 1);
        StillYear none = Checks.in("sitter 1 1;food 0;");
        work(none, "day;feed 0;", 1, 1);
        StillYear many = Checks.in("sitter 1 1;food 99;");
        work(many, "day;feed 0;", 2, 0);
        Checks.due("99 less one", many.told(4), 98);
    }

    private void curtain() {
        about("curtain: LIGHT of S is L (REFUSED, if it is).");
        StillYear x = Checks.in(Checks.times(7, "seat 0;") + "seat 9;sitter 1 9;");
        work(x, "curtain 0 0;curtain 7 9;", 0, 2);
        work(x, "curtain 0 9;curtain 7 0;", 2, 0);
        Checks.due("0 became 9", x.seat(0, 0), 9);
        Checks.due("9 became 0", x.seat(7, 0), 0);
        Checks.due("another stays", x.seat(1, 0), 0);
        work(x, "curtain 0 9;curtain 0 8;curtain 0 9;", 2, 1);
        work(x, "sit 0 0;curtain 0 7;", 2, 0);
        Checks.due("somebody may sit there", x.mark(0), 7);
    }

    /** It takes 14 WORKS at most. */
    private static StillYear onDay(int day, String studio) {
        StillYear x = Checks.in(studio);
        for (int left = day; left > 0; left -= 60) {
            Checks.work(x, "again " + Math.min(60, left) + "[day;];");
        }
        Checks.due("the day", x.told(3), day);
        return x;
    }

    private void lastDay() {
        about("day (REFUSED on DAY 800):");
        StillYear x = onDay(799, TWO);
        work(x, "sit 0 0;feed 0;day;", 3, 0);
        Checks.due("799 and one", x.told(3), 800);
        Checks.due("he left his mark on day 799", x.told(8), 8);
        StillYear y = onDay(798, TWO);
        work(y, "feed 0;sit 0 0;again 60[day;];", 4, 58);
        Checks.due("no day beyond", y.told(3), 800);
        Checks.due("no mark beyond", y.told(8), 16);
        Checks.due("no hunger beyond", y.sitter(0, 4), 2);
        Checks.due("not stiller beyond", y.sitter(0, 3), 2);
        work(y, "curtain 0 9;rise 0;sit 1 1;day;", 3, 1);
    }

    private void marksAsTheDayBegins() {
        about("each who sits leaves his MARK (by all as the DAY begins;");
        StillYear x = Checks.in("seat 1;seat 1;sitter 1 1;sitter 1 60;sitter 1 60;");
        Checks.law(x, "1+others*2+hunger*10+still*20+day*5");
        work(x, "sit 0 0;sit 1 1;day;", 3, 0);
        Checks.due("of the first", x.plate(0, 0), 3);
        Checks.due("of the second", x.plate(1, 1), 3);
        Checks.due("who does not sit leaves nothing", x.sitter(2, 7), 0);
        work(x, "day;", 1, 0);
        Checks.due("he who rises this day left his mark", x.plate(0, 0), 3 + 3 + 10 + 20 + 5);
        Checks.due("and was one of the others yet", x.plate(1, 1), 3 + 3 + 10 + 20 + 5);
        Checks.due("he rose", x.told(5), 2);
        work(x, "day;", 1, 0);
        Checks.due("alone now", x.plate(1, 1), 41 + 1 + 20 + 40 + 10);
        StillYear y = Checks.in("seat 9;sitter 9 60;");
        Checks.law(y, "0-1");
        work(y, "sit 0 0;day;", 2, 0);
        Checks.due("a mark of 0", y.told(8), 0);
    }

    private void mostOfOne() {
        about("of one SITTER on one SEAT there is 9,999 at most),");
        StillYear x = Checks.in("seat 1;seat 1;sitter 1 60;sitter 1 60;food 99;");
        Checks.law(x, "99");
        work(x, "sit 0 0;again 60[day;];feed 0;again 40[day;];feed 0;", 103, 0);
        Checks.law(x, "98");
        work(x, "day;", 1, 0);
        Checks.due("9,998", x.plate(0, 0), 9998);
        Checks.law(x, "2");
        work(x, "day;", 1, 0);
        Checks.due("9,998 and 2", x.plate(0, 0), 9999);
        Checks.due("he leaves his mark all the same", x.mark(0), 2);
        x.undo();
        Checks.law(x, "1");
        work(x, "day;", 1, 0);
        Checks.due("9,998 and 1", x.plate(0, 0), 9999);
        work(x, "day;", 1, 0);
        Checks.due("9,999 and 1", x.plate(0, 0), 9999);
        work(x, "feed 1;sit 0 1;sit 1 0;day;", 4, 0);
        Checks.due("of him on another seat", x.plate(1, 0), 1);
        Checks.due("of another one there", x.plate(0, 1), 1);
        Checks.due("all on that seat", x.seat(0, 2), 10000);
        Checks.due("all of him", x.sitter(0, 7), 10000);
        Checks.due("all", x.told(8), 10001);
    }

    private void stillLonger() {
        about("is still a DAY longer;");
        StillYear x = Checks.in(TWO);
        work(x, "sit 0 0;", 1, 0);
        Checks.due("not a day", x.sitter(0, 3), 0);
        work(x, "day;", 1, 0);
        Checks.due("a day", x.sitter(0, 3), 1);
        Checks.due("who does not sit", x.sitter(1, 3), 0);
        work(x, "again 59[day;];feed 0;again 60[day;];feed 0;again 16[day;];", 137, 0);
        Checks.due("136 days", x.sitter(0, 3), 136);
    }

    private void hunger() {
        about("the hunger of all, sitting or not, is 1 more (99 at most);");
        StillYear x = Checks.in("seat 2;sitter 4 60;sitter 1 1;food 99;");
        work(x, "sit 0 0;day;", 2, 0);
        Checks.due("who sits", x.sitter(0, 4), 1);
        Checks.due("who does not", x.sitter(1, 4), 1);
        work(x, "again 59[day;];again 38[day;];", 97, 0);
        Checks.due("98", x.sitter(1, 4), 98);
        work(x, "day;", 1, 0);
        Checks.due("99", x.sitter(1, 4), 99);
        work(x, "day;", 1, 0);
        Checks.due("99 at most", x.sitter(1, 4), 99);
        Checks.due("99 at most for who sat", x.sitter(0, 4), 99);
        work(x, "feed 1;day;", 2, 0);
        Checks.due("fed, and a day", x.sitter(1, 4), 1);
    }

    private void risesByHunger() {
        about("who sits and whose hunger is above N then, rises;");
        StillYear x = Checks.in("seat 2;seat 2;seat 2;sitter 4 60;sitter 1 1;sitter 1 2;");
        work(x, "sit 0 0;sit 1 1;sit 2 2;day;", 4, 0);
        Checks.due("hunger 1 is not above 1", x.told(5), 7);
        work(x, "day;", 1, 0);
        Checks.due("hunger 2 is above 1, not above 2", x.told(5), 5);
        Checks.due("still 0", x.sitter(1, 3), 0);
        Checks.due("his seat is free", x.seat(1, 1), StillYear.NONE);
        work(x, "feed 2;day;day;", 3, 0);
        Checks.due("fed, he sits on", x.told(5), 5);
        work(x, "again 56[day;];", 56, 0);
        Checks.due("hunger 60 is not above 60", x.told(5), 1);
        work(x, "day;", 1, 0);
        Checks.due("hunger 61 is", x.told(5), 0);
        work(x, "sit 1 1;", 1, 0);
        Checks.due("the hungriest may sit", x.told(5), 2);
        work(x, "day;", 1, 0);
        Checks.due("for a day", x.told(5), 0);
        Checks.due("and left his mark", x.plate(1, 1), 2 + 2 + 2);
        work(x, "sit 1 1;feed 1;day;", 3, 0);
        Checks.due("fed, he sits on, hunger 1", x.told(5), 2);
    }

    private void dayIsOneMore() {
        about("the DAY is one more.");
        StillYear x = new StillYear();
        work(x, "day;", 1, 0);
        Checks.due("without anybody", x.told(3), 1);
        work(x, "again 60[day;];", 60, 0);
        Checks.due("60 more", x.told(3), 61);
    }
}
