/** The terms' bounds of the texts: STUDIO, LAW, WORK, BOOK, and their FAULTS. */
final class BoundsOfTexts {
    private static final String FULL = Checks.times(8, "seat 9;") + Checks.times(6, "sitter 9 60;");
    private static final String SMALL = "seat 1;sitter 1 1;";
    private static final String EIGHT_LINES = "0 1;1 1;2 1;3 1;4 1;5 1;6 1;7 1;";

    private final Sentences sentences;

    BoundsOfTexts(Sentences sentences) {
        this.sentences = sentences;
    }

    void run() {
        studios();
        laws();
        works();
        books();
        tokens();
        faults();
    }

    private void about(String sentence) {
        sentences.about("Terms", sentence);
    }

    private static String padded(String text, int length) {
        return Checks.times(length - text.length(), " ") + text;
    }

    // ---- STUDIO

    private void studios() {
        bytesOfStudio();
        clausesOfStudio();
        seatsOfStudio();
        sittersOfStudio();
        sittingsOfStudio();
        yearOfStudio();
        foodOfStudio();
    }

    private void bytesOfStudio() {
        about("A STUDIO is a text of up to 600 bytes:");
        StillYear x = new StillYear();
        Checks.fine(x, "studio", "", 0);
        Checks.fine(x, "studio", padded("sitter 1 1;", 600), 1);
        Checks.fine(x, "studio", "sitter 1 1;sitter 1 1;" + padded("", 578), 2);
        Checks.faulty("", "studio", padded("sitter 1 1?", 600), 1, 599);
        Checks.faulty("", "studio", padded("sitter 1 1", 600), 1, 600);
        Checks.feed(x, padded("", 600));
        Checks.bad("601 bytes", () -> x.studio(601));
    }

    private void clausesOfStudio() {
        about("{ CLAUSE \";\" }, at most 60.");
        StillYear x = new StillYear();
        String most = Checks.times(8, "seat1;") + Checks.times(6, "sitter1 1;") + Checks.times(8, "sitting1;");
        Checks.fine(x, "studio", "  ", 0);
        Checks.fine(x, "studio", most + Checks.times(37, "food2;"), 6);
        Checks.fine(x, "studio", most + Checks.times(37, "food2;") + "food3;", 6);
        Checks.due("the 60th counts", x.told(4), 3);
        Checks.faulty("", "studio", most + Checks.times(38, "food2;") + "food4;", 3, 408);
        String sixty = Checks.times(30, "year1;food1;");
        Checks.faulty("", "studio", sixty + " seat 1;", 3, 361);
        Checks.faulty("", "studio", sixty + " sitter 1 1;", 3, 361);
        Checks.faulty("", "studio", sixty + " sitting 1;", 3, 361);
        Checks.faulty("", "studio", sixty + " year 1;", 3, 361);
        Checks.fine(x, "studio", sixty + " ", 0);
        Checks.faulty("", "studio", "seat 1", 1, 6);
    }

    private void seatsOfStudio() {
        about("CLAUSE: \"seat\" L (SEATS, numbered from 0 on, 8 at most: LIGHT L, 0 to 9),");
        StillYear x = Checks.in("seat 0;seat 9;seat 1;seat 2;seat 3;seat 4;seat 5;");
        Checks.due("7 seats", x.told(0), 7);
        Checks.unknown("the 8th of 7", () -> x.seat(7, 0));
        Checks.fine(x, "studio", "seat 0;seat 9;seat 1;seat 2;seat 3;seat 4;seat 5;seat 6;", 0);
        Checks.due("8 seats", x.told(0), 8);
        Checks.due("the first is 0, its light 0", x.seat(0, 0), 0);
        Checks.due("the second is 1, its light 9", x.seat(1, 0), 9);
        Checks.due("the last is 7", x.seat(7, 0), 6);
        Checks.faulty(SMALL, "studio", Checks.times(8, "seat 1;") + "seat 1;", 3, 56);
        Checks.faulty(SMALL, "studio", "seat 10;", 2, 5);
        Checks.faulty(SMALL, "studio", "seat -1;", 1, 5);
    }

    private void sittersOfStudio() {
        about("\"sitter\" D N (SITTERS likewise, 6: DARK D, 1 to 9, goes without food N days, 1 to 60),");
        StillYear x = new StillYear();
        Checks.fine(x, "studio", Checks.times(4, "sitter 2 2;") + "sitter 9 60;", 5);
        Checks.unknown("the 6th of 5", () -> x.sitter(5, 0));
        Checks.fine(x, "studio", "sitter 1 1;sitter 9 60;" + Checks.times(3, "sitter 2 2;") + "sitter 8 59;", 6);
        Checks.due("the least dark", x.sitter(0, 0), 1);
        Checks.due("the least N", x.sitter(0, 1), 1);
        Checks.due("the most dark", x.sitter(1, 0), 9);
        Checks.due("the most N", x.sitter(1, 1), 60);
        Checks.due("the last is 5", x.sitter(5, 0) * 100 + x.sitter(5, 1), 859);
        Checks.faulty("", "studio", Checks.times(6, "sitter 1 1;") + "sitter 1 1;", 3, 66);
        Checks.faulty("", "studio", "sitter 0 1;", 2, 7);
        Checks.faulty("", "studio", "sitter 10 1;", 2, 7);
        Checks.faulty("", "studio", "sitter 1 0;", 2, 9);
        Checks.faulty("", "studio", "sitter 1 61;", 2, 9);
    }

    private void sittingsOfStudio() {
        about("\"sitting\" L (SITTINGS that are booked, likewise, 8: L days, 1 to 400),");
        StillYear x = Checks.in("sitting 1;sitting 400;sitting 2;sitting 3;sitting 4;sitting 5;sitting 6;");
        Checks.due("7 sittings", x.told(2), 7);
        Checks.unknown("the 8th of 7", () -> x.sitting(7));
        Checks.fine(x, "studio", "sitting 1;sitting 400;sitting 2;sitting 3;sitting 4;sitting 5;sitting 6;sitting 399;", 0);
        Checks.due("8 sittings", x.told(2), 8);
        Checks.due("the least", x.sitting(0), 1);
        Checks.due("the most", x.sitting(1), 400);
        Checks.due("the last is 7", x.sitting(7), 399);
        Checks.faulty(SMALL, "studio", Checks.times(8, "sitting 1;") + "sitting 1;", 3, 80);
        Checks.faulty(SMALL, "studio", "sitting 0;", 2, 8);
        Checks.faulty(SMALL, "studio", "sitting 401;", 2, 8);
    }

    private void yearOfStudio() {
        about("\"year\" N (a YEAR has N days, 1 to 400; 365 without; the last counts),");
        StillYear x = Checks.in("seat 1;");
        Checks.due("without", x.told(10), 365);
        Checks.fine(x, "studio", "year 1;", 0);
        Checks.due("the least", x.told(10), 1);
        Checks.fine(x, "studio", "year 7;year 400;", 0);
        Checks.due("the most, and the last", x.told(10), 400);
        Checks.faulty(SMALL, "studio", "year 0;", 2, 5);
        Checks.faulty(SMALL, "studio", "year 401;", 2, 5);
        Checks.faulty(SMALL, "studio", "year 1;year 0;year 2;", 2, 12);
        Checks.fine(x, "studio", "", 0);
        Checks.due("without, behind one with", x.told(10), 365);
    }

    private void foodOfStudio() {
        about("or \"food\" N (meals there are, 0 to 99; 20 without; the last counts).");
        StillYear x = Checks.in("seat 1;");
        Checks.due("without", x.told(4), 20);
        Checks.fine(x, "studio", "food 0;", 0);
        Checks.due("the least", x.told(4), 0);
        Checks.fine(x, "studio", "food 7;food 99;", 0);
        Checks.due("the most, and the last", x.told(4), 99);
        Checks.faulty(SMALL, "studio", "food 100;", 2, 5);
        Checks.fine(x, "studio", "", 0);
        Checks.due("without, behind one with", x.told(4), 20);
    }

    // ---- LAW

    private void laws() {
        bytesOfLaw();
        lawWithout();
        boundsOfMark();
        sumsAndProducts();
        numbersOfLaw();
        namesOfLaw();
        pairsAndBrackets();
        wrapping();
        dividing();
    }

    private static void gives(String law, int want) {
        StillYear x = new StillYear();
        Checks.fine(x, "law", law, 1);
        Checks.due("by the law " + law, x.would(9, 8, 70, 60, 5, 4, 3, 200), want);
    }

    private void bytesOfLaw() {
        about("A LAW is a text of up to 150 bytes: E, at the end nothing more;");
        gives("1", 1);
        gives(" 1" + Checks.times(74, "+1"), 75);
        gives("2*" + padded("", 148 - 2) + "30", 60);
        gives("99-0" + Checks.times(73, "-1"), 26);
        StillYear x = Checks.in("seat 1;");
        Checks.faulty(SMALL, "law", "", 1, 0);
        Checks.faulty(SMALL, "law", padded("", 150), 1, 150);
        Checks.faulty(SMALL, "law", "11" + Checks.times(73, "+1") + " +", 1, 150);
        Checks.faulty(SMALL, "law", "1 1", 1, 2);
        Checks.faulty(SMALL, "law", "1;", 1, 1);
        Checks.faulty(SMALL, "law", "(1))", 1, 3);
        Checks.feed(x, padded("1", 151));
        Checks.bad("151 bytes", () -> x.law(151));
        Checks.due("150 of them are blanks alone", x.law(150), -9);
    }

    private void lawWithout() {
        about("without: light * dark.");
        StillYear x = new StillYear();
        Checks.due("a new object", x.would(9, 9, 999, 99, 7, 5, 5, 800), 81);
        Checks.due("no light", x.would(0, 9, 0, 0, 0, 0, 0, 0), 0);
        Checks.law(x, "1");
        Checks.fine(x, "studio", "", 0);
        Checks.due("a new studio", x.would(7, 3, 1, 1, 1, 1, 1, 1), 21);
    }

    private void boundsOfMark() {
        about("MARK, what one leaves in a DAY: what comes out, 0 at least, 99 at most.");
        gives("0-1", 0);
        gives("0", 0);
        gives("1", 1);
        gives("98", 98);
        gives("99", 99);
        gives("100", 99);
        gives("999", 99);
        gives("128*256*256*256", 0);
        gives("128*256*256*256-1", 99);
        StillYear x = Checks.in("seat 1;seat 1;sitter 1 9;");
        Checks.law(x, "100-seat*101");
        Checks.work(x, "sit 0 0;day;sit 0 1;day;");
        Checks.due("99 at most is left", x.plate(0, 0), 99);
        Checks.due("0 at least is left", x.plate(1, 0), 0);
    }

    private void sumsAndProducts() {
        about("E: T { + or - T }. T: U { * or / or % U }.");
        gives("9-3-2", 4);
        gives("9-3+2", 8);
        gives("2+3*4", 14);
        gives("2*3+4", 10);
        gives("50/7/2", 3);
        gives("50%7*3", 3);
        gives("3*50%7", 3);
        gives("50-7%4*2", 44);
        Checks.faulty("", "law", "-1", 1, 0);
        Checks.faulty("", "law", "*1", 1, 0);
        Checks.faulty("", "law", "1+", 1, 2);
        Checks.faulty("", "law", "1%", 1, 2);
        Checks.faulty("", "law", "1+-1", 1, 2);
        Checks.faulty("", "law", "1*/1", 1, 2);
    }

    private void numbersOfLaw() {
        about("U: N (0 to 999),");
        gives("0", 0);
        gives("999-999+7", 7);
        gives("999-998", 1);
        gives("999-901", 98);
        Checks.faulty("", "law", "1000", 2, 0);
        Checks.faulty("", "law", "999-1000", 2, 4);
    }

    private void namesOfLaw() {
        about("\"light\" (of his SEAT), \"dark\", \"still\" (DAYS he has sat there by now, in a row), "
            + "\"hunger\" (DAYS since he was fed), \"seat\" (its number), \"sitter\" (his), \"others\" (other SITTERS who sit), \"day\",");
        lightOfHisSeat();
        daysInARow();
        daysSinceFed();
        otherSitters();
        StillYear x = Checks.in(FULL);
        Checks.law(x, "seat*10+sitter");
        Checks.work(x, "sit 5 7;sit 0 0;sit 4 1;");
        Checks.due("the last seat, the last sitter", x.mark(5), 75);
        Checks.due("the first seat, the first sitter", x.mark(0), 0);
        Checks.law(x, "day*30+dark");
        Checks.due("day 0", x.mark(5), 9);
        Checks.work(x, "day;");
        Checks.due("day 1", x.mark(5), 39);
        Checks.work(x, "again 2[day;];");
        Checks.due("day 3", x.mark(5), 99);
    }

    private static void lightOfHisSeat() {
        StillYear x = Checks.in("seat 0;seat 9;sitter 3 9;sitter 4 9;");
        Checks.law(x, "light*10+dark");
        Checks.work(x, "sit 0 0;sit 1 1;");
        Checks.due("light 0, dark 3", x.mark(0), 3);
        Checks.due("light 9, dark 4", x.mark(1), 94);
        Checks.work(x, "curtain 0 5;");
        Checks.due("light as it is now", x.mark(0), 53);
    }

    private static void daysInARow() {
        StillYear x = Checks.in("seat 0;seat 9;sitter 3 60;");
        Checks.law(x, "still+10");
        Checks.work(x, "sit 0 0;");
        Checks.due("he just sat down", x.mark(0), 10);
        Checks.work(x, "day;day;sit 0 0;");
        Checks.due("2 days; a refused sit does not end the row", x.mark(0), 12);
        Checks.work(x, "sit 0 1;sit 0 0;");
        Checks.due("he was moved there and back", x.mark(0), 10);
        Checks.work(x, "day;rise 0;sit 0 0;");
        Checks.due("he rose and sat again", x.mark(0), 10);
        Checks.due("what he left", x.plate(0, 0), 10 + 11 + 10);
    }

    private static void daysSinceFed() {
        StillYear x = Checks.in("seat 0;sitter 3 60;");
        Checks.law(x, "hunger+10");
        Checks.work(x, "sit 0 0;");
        Checks.due("not hungry at first", x.mark(0), 10);
        Checks.work(x, "day;day;");
        Checks.due("2 days", x.mark(0), 12);
        Checks.work(x, "feed 0;");
        Checks.due("just fed", x.mark(0), 10);
        Checks.work(x, "feed 0;day;");
        Checks.due("a day since", x.mark(0), 11);
    }

    private static void otherSitters() {
        StillYear x = Checks.in(FULL);
        Checks.law(x, "others+10");
        Checks.work(x, "sit 0 0;");
        Checks.due("alone", x.mark(0), 10);
        Checks.work(x, "sit 1 1;");
        Checks.due("one other", x.mark(0), 11);
        Checks.work(x, "sit 2 2;sit 3 3;sit 4 4;sit 5 5;");
        Checks.due("all six", x.mark(0), 15);
        Checks.work(x, "rise 3;");
        Checks.due("one rose", x.mark(5), 14);
        Checks.due("he does not sit", x.mark(3), 0);
    }

    private void pairsAndBrackets() {
        about("\"least\" \"[\" E \",\" E \"]\", \"most\" \"[\" E \",\" E \"]\", or \"(\" E \")\".");
        gives("least[3,4]", 3);
        gives("least[4,3]", 3);
        gives("least[4,4]", 4);
        gives("most[3,4]", 4);
        gives("most[4,3]", 4);
        gives("most[4,4]", 4);
        gives("most[0-2,0-1]+9", 8);
        gives("least[0-2,0-1]+9", 7);
        gives("least[128*256*256*256,0]/256/256/256+130", 2);
        gives("most[128*256*256*256-1,0]/256/256/256-30", 97);
        gives("(7)", 7);
        gives("(1+2)*(3+4)", 21);
        gives("1+2*(1+2*(1+2*(1+2*(1+2*(1+2*(1+0*7))))))-90", 37);
        gives("1+2*most[1,1+1*most[1,1+1*most[1,1+1*most[1,1+1*most[1,1+1*most[1,1+1*1]]]]]]", 15);
        Checks.faulty("", "law", "()", 1, 1);
        Checks.faulty("", "law", "(1", 1, 2);
        Checks.faulty("", "law", "(1]", 1, 2);
        Checks.faulty("", "law", "[1]", 1, 0);
        Checks.faulty("", "law", "least[1]", 1, 7);
        Checks.faulty("", "law", "least[,1]", 1, 6);
        Checks.faulty("", "law", "least[1,]", 1, 8);
        Checks.faulty("", "law", "most[1,2,3]", 1, 8);
        Checks.faulty("", "law", "most[1,2)", 1, 8);
        Checks.faulty("", "law", "most(1,2)", 1, 4);
    }

    private void wrapping() {
        about("Values are whole numbers of 32 bits that wrap;");
        String least = "128*256*256*256";
        gives("256*256*256*256+3", 3);
        gives(least + "/256/256/256+130", 2);
        gives("(" + least + "-1)/256/256/256-100", 27);
        gives("(" + least + "-1+1)/256/256/256+130", 2);
        gives("(" + least + "-1)%100", 47);
        gives("(0-" + least + ")/256/256/256+130", 2);
        gives("(" + least + ")*(0-1)/256/256/256+130", 2);
        gives("(" + least + "-1)*2+9", 7);
        gives("(" + least + ")*2+9", 9);
        // 999 * 999 * 999 * 999 is 996005996001, less 232 times 2^32 is -426416671
        gives("999*999*999*999/999/999+450", 23);
        gives("20*7*331*20*7*331/256/256/256-50", 77);
        gives("(20*7*331+1)*(20*7*331+1)/256/256/256+130", 3);
    }

    private void dividing() {
        about("/ cuts, % leaves (with the sign of what is divided), by 0 both are 0.");
        gives("7/2", 3);
        gives("(0-7)/2+9", 6);
        gives("7/(0-2)+9", 6);
        gives("(0-7)/(0-2)", 3);
        gives("1/2", 0);
        gives("(0-1)/2+9", 9);
        gives("7%4", 3);
        gives("(0-7)%4+9", 6);
        gives("7%(0-4)+9", 12);
        gives("(0-7)%(0-4)+9", 6);
        gives("8%4", 0);
        gives("7/0+9", 9);
        gives("7%0+9", 9);
        gives("0/0+9", 9);
        gives("0%0+9", 9);
        gives("(0-7)/(3-3)+9", 9);
        gives("7%(light-light)+9", 9);
        gives("7/0*5+9", 9);
        gives("7%1+9", 9);
        // the one division of 32 bits that comes out too large wraps, too
        gives("(128*256*256*256)/(0-1)/256/256/256+130", 2);
        gives("(128*256*256*256)%(0-1)+9", 9);
    }

    // ---- WORK

    private void works() {
        bytesOfWork();
        numbersOfSteps();
        numbersOfAgain();
    }

    private void bytesOfWork() {
        about("WORK is a text of up to 150 bytes: { STEP \";\" }.");
        StillYear x = Checks.in(FULL);
        Checks.fine(x, "work", "", 0);
        Checks.fine(x, "work", padded("", 150), 0);
        Checks.fine(x, "work", padded("day;", 150), 1);
        Checks.fine(x, "work", Checks.times(37, "day;") + "  ", 37);
        Checks.fine(x, "work", Checks.times(15, "again0[];") + "again1[day;];  ", 1);
        Checks.due("days", x.told(3), 39);
        Checks.faulty(FULL, "work", padded("day", 150), 1, 150);
        Checks.faulty(FULL, "work", padded("day:", 150), 1, 149);
        Checks.faulty(FULL, "work", ";", 1, 0);
        Checks.faulty(FULL, "work", "day;;", 1, 4);
        Checks.feed(x, padded("day;", 151));
        Checks.bad("151 bytes", () -> x.work(151));
        Checks.due("150 of them end too early", x.work(150), -9);
        Checks.due("150 of them end at", x.fault(), 150);
    }

    private void numbersOfSteps() {
        about("STEP: \"sit\" P S, \"rise\" P, \"feed\" P, \"curtain\" S L (L 0 to 9), \"day\",");
        StillYear x = Checks.in(FULL);
        Checks.fine(x, "work", "sit 0 0;sit 5 7;day;feed 0;feed 5;rise 0;rise 5;", 7);
        Checks.fine(x, "work", "curtain 0 0;curtain 7 0;curtain 7 9;", 3);
        Checks.faulty(FULL, "work", "sit 6 0;", 2, 4);
        Checks.faulty(FULL, "work", "sit 5 8;", 2, 6);
        Checks.faulty(FULL, "work", "rise 6;", 2, 5);
        Checks.faulty(FULL, "work", "feed 6;", 2, 5);
        Checks.faulty(FULL, "work", "curtain 8 0;", 2, 8);
        Checks.faulty(FULL, "work", "curtain 7 10;", 2, 10);
        Checks.faulty(FULL, "work", "sit 0;", 1, 5);
        Checks.faulty(FULL, "work", "sit 0 0 0;", 1, 8);
        Checks.faulty(FULL, "work", "rise;", 1, 4);
        Checks.faulty(FULL, "work", "rise 0 0;", 1, 7);
        Checks.faulty(FULL, "work", "feed 0 0;", 1, 7);
        Checks.faulty(FULL, "work", "curtain 0;", 1, 9);
        Checks.faulty(FULL, "work", "day 1;", 1, 4);
        Checks.faulty("", "work", "sit 0 0;", 2, 4);
        Checks.faulty("", "work", "rise 0;", 2, 5);
        Checks.faulty("", "work", "feed 0;", 2, 5);
        Checks.faulty("", "work", "curtain 0 0;", 2, 8);
        Checks.faulty("sitter 1 1;", "work", "sit 0 0;", 2, 6);
    }

    private void numbersOfAgain() {
        about("or \"again\" N \"[\" { STEP \";\" } \"]\" (N 0 to 60).");
        StillYear x = new StillYear();
        Checks.fine(x, "work", "again 0[day;];", 0);
        Checks.fine(x, "work", "again 1[day;];", 1);
        Checks.fine(x, "work", "again 60[day;];", 60);
        Checks.fine(x, "work", "again 60[];", 0);
        Checks.fine(x, "work", "again 0[];day;", 1);
        Checks.fine(x, "work", "again 0[day;again 60[day;];day;];day;", 1);
        Checks.fine(x, "work", "again 2[day;again 3[day;];again 0[day;];];", 8);
        Checks.faulty("", "work", "again 61[day;];", 2, 6);
        Checks.faulty("", "work", "again [day;];", 1, 6);
        Checks.faulty("", "work", "again 1 day;", 1, 8);
        Checks.faulty("", "work", "again 1(day;);", 1, 7);
        Checks.faulty("", "work", "again 1[day];", 1, 11);
        Checks.faulty("", "work", "again 1[day;", 1, 12);
        Checks.faulty("", "work", "again 1[day;]", 1, 13);
        Checks.faulty("", "work", "again 1[day;];];", 1, 14);
        Checks.faulty("", "work", "];", 1, 0);
    }

    // ---- BOOK

    private void books() {
        about("A BOOK is one of up to 100 bytes: { S M \";\" }, 8 lines at most, no S twice: on SEAT S there is M (0 to 9,999) of him.");
        StillYear x = Checks.in("seat 1;seat 1;seat 1;seat 1;seat 1;seat 1;seat 1;seat 1;sitter 1 1;");
        Checks.fine(x, "book", padded("7 1;", 100), 1);
        Checks.fine(x, "book", "0 9999;1 9999;2 9999;3 9999;4 9999;5 9999;6 9999;7 9999;" + padded("", 44), 8);
        Checks.due("as much as there may be", x.goings(0, 1), 79992);
        Checks.faulty(FULL, "book", padded("7 1", 100), 1, 100);
        Checks.feed(x, padded("0 1;", 101));
        Checks.bad("101 bytes", () -> x.book(101));
        Checks.due("100 of them end too early", x.book(100), -9);
        Checks.fine(x, "book", "", 0);
        Checks.due("no line", x.told(6), 0);
        Checks.fine(x, "book", EIGHT_LINES, 8);
        Checks.due("8 lines", x.told(6), 8);
        Checks.fine(x, "book", "7 0;0 9999;", 2);
        Checks.due("0 and 9,999 of him", x.goings(0, 1), 9999);
        Checks.faulty(FULL, "book", "0 10000;", 2, 2);
        Checks.faulty(FULL, "book", "8 0;", 2, 0);
        Checks.faulty(FULL, "book", "0 1;0 1;", 2, 4);
        Checks.faulty(FULL, "book", "0 1;1 1;00 1;", 2, 8);
        Checks.faulty(FULL, "book", "0 0;0 0;", 2, 4);
        Checks.faulty(FULL, "book", ";", 1, 0);
        Checks.faulty(FULL, "book", "0;", 1, 1);
        Checks.faulty(FULL, "book", "0 1 1;", 1, 4);
        Checks.faulty("", "book", "0 0;", 2, 0);
    }

    // ---- what texts are made of

    private void tokens() {
        numbers();
        words();
        blanks();
    }

    private void numbers() {
        about("Numbers: digits, as many as stand there;");
        StillYear x = Checks.in(FULL);
        Checks.fine(x, "work", "curtain 0 000000000000000000000000000000000000000000005;", 1);
        Checks.due("many digits", x.seat(0, 0), 5);
        Checks.faulty(FULL, "work", "sit 00;", 1, 6);
        Checks.faulty(FULL, "work", "sit 10;", 2, 4);
        // by 32 or 64 bits these would wrap to 0 and to 1
        Checks.faulty(FULL, "work", "rise 4294967296;", 2, 5);
        Checks.faulty(FULL, "work", "rise 18446744073709551617;", 2, 5);
        Checks.faulty(FULL, "law", "1" + Checks.times(149, "0"), 2, 0);
        Checks.faulty(FULL, "book", "0 99999999999999999999;", 2, 2);
        Checks.faulty(FULL, "work", "rise 1a;", 1, 6);
        Checks.faulty(FULL, "work", "rise +1;", 1, 5);
        Checks.faulty(FULL, "work", "rise 1/;", 1, 6);
        Checks.faulty(FULL, "work", "rise 1:;", 1, 6);
    }

    private void words() {
        about("WORDS: small letters, as many as stand there;");
        StillYear x = Checks.in(FULL);
        Checks.fine(x, "work", "sit0 0;again2[day;];", 3);
        Checks.faulty(FULL, "work", "dayday;", 1, 0);
        Checks.faulty(FULL, "work", "da;", 1, 0);
        Checks.faulty(FULL, "work", "Day;", 1, 0);
        Checks.faulty(FULL, "work", "daY;", 1, 0);
        Checks.faulty(FULL, "work", "day`;", 1, 3);
        Checks.faulty(FULL, "work", "day{;", 1, 3);
        Checks.faulty(FULL, "work", "dayz;", 1, 0);
        Checks.faulty(FULL, "work", "daya;", 1, 0);
        Checks.faulty(FULL, "work", "sitter 0 0;", 1, 0);
        Checks.faulty(FULL, "law", "darkdark", 1, 0);
        Checks.faulty(FULL, "law", "leasts[1,1]", 1, 0);
        Checks.fine(x, "law", "dark*seat", 1);
        Checks.faulty(FULL, "studio", "seats 1;", 1, 0);
        Checks.faulty(FULL, "studio", "sit 1;", 1, 0);
        alikeWords("studio", " 1 1;", "seat", "sitter", "sitting", "year", "food");
        alikeWords("law", "", "light", "dark", "still", "hunger", "seat", "sitter", "others", "day");
        alikeWords("law", "[1,2]", "least", "most");
        alikeWords("work", " 0 0;", "sit", "rise", "feed", "curtain", "day", "again");
    }

    /** Words that are another by one letter, have one less, or one more. */
    private static void alikeWords(String kind, String behind, String... words) {
        for (String word : words) {
            for (int i = 0; i < word.length(); i++) {
                Checks.faulty(SMALL, kind, word.substring(0, i) + "x" + word.substring(i + 1) + behind, 1, 0);
                Checks.faulty(SMALL, kind, word.substring(0, i) + "x" + word.substring(i) + behind, 1, 0);
            }
            Checks.faulty(SMALL, kind, word.substring(1) + behind, 1, 0);
            Checks.faulty(SMALL, kind, word.substring(0, word.length() - 1) + behind, 1, 0);
            Checks.faulty(SMALL, kind, word + "x" + behind, 1, 0);
        }
    }

    private void blanks() {
        about("blanks (32) may stand ahead of all these, and at the end.");
        StillYear x = Checks.in("  seat  1  ;  sitter  1  1  ;  ");
        Checks.fine(x, "law", "  least  [  1  ,  (  2  )  ]  +  3  *  4  ", 1);
        Checks.fine(x, "work", "  again  2  [  day  ;  ]  ;  sit  0  0  ;  ", 3);
        Checks.fine(x, "book", "  0  1  ;  ", 1);
        Checks.faulty(SMALL, "work", "da y;", 1, 0);
        Checks.faulty(SMALL, "book", "0 1 0;", 1, 4);
        int[] noBlanks = {0, 9, 10, 13, 31, 33, 127, 128, 160, 255};
        for (int sign : noBlanks) {
            Checks.faulty(SMALL, "work", "day" + (char) sign + ";", 1, 3);
            Checks.faulty(SMALL, "work", (char) sign + "day;", 1, 0);
            Checks.faulty(SMALL, "work", "day;" + (char) sign, 1, 4);
        }
    }

    // ---- FAULTS

    private void faults() {
        firstFromTheLeft();
        whatCantStandThere();
        noSuchNumbers();
        tooMany();
        seventhOpen();
        ofOneTheLeast();
    }

    private void firstFromTheLeft() {
        about("FAULTS, the first from the left, at its first byte:");
        Checks.faulty(SMALL, "studio", "seat 10;stool;", 2, 5);
        Checks.faulty(SMALL, "studio", "  stool 10;seat 10;", 1, 2);
        Checks.faulty(SMALL, "studio", "sitter 0 61;", 2, 7);
        Checks.faulty(SMALL, "law", " 1000 + (", 2, 1);
        Checks.faulty(SMALL, "law", "1 + lamp + 1000", 1, 4);
        Checks.faulty(SMALL, "work", "sit 1 1;", 2, 4);
        Checks.faulty(SMALL, "work", "rise 1", 2, 5);
        Checks.faulty(SMALL, "book", "1 10000", 2, 0);
        Checks.faulty(SMALL, "book", "0 10000", 2, 2);
    }

    private void whatCantStandThere() {
        about("1 what can't stand there (at the length, if the text ends too early);");
        StillYear x = Checks.in("seat 1;sitter 1 1;");
        Checks.faulty(SMALL, "studio", "seat", 1, 4);
        Checks.faulty(SMALL, "studio", "seat   ", 1, 7);
        Checks.faulty(SMALL, "studio", "seat 1;1", 1, 7);
        Checks.faulty(SMALL, "law", "   ", 1, 3);
        Checks.faulty(SMALL, "law", "least", 1, 5);
        Checks.faulty(SMALL, "law", "least[1, ", 1, 9);
        Checks.faulty(SMALL, "work", "sit", 1, 3);
        Checks.faulty(SMALL, "work", "sit 0 ", 1, 6);
        Checks.faulty(SMALL, "work", "again 1[ ", 1, 9);
        Checks.faulty(SMALL, "work", "again 1[day;] ", 1, 14);
        Checks.faulty(SMALL, "book", "0", 1, 1);
        Checks.faulty(SMALL, "book", "0 1 ", 1, 4);
        Checks.feed(x, "seat 1;");
        Checks.due("it ends where n says, though bytes stand behind", x.studio(6), -9);
        Checks.due("at the length", x.fault(), 6);
        Checks.feed(x, "seat 1;");
        Checks.due("a word ends there, too", x.studio(3), -9);
        Checks.due("it is none", x.fault(), 0);
        Checks.feed(x, "days");
        Checks.due("a law ends ahead of a letter", x.law(3), 1);
        Checks.due("by it", x.would(1, 1, 1, 1, 1, 1, 1, 50), 50);
        Checks.feed(x, "1999");
        Checks.due("a law ends ahead of a digit", x.law(2), 1);
        Checks.due("by it", x.would(1, 1, 1, 1, 1, 1, 1, 50), 19);
        Checks.feed(x, "0 1;5");
        Checks.due("a book ends ahead of a digit", x.book(4), 1);
    }

    private void noSuchNumbers() {
        about("2 a number that is none such (an S twice in a BOOK);");
        StillYear x = Checks.in("seat 1;seat 1;sitter 1 1;");
        Checks.faulty("seat 1;seat 1;sitter 1 1;", "studio", "seat  010;", 2, 6);
        Checks.faulty("seat 1;seat 1;sitter 1 1;", "law", "1+01000", 2, 2);
        Checks.faulty("seat 1;seat 1;sitter 1 1;", "work", "sit 0 2;", 2, 6);
        Checks.faulty("seat 1;seat 1;sitter 1 1;", "work", "sit 1 0;", 2, 4);
        Checks.faulty("seat 1;seat 1;sitter 1 1;", "book", "1 5; 1 5;", 2, 5);
        Checks.faulty("seat 1;seat 1;sitter 1 1;", "book", "1 5;0 5;01", 2, 8);
        Checks.fine(x, "book", "1 0;0 1;", 2);
    }

    private void tooMany() {
        about("3 a CLAUSE, SEAT, SITTER or SITTING too many (at its word), a line too many (at its S),");
        Checks.faulty(FULL, "studio", Checks.times(60, "food 1;") + "  year", 3, 422);
        Checks.faulty(FULL, "studio", Checks.times(8, "seat 1;") + "  seat", 3, 58);
        Checks.faulty(FULL, "studio", Checks.times(6, "sitter 1 1;") + "  sitter 0 0", 3, 68);
        Checks.faulty(FULL, "studio", Checks.times(8, "sitting 1;") + "  sitting 0", 3, 82);
        // there are 8 SEATS at most, so that the S of a 9th line stands there twice or is none: of one place the least
        Checks.faulty(FULL, "book", EIGHT_LINES + " 8 1;", 2, 33);
        Checks.faulty(FULL, "book", EIGHT_LINES + " 0 1;", 2, 33);
        Checks.faulty(FULL, "book", EIGHT_LINES + " 7", 2, 33);
    }

    private void seventhOpen() {
        about("or a 7th of ( least most again that is open at one time;");
        gives("((((((5))))))", 5);
        gives("least[most[(least[most[(5),1],9]),2],9]", 5);
        gives("((((((1))))))+((((((2))))))", 3);
        gives("least[9,(((((5)))))]", 5);
        gives("least[(((((5))))),(((((6)))))]", 5);
        StillYear x = Checks.in(FULL);
        Checks.faulty(FULL, "law", "(((((( (5)", 3, 7);
        Checks.faulty(FULL, "law", "((((((least[1,2]))))))", 3, 6);
        Checks.faulty(FULL, "law", "((((((most", 3, 6);
        Checks.faulty(FULL, "law", "least[1,most[1,least[1,most[1,least[1,most[1,(", 3, 45);
        Checks.faulty(FULL, "law", "least[((((((5)))))),1]", 3, 11);
        Checks.fine(x, "work", Checks.times(6, "again 1[") + "day;" + Checks.times(6, "];"), 1);
        Checks.fine(x, "work", Checks.times(2, Checks.times(6, "again1[") + "day;" + Checks.times(6, "];")), 2);
        Checks.faulty(FULL, "work", Checks.times(6, "again 1[") + " again 1[", 3, 49);
        Checks.faulty(FULL, "work", Checks.times(6, "again 1[") + "again 61", 3, 48);
    }

    private void ofOneTheLeast() {
        about("of one the least.");
        StillYear x = Checks.in(FULL);
        Checks.faulty(FULL, "studio", Checks.times(60, "food 1;") + "stool 1;", 1, 420);
        Checks.faulty(FULL, "studio", Checks.times(60, "food 1;") + "1", 1, 420);
        Checks.faulty(FULL, "studio", Checks.times(60, "food 1;") + ";", 1, 420);
        Checks.faulty(FULL, "studio", Checks.times(8, "seat 1;") + "seats 1;", 1, 56);
        Checks.faulty(FULL, "law", "((((((leasts[1,2]", 1, 6);
        Checks.faulty(FULL, "law", "((((((1000", 2, 6);
        Checks.faulty(FULL, "work", Checks.times(6, "again 1[") + "agains", 1, 48);
        Checks.faulty(FULL, "book", EIGHT_LINES + "0 1;", 2, 32);
        Checks.faulty(FULL, "book", EIGHT_LINES + "x", 1, 32);
    }
}
