/** Promises 9 to 13, 15, 16, 29 to 34, 37, 38, 40: what is there. */
public final class PlateTest {
    public static void main(String[] args) {
        StillYear x = shared();
        told(x);
        seats(x);
        sitters(x);
        plates(x);
        shares(x);
        most(x);
        stains(x);
        bits(x);
        leads(x);
        alike();
        would();
        Checks.end("PlateTest");
    }

    /** On SEAT 0: 8 of 0, 8 of 1; on SEAT 1: 10 of 0, 4 of 1, 6 of 2; on SEAT 2: 3 of 2; on SEAT 3 nothing; 3 is nowhere. */
    private static StillYear shared() {
        StillYear x = Checks.in("seat 4;seat 2;seat 1;seat 0;sitter 1 60;sitter 2 60;sitter 3 60;sitter 9 1;"
            + "sitting 7;sitting 9;sitting 400;year 77;food 5;");
        Checks.work(x, "sit 0 0;day;day;rise 0;sit 1 0;day;rise 1;");
        Checks.work(x, "sit 0 1;again 5[day;];rise 0;sit 1 1;day;rise 1;sit 2 1;day;sit 2 2;day;");
        Checks.work(x, "sit 1 3;feed 1;feed 1;sit 3 0;sit 3 1;day;");
        // the mark of 3 on 1 is 18: taken away again
        x.undo();
        Checks.work(x, "sit 1 3;feed 1;feed 1;feed 1;");
        return x;
    }

    private static void told(StillYear x) {
        int[] want = {4, 4, 3, 11, 4, 6, 0, 2, 39, 11, 77};
        for (int what = 0; what < want.length; what++) {
            Checks.due("told(" + what + ")", x.told(what), want[what]);
        }
        Checks.bad("told(11)", () -> x.told(11));
        Checks.bad("told(-1)", () -> x.told(-1));
        Checks.due("sitting", x.sitting(2), 400);
        Checks.unknown("sitting(3)", () -> x.sitting(3));
        Checks.unknown("sitting(-1)", () -> x.sitting(-1));
    }

    private static void seats(StillYear x) {
        int[][] want = {{4, -1, 16, -1}, {2, -1, 20, -1}, {1, 2, 3, 2}, {0, 1, 0, -1}};
        for (int seat = 0; seat < 4; seat++) {
            for (int what = 0; what < 4; what++) {
                Checks.due("seat(" + seat + ", " + what + ")", x.seat(seat, what), want[seat][what]);
            }
        }
        Checks.bad("seat(0, 4)", () -> x.seat(0, 4));
        Checks.bad("seat(3, -1)", () -> x.seat(3, -1));
        Checks.unknown("seat(4, 4)", () -> x.seat(4, 4));
        Checks.unknown("seat(-1, 0)", () -> x.seat(-1, 0));
    }

    private static void sitters(StillYear x) {
        int[][] want = {
            {1, 60, -1, 0, 11, 3, 0, 18}, {2, 60, 3, 0, 0, 3, 0, 12}, {3, 60, 2, 1, 11, 6, 4, 9}, {9, 1, -1, 0, 11, 0, 0, 0}};
        for (int sitter = 0; sitter < 4; sitter++) {
            for (int what = 0; what < 8; what++) {
                Checks.due("sitter(" + sitter + ", " + what + ")", x.sitter(sitter, what), want[sitter][what]);
            }
        }
        Checks.bad("sitter(0, 8)", () -> x.sitter(0, 8));
        Checks.bad("sitter(0, -1)", () -> x.sitter(0, -1));
        Checks.unknown("sitter(4, 8)", () -> x.sitter(4, 8));
        Checks.unknown("sitter(-1, 0)", () -> x.sitter(-1, 0));
    }

    private static void plates(StillYear x) {
        int[][] want = {{8, 8, 0, 0}, {10, 4, 6, 0}, {0, 0, 3, 0}, {0, 0, 0, 0}};
        for (int seat = 0; seat < 4; seat++) {
            for (int sitter = 0; sitter < 4; sitter++) {
                Checks.due("plate(" + seat + ", " + sitter + ")", x.plate(seat, sitter), want[seat][sitter]);
            }
        }
        Checks.unknown("plate(4, 0)", () -> x.plate(4, 0));
        Checks.unknown("plate(0, 4)", () -> x.plate(0, 4));
        Checks.unknown("plate(-1, 0)", () -> x.plate(-1, 0));
        Checks.unknown("plate(0, -1)", () -> x.plate(0, -1));
    }

    private static void share(StillYear x, int seat, int sitter, int above, int below) {
        Checks.due("share(" + seat + ", " + sitter + ", 0)", x.share(seat, sitter, 0), above);
        Checks.due("share(" + seat + ", " + sitter + ", 1)", x.share(seat, sitter, 1), below);
    }

    private static void shares(StillYear x) {
        share(x, 0, 0, 1, 2);
        share(x, 1, 0, 1, 2);
        share(x, 1, 1, 1, 5);
        share(x, 1, 2, 3, 10);
        share(x, 1, 3, 0, 1);
        share(x, 2, 2, 1, 1);
        share(x, 3, 1, 0, 1);
        Checks.bad("share(0, 0, 2)", () -> x.share(0, 0, 2));
        Checks.bad("share(0, 0, -1)", () -> x.share(0, 0, -1));
        Checks.unknown("share(4, 0, 2)", () -> x.share(4, 0, 2));
        Checks.unknown("share(0, 4, 2)", () -> x.share(0, 4, 2));
    }

    private static void most(StillYear x) {
        Checks.due("darkest(0)", x.darkest(0), 1);
        Checks.due("darkest(1)", x.darkest(1), 20);
        Checks.due("stillest(0)", x.stillest(0), 2);
        Checks.due("stillest(1)", x.stillest(1), 1);
        Checks.due("hungriest(0)", x.hungriest(0), 0);
        Checks.due("hungriest(1)", x.hungriest(1), 11);
        Checks.due("brightest(0)", x.brightest(0), 0);
        Checks.due("brightest(1)", x.brightest(1), 4);
        for (int wrong = -1; wrong <= 2; wrong += 3) {
            int what = wrong;
            Checks.bad("darkest", () -> x.darkest(what));
            Checks.bad("stillest", () -> x.stillest(what));
            Checks.bad("hungriest", () -> x.hungriest(what));
            Checks.bad("brightest", () -> x.brightest(what));
            Checks.bad("stains", () -> x.stains(what));
            Checks.bad("empty", () -> x.empty(what));
        }
    }

    private static void stains(StillYear x) {
        Checks.due("stains(0)", x.stains(0), 3);
        Checks.due("stains(1)", x.stains(1), 1);
        StillYear y = Checks.in("seat 1;seat 1;sitter 1 60;sitter 1 60;sitter 1 60;");
        Checks.work(y, "sit 0 0;sit 1 1;day;");
        Checks.due("no pair", y.stains(0), 0);
        Checks.due("no first pair", y.stains(1), StillYear.NONE);
        Checks.work(y, "rise 1;sit 2 1;day;");
        Checks.due("a pair", y.stains(0), 1);
        Checks.due("the first pair", y.stains(1), 12);
        // a pair on two seats is one pair
        Checks.work(y, "rise 0;rise 2;sit 1 0;day;rise 1;sit 2 0;day;");
        Checks.due("three pairs", y.stains(0), 3);
        Checks.due("the first of three", y.stains(1), 1);
    }

    private static void bits(StillYear x) {
        Checks.due("empty(0)", x.empty(0), 3);
        Checks.due("empty(1)", x.empty(1), 8);
        Checks.due("absent()", x.absent(), 8);
        int[] crowd = {2, 3, 1, 0};
        for (int seat = 0; seat < 4; seat++) {
            Checks.due("crowd(" + seat + ")", x.crowd(seat), crowd[seat]);
        }
        Checks.unknown("crowd(4)", () -> x.crowd(4));
        Checks.unknown("crowd(-1)", () -> x.crowd(-1));
    }

    private static void leads(StillYear x) {
        int[] lead = {0, 4, 3, 0};
        for (int seat = 0; seat < 4; seat++) {
            Checks.due("lead(" + seat + ")", x.lead(seat), lead[seat]);
        }
        Checks.unknown("lead(4)", () -> x.lead(4));
        Checks.unknown("lead(-1)", () -> x.lead(-1));
        StillYear y = Checks.in("seat 1;");
        Checks.due("lead without sitters", y.lead(0), 0);
    }

    private static void alike() {
        StillYear x = Checks.in("seat 3;seat 3;seat 3;sitter 2 9;sitter 2 9;sitter 2 9;");
        Checks.due("nothing: darkest(0)", x.darkest(0), StillYear.NONE);
        Checks.due("nothing: darkest(1)", x.darkest(1), StillYear.NONE);
        Checks.due("nobody: stillest(0)", x.stillest(0), StillYear.NONE);
        Checks.due("nobody: stillest(1)", x.stillest(1), StillYear.NONE);
        Checks.due("alike: brightest(0)", x.brightest(0), 0);
        Checks.due("alike: hungriest(0)", x.hungriest(0), 0);
        Checks.due("alike: hungriest(1)", x.hungriest(1), 0);
        Checks.work(x, "sit 2 1;sit 1 2;");
        Checks.due("still 0: stillest(0)", x.stillest(0), 1);
        Checks.due("still 0: stillest(1)", x.stillest(1), 0);
        Checks.work(x, "day;");
        Checks.due("alike: darkest(0)", x.darkest(0), 1);
        Checks.due("alike: darkest(1)", x.darkest(1), 6);
        Checks.due("alike: stillest(0)", x.stillest(0), 1);
        leastOfAll();
        StillYear none = new StillYear();
        for (int what = 0; what <= 1; what++) {
            Checks.due("no sitters: hungriest", none.hungriest(what), StillYear.NONE);
            Checks.due("no seats: brightest", none.brightest(what), StillYear.NONE);
        }
        StillYear dark = Checks.in("seat 0;seat 0;");
        Checks.due("light 0: brightest(0)", dark.brightest(0), 0);
        Checks.due("light 0: brightest(1)", dark.brightest(1), 0);
    }

    private static void leastOfAll() {
        StillYear x = Checks.in("seat 0;seat 1;sitter 1 9;");
        Checks.work(x, "sit 0 1;day;");
        Checks.due("1 is something: darkest(0)", x.darkest(0), 1);
        Checks.due("1 is something: darkest(1)", x.darkest(1), 1);
        Checks.due("1 is something: crowd", x.crowd(1), 1);
        Checks.due("1 is something: empty(1)", x.empty(1), 1);
        Checks.due("1 is something: absent", x.absent(), 0);
        Checks.due("1 is something: selves", x.sitter(0, 5), 2);
        Checks.due("1 is something: seen", x.seat(1, 3), 0);
        Checks.due("1 is something: lead", x.lead(1), 1);
    }

    private static void would() {
        StillYear x = new StillYear();
        Checks.law(x, "light+dark*2+still/9+hunger/9+seat*3+sitter*3+others*3+day/100");
        Checks.due("would, all most", x.would(9, 9, 999, 99, 7, 5, 5, 800), 99);
        Checks.due("would", x.would(1, 2, 9, 9, 1, 1, 1, 100), 1 + 4 + 1 + 1 + 3 + 3 + 3 + 1);
        Checks.due("would, all least", x.would(0, 1, 0, 0, 0, 0, 0, 0), 2);
        int[] least = {0, 1, 0, 0, 0, 0, 0, 0};
        int[] most = {9, 9, 999, 99, 7, 5, 5, 800};
        for (int i = 0; i < 8; i++) {
            int[] a = least.clone();
            a[i] = least[i] - 1;
            Checks.bad("would, below " + i, () -> x.would(a[0], a[1], a[2], a[3], a[4], a[5], a[6], a[7]));
            int[] b = most.clone();
            b[i] = most[i] + 1;
            Checks.bad("would, above " + i, () -> x.would(b[0], b[1], b[2], b[3], b[4], b[5], b[6], b[7]));
        }
        Checks.due("status(1)", x.status(1), 16);
    }
}
