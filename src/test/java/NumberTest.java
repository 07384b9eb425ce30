import java.math.BigInteger;

/** Promises 26 to 28 and 45: illness, two who would get up, food; refusals counted. */
public final class NumberTest {
    public static void main(String[] args) {
        well();
        getsUp();
        food();
        status();
        Checks.end("NumberTest");
    }

    private static void well() {
        StillYear x = new StillYear();
        for (int q = 0; q <= 16; q++) {
            for (int n = 0; n <= 12; n++) {
                BigInteger above = BigInteger.valueOf(16 - q).pow(n);
                BigInteger below = BigInteger.valueOf(16).pow(n);
                BigInteger common = above.gcd(below);
                Checks.due("well(" + q + ", " + n + ", 0)", x.well(q, n, 0), above.divide(common).longValueExact());
                Checks.due("well(" + q + ", " + n + ", 1)", x.well(q, n, 1), below.divide(common).longValueExact());
            }
        }
        Checks.due("well(1, 12, 0)", x.well(1, 12, 0), 129746337890625L);
        Checks.due("well(1, 12, 1)", x.well(1, 12, 1), 281474976710656L);
        int[][] bad = {{-1, 0, 0}, {17, 0, 0}, {0, -1, 0}, {0, 13, 0}, {0, 0, -1}, {0, 0, 2}};
        for (int[] b : bad) {
            Checks.bad("well", () -> x.well(b[0], b[1], b[2]));
        }
    }

    private static void gets(StillYear x, int a, int b, int c, int... want) {
        for (int what = 0; what <= 2; what++) {
            Checks.due("getsUp(" + a + ", " + b + ", " + c + ", " + what + ")", x.getsUp(a, b, c, what), want[what]);
        }
    }

    private static void getsUp() {
        StillYear x = new StillYear();
        gets(x, 5, 0, 5, 4, 0, 10);
        gets(x, 5, 1, 5, 2, 0, 10);
        gets(x, 5, 0, 4, 2, 0, 10);
        gets(x, 5, 1, 6, 1, 11, 2);
        gets(x, 5, 0, 6, 3, 1, 6);
        gets(x, 0, 0, 0, 4, 0, 0);
        gets(x, 99, 99, 99, 2, 0, 198);
        gets(x, 98, 99, 99, 1, 11, 198);
        int[][] bad = {{-1, 0, 0, 0}, {100, 0, 0, 0}, {0, -1, 0, 0}, {0, 100, 0, 0}, {0, 0, -1, 0}, {0, 0, 100, 0},
            {0, 0, 0, -1}, {0, 0, 0, 3}};
        for (int[] b : bad) {
            Checks.bad("getsUp", () -> x.getsUp(b[0], b[1], b[2], b[3]));
        }
    }

    private static void gives(StillYear x, int sitters, int n, int... want) {
        for (int i = 0; i < want.length; i++) {
            Checks.due("food(" + i + ", " + sitters + ", " + n + ")", x.food(i, sitters, n), want[i]);
        }
    }

    private static void food() {
        StillYear x = Checks.in("seat 1;sitter 1 1;sitter 1 1;sitter 1 1;");
        gives(x, 7, 9, 0, 0, 0);
        Checks.work(x, "again 4[day;];feed 1;day;day;feed 2;day;");
        // hungers 7, 3, 1
        gives(x, 7, 11, 7, 3, 1);
        gives(x, 7, 999, 7, 3, 1);
        gives(x, 7, 10, 6, 3, 1);
        gives(x, 7, 7, 3, 3, 1);
        gives(x, 7, 6, 2, 2, 1);
        gives(x, 7, 3, 1, 1, 1);
        gives(x, 7, 2, 0, 0, 0);
        gives(x, 7, 0, 0, 0, 0);
        gives(x, 5, 5, 4, 0, 1);
        gives(x, 0, 5, 0, 0, 0);
        gives(x, 1, 5, 5, 0, 0);
        Checks.bad("a bit of no sitter", () -> x.food(0, 8, 5));
        Checks.bad("bits of all", () -> x.food(0, -1, 5));
        Checks.bad("n below", () -> x.food(0, 7, -1));
        Checks.bad("n above", () -> x.food(0, 7, 1000));
        Checks.unknown("no such sitter", () -> x.food(3, 8, -1));
        Checks.unknown("no such sitter", () -> x.food(-1, 8, -1));
        StillYear y = Checks.in(Checks.times(6, "sitter 1 1;"));
        Checks.work(y, "again 60[day;];again 60[day;];");
        gives(y, 63, 999, 99, 99, 99, 99, 99, 99);
        gives(y, 63, 593, 98, 98, 98, 98, 98, 98);
    }

    private static void status() {
        StillYear x = new StillYear();
        Checks.unknown("seat", () -> x.seat(0, 9));
        Checks.unknown("sitter", () -> x.sitter(0, 9));
        Checks.unknown("share", () -> x.share(0, 0, 9));
        Checks.bad("told", () -> x.told(-1));
        Checks.bad("book", () -> x.book(1));
        Checks.due("status(0)", x.status(0), 3);
        Checks.due("status(1)", x.status(1), 2);
        Checks.due("status(2)", x.status(2), StillYear.NONE);
        Checks.due("status(-1)", x.status(-1), StillYear.NONE);
        Checks.due("a fault is no refusal", Checks.law(x, ""), -9);
        x.undo();
        x.restore();
        x.image();
        Checks.unknown("when", () -> x.when(0));
        x.restore();
        Checks.due("a studio", Checks.studio(x, "seat 1;"), 0);
        Checks.due("status(0) stays", x.status(0), 4);
        Checks.due("status(1) stays", x.status(1), 2);
    }
}
