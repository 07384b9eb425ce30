import java.math.BigInteger;
import java.util.ArrayDeque;
import java.util.ArrayList;
import java.util.Arrays;
import java.util.Deque;
import java.util.List;
import java.util.Map;
import java.util.NoSuchElementException;
import java.util.TreeMap;
import java.util.function.IntBinaryOperator;
import java.util.function.ToIntFunction;

/** The document once more, in the slowest and plainest way, to hold the program against in random runs. */
final class Model {
    static final List<String> VARIABLES = List.of("light", "dark", "still", "hunger", "seat", "sitter", "others", "day");

    static final class Fault extends RuntimeException {
        private static final long serialVersionUID = 1L;
        final int kind;
        final int place;

        Fault(int kind, int place) {
            super(kind + " at " + place, null, false, false);
            this.kind = kind;
            this.place = place;
        }
    }

    static final class State {
        final int[] light;
        final Map<Integer, Integer> seatOf = new TreeMap<>();
        final int[] still = new int[6];
        final int[] hunger = new int[6];
        final int[][] plate = new int[8][6];
        int day;
        int meals;

        State(int[] light, int meals) {
            this.light = light.clone();
            this.meals = meals;
        }

        State copy() {
            State s = new State(light, meals);
            s.seatOf.putAll(seatOf);
            System.arraycopy(still, 0, s.still, 0, 6);
            System.arraycopy(hunger, 0, s.hunger, 0, 6);
            for (int i = 0; i < 8; i++) {
                s.plate[i] = plate[i].clone();
            }
            s.day = day;
            return s;
        }
    }

    static final class Image {
        final State state;
        final Deque<State> works;

        Image(State state, Deque<State> works) {
            this.state = state.copy();
            this.works = new ArrayDeque<>(works);
        }
    }

    interface Step {
        void run();
    }

    static final class LeftOut extends RuntimeException {
        private static final long serialVersionUID = 1L;

        LeftOut() {
            super("left out", null, false, false);
        }
    }

    // ---- what was told
    String tape = "";
    int faultAt = -1;
    List<Integer> lights = new ArrayList<>();
    List<int[]> people = new ArrayList<>();
    List<Integer> sittings = new ArrayList<>();
    int year = 365;
    ToIntFunction<int[]> law = v -> v[0] * v[1];
    Map<Integer, Integer> book = new TreeMap<>();
    State now = new State(new int[8], 20);
    Deque<State> works = new ArrayDeque<>();
    Deque<Image> images = new ArrayDeque<>();
    int refused;
    int[] refusals = new int[2];

    // ---- reading
    private String text;
    private int at;
    private int open;

    private void blanks() {
        while (at < text.length() && text.charAt(at) == ' ') {
            at++;
        }
    }

    private boolean atEnd() {
        blanks();
        return at == text.length();
    }

    private boolean comes(String signs) {
        blanks();
        return at < text.length() && signs.indexOf(text.charAt(at)) >= 0;
    }

    private char sign(String signs) {
        if (!comes(signs)) {
            throw new Fault(1, at);
        }
        return text.charAt(at++);
    }

    private String run(char from, char to) {
        blanks();
        int start = at;
        while (at < text.length() && text.charAt(at) >= from && text.charAt(at) <= to) {
            at++;
        }
        if (start == at) {
            throw new Fault(1, start);
        }
        return text.substring(start, at);
    }

    private int number(int least, int most) {
        String digits = run('0', '9');
        BigInteger value = new BigInteger(digits);
        if (value.compareTo(BigInteger.valueOf(least)) < 0 || value.compareTo(BigInteger.valueOf(most)) > 0) {
            throw new Fault(2, at - digits.length());
        }
        return value.intValueExact();
    }

    private String word(String... known) {
        String word = run('a', 'z');
        if (!List.of(known).contains(word)) {
            throw new Fault(1, at - word.length());
        }
        return word;
    }

    private void readStudio() {
        List<Integer> newLights = new ArrayList<>();
        List<int[]> newPeople = new ArrayList<>();
        List<Integer> newSittings = new ArrayList<>();
        int newYear = 365;
        int meals = 20;
        for (int clauses = 0; !atEnd(); clauses++) {
            String word = word("seat", "sitter", "sitting", "year", "food");
            boolean full = clauses == 60
                || word.equals("seat") && newLights.size() == 8
                || word.equals("sitter") && newPeople.size() == 6
                || word.equals("sitting") && newSittings.size() == 8;
            if (full) {
                throw new Fault(3, at - word.length());
            }
            switch (word) {
                case "seat" -> newLights.add(number(0, 9));
                case "sitter" -> newPeople.add(new int[] {number(1, 9), number(1, 60)});
                case "sitting" -> newSittings.add(number(1, 400));
                case "year" -> newYear = number(1, 400);
                default -> meals = number(0, 99);
            }
            sign(";");
        }
        lights = newLights;
        people = newPeople;
        sittings = newSittings;
        year = newYear;
        int[] light = new int[8];
        for (int i = 0; i < lights.size(); i++) {
            light[i] = lights.get(i);
        }
        now = new State(light, meals);
        law = v -> v[0] * v[1];
        book = new TreeMap<>();
        works.clear();
        images.clear();
        refused = 0;
    }

    private void opens(int place) {
        if (open == 6) {
            throw new Fault(3, place);
        }
        open++;
    }

    private ToIntFunction<int[]> sum() {
        ToIntFunction<int[]> left = product();
        while (comes("+-")) {
            boolean plus = sign("+-") == '+';
            left = joined(left, product(), plus ? (a, b) -> a + b : (a, b) -> a - b);
        }
        return left;
    }

    private ToIntFunction<int[]> product() {
        ToIntFunction<int[]> left = unit();
        while (comes("*/%")) {
            char c = sign("*/%");
            IntBinaryOperator by = c == '*' ? (a, b) -> a * b
                : c == '/' ? (a, b) -> b == 0 ? 0 : (int) ((long) a / b)
                : (a, b) -> b == 0 ? 0 : (int) ((long) a % b);
            left = joined(left, unit(), by);
        }
        return left;
    }

    private static ToIntFunction<int[]> joined(ToIntFunction<int[]> a, ToIntFunction<int[]> b, IntBinaryOperator by) {
        return v -> by.applyAsInt(a.applyAsInt(v), b.applyAsInt(v));
    }

    private ToIntFunction<int[]> unit() {
        if (comes("0123456789")) {
            int n = number(0, 999);
            return v -> n;
        }
        if (comes("(")) {
            opens(at);
            sign("(");
            ToIntFunction<int[]> inner = sum();
            sign(")");
            open--;
            return inner;
        }
        String word = word("light", "dark", "still", "hunger", "seat", "sitter", "others", "day", "least", "most");
        int variable = VARIABLES.indexOf(word);
        if (variable >= 0) {
            return v -> v[variable];
        }
        opens(at - word.length());
        sign("[");
        ToIntFunction<int[]> a = sum();
        sign(",");
        ToIntFunction<int[]> b = sum();
        sign("]");
        open--;
        return joined(a, b, word.equals("least") ? Math::min : Math::max);
    }

    private void readLaw() {
        ToIntFunction<int[]> fresh = sum();
        if (!atEnd()) {
            throw new Fault(1, at);
        }
        law = fresh;
    }

    private void readBook() {
        Map<Integer, Integer> fresh = new TreeMap<>();
        while (!atEnd()) {
            blanks();
            int start = at;
            int seat = number(0, lights.size() - 1);
            if (fresh.containsKey(seat)) {
                throw new Fault(2, start);
            }
            fresh.put(seat, number(0, 9999));
            sign(";");
        }
        book = fresh;
    }

    private int begun;
    private int done;
    private int notDone;

    private void begin() {
        if (begun == 200) {
            throw new LeftOut();
        }
        begun++;
    }

    private Step tried(java.util.function.BooleanSupplier step) {
        return () -> {
            begin();
            if (step.getAsBoolean()) {
                done++;
            } else {
                notDone++;
            }
        };
    }

    private List<Step> steps(boolean inside) {
        List<Step> all = new ArrayList<>();
        while (inside ? !comes("]") : !atEnd()) {
            all.add(step());
            sign(";");
        }
        return all;
    }

    private Step step() {
        String word = word("sit", "rise", "feed", "curtain", "day", "again");
        switch (word) {
            case "sit": {
                int p = number(0, people.size() - 1);
                int s = number(0, lights.size() - 1);
                return tried(() -> sit(now, p, s));
            }
            case "rise": {
                int p = number(0, people.size() - 1);
                return tried(() -> now.seatOf.containsKey(p) && rise(now, p));
            }
            case "feed": {
                int p = number(0, people.size() - 1);
                return tried(() -> give(now, p));
            }
            case "curtain": {
                int s = number(0, lights.size() - 1);
                int l = number(0, 9);
                return tried(() -> {
                    boolean other = now.light[s] != l;
                    now.light[s] = l;
                    return other;
                });
            }
            case "day":
                return tried(() -> {
                    if (now.day == 800) {
                        return false;
                    }
                    day(now);
                    return true;
                });
            default: {
                opens(at - 5);
                int n = number(0, 60);
                sign("[");
                List<Step> body = steps(true);
                sign("]");
                open--;
                return () -> {
                    begin();
                    for (int i = 0; i < n; i++) {
                        body.forEach(Step::run);
                    }
                };
            }
        }
    }

    private void readWork() {
        List<Step> all = steps(false);
        works.push(now.copy());
        begun = 0;
        done = 0;
        notDone = 0;
        try {
            all.forEach(Step::run);
        } catch (LeftOut e) {
            // what would come behind is left out
        }
        refused = notDone;
    }

    // ---- steps
    private static boolean sit(State s, int p, int seat) {
        if (s.seatOf.containsValue(seat)) {
            return false;
        }
        s.seatOf.put(p, seat);
        s.still[p] = 0;
        return true;
    }

    private static boolean rise(State s, int p) {
        s.seatOf.remove(p);
        s.still[p] = 0;
        return true;
    }

    private static boolean give(State s, int p) {
        if (s.hunger[p] == 0 || s.meals == 0) {
            return false;
        }
        s.hunger[p] = 0;
        s.meals--;
        return true;
    }

    private int by(int... v) {
        return Math.max(0, Math.min(99, law.applyAsInt(v)));
    }

    private int markOf(State s, int p) {
        Integer seat = s.seatOf.get(p);
        return seat == null ? 0
            : by(s.light[seat], people.get(p)[0], s.still[p], s.hunger[p], seat, p, s.seatOf.size() - 1, s.day);
    }

    private int firstMark(int p, int seat) {
        return by(now.light[seat], people.get(p)[0], 0, 0, seat, p, 0, 0);
    }

    private void day(State s) {
        int[] marks = new int[6];
        for (int p : s.seatOf.keySet()) {
            marks[p] = markOf(s, p);
        }
        for (int p : s.seatOf.keySet()) {
            int seat = s.seatOf.get(p);
            s.plate[seat][p] = Math.min(9999, s.plate[seat][p] + marks[p]);
            s.still[p]++;
        }
        for (int p = 0; p < people.size(); p++) {
            s.hunger[p] = Math.min(99, s.hunger[p] + 1);
            if (s.seatOf.containsKey(p) && s.hunger[p] > people.get(p)[1]) {
                rise(s, p);
            }
        }
        s.day++;
    }

    // ---- asking
    private int onSeat(State s, int seat) {
        return Arrays.stream(s.plate[seat]).sum();
    }

    private int onPlate(State s) {
        return Arrays.stream(s.plate).flatMapToInt(Arrays::stream).sum();
    }

    private boolean seen(State s, int p, int seat) {
        return s.plate[seat][p] * 2 > onSeat(s, seat);
    }

    private int seenOn(State s, int seat) {
        for (int p = 0; p < people.size(); p++) {
            if (seen(s, p, seat)) {
                return p;
            }
        }
        return -1;
    }

    private interface Is {
        boolean so(int i);
    }

    private static int bits(int many, Is is) {
        int bits = 0;
        for (int i = 0; i < many; i++) {
            bits += is.so(i) ? 1 << i : 0;
        }
        return bits;
    }

    private int sitting(State s) {
        return bits(people.size(), s.seatOf::containsKey);
    }

    private int unseen(State s) {
        return bits(people.size(), p -> bits(lights.size(), seat -> seen(s, p, seat)) == 0);
    }

    private int selves(int p) {
        return bits(lights.size(), seat -> now.plate[seat][p] > 0);
    }

    private void seat(int seat) {
        if (seat < 0 || seat >= lights.size()) {
            throw new NoSuchElementException();
        }
    }

    private void sitter(int p) {
        if (p < 0 || p >= people.size()) {
            throw new NoSuchElementException();
        }
    }

    private void in(int v, int least, int most) {
        if (v < least || v > most) {
            throw new IllegalArgumentException();
        }
    }

    private int text(int n, int most, String kind) {
        in(n, 0, Math.min(most, tape.length()));
        text = tape.substring(0, n);
        tape = "";
        at = 0;
        open = 0;
        faultAt = -1;
        if (kind.equals("work") && works.size() == 16) {
            return -20;
        }
        try {
            switch (kind) {
                case "studio":
                    readStudio();
                    return people.size();
                case "law":
                    readLaw();
                    return 1;
                case "work":
                    readWork();
                    return done;
                default:
                    readBook();
                    return book.size();
            }
        } catch (Fault f) {
            faultAt = f.place;
            return f.kind - 10;
        }
    }

    private int meals(int p, int n) {
        // feeding as late as it goes is best
        int hunger = now.hunger[p];
        int meals = 0;
        for (int i = 0; i < n; i++) {
            if (hunger + 1 > people.get(p)[1]) {
                hunger = 0;
                meals++;
            }
            hunger++;
        }
        return meals;
    }

    private int[] goings(int p) {
        List<Integer> days = new ArrayList<>();
        for (Map.Entry<Integer, Integer> line : book.entrySet()) {
            int mark = firstMark(p, line.getKey());
            int k = 0;
            int there = 0;
            while (there < line.getValue() && mark > 0) {
                there += mark;
                k++;
            }
            if (there != line.getValue()) {
                return new int[] {0, -1};
            }
            days.add(k);
        }
        int length = days.stream().mapToInt(Integer::intValue).sum();
        BigInteger ways = factorial(length);
        for (int k : days) {
            ways = ways.divide(factorial(k));
        }
        return new int[] {ways.min(BigInteger.valueOf(1000000000)).intValueExact(), length};
    }

    private static BigInteger factorial(int n) {
        BigInteger f = BigInteger.ONE;
        for (int i = 2; i <= n; i++) {
            f = f.multiply(BigInteger.valueOf(i));
        }
        return f;
    }

    private int bestSum;
    private int[] bestWay;

    private void trySeats(int p, int[] way, int sum) {
        if (p == people.size()) {
            if (sum > bestSum) {
                bestSum = sum;
                bestWay = way.clone();
            }
            return;
        }
        for (int seat = 0; seat < lights.size(); seat++) {
            boolean free = true;
            for (int i = 0; i < p; i++) {
                free &= way[i] != seat;
            }
            if (free) {
                way[p] = seat;
                trySeats(p + 1, way, sum + firstMark(p, seat));
            }
        }
    }

    private void placing() {
        bestSum = -1;
        bestWay = new int[6];
        Arrays.fill(bestWay, -1);
        trySeats(0, new int[6], 0);
    }

    private int[] fewest(int most) {
        int k = sittings.size();
        int ways = 1;
        for (int i = 0; i < k; i++) {
            ways *= most;
        }
        for (int w = 0; w < ways; w++) {
            int[] years = new int[k];
            int rest = w;
            int[] load = new int[most];
            boolean fits = true;
            for (int i = k - 1; i >= 0; i--) {
                years[i] = rest % most;
                rest /= most;
                load[years[i]] += sittings.get(i);
                fits &= load[years[i]] <= year;
            }
            if (fits) {
                return years;
            }
        }
        return null;
    }

    private int packing(int sitting) {
        if (sittings.isEmpty()) {
            return 0;
        }
        for (int days : sittings) {
            if (days > year) {
                return -1;
            }
        }
        for (int most = 1; most <= 8; most++) {
            int[] years = fewest(most);
            if (years != null) {
                return sitting < 0 ? most : years[sitting];
            }
        }
        throw new AssertionError();
    }

    private int[] rests(int a, int b, int c) {
        int[][][] has = {{{a, a}, {0, c}}, {{c, 0}, {b, b}}};
        int many = 0;
        int first = -1;
        int both = 0;
        for (int i = 0; i < 2; i++) {
            for (int j = 0; j < 2; j++) {
                boolean rests = has[i][j][0] >= has[1 - i][j][0] && has[i][j][1] >= has[i][1 - j][1];
                if (rests && many++ == 0) {
                    first = 10 * i + j;
                    both = has[i][j][0] + has[i][j][1];
                }
            }
        }
        return new int[] {many, first, both};
    }

    private int food(int p, int bits, int n) {
        int bound = 0;
        for (int b = 1; b <= 99; b++) {
            int given = 0;
            for (int i = 0; i < people.size(); i++) {
                given += (bits >> i & 1) * Math.min(b, now.hunger[i]);
            }
            bound = given <= n ? b : bound;
        }
        return (bits >> p & 1) * Math.min(bound, now.hunger[p]);
    }

    private long drawn;

    private int draw(int by) {
        drawn = (drawn * 1103515245L + 12345L) & 0xFFFFFFFFL;
        return (int) ((drawn >> 16 & 0x7FFF) % by);
    }

    private State season(int seed, int q, int days) {
        State s = now.copy();
        drawn = seed & 0xFFFFFFFFL;
        for (int i = 0; i < days; i++) {
            if (!people.isEmpty()) {
                int p = draw(people.size());
                if (!lights.isEmpty()) {
                    sit(s, p, draw(lights.size()));
                }
                if (draw(16) < q) {
                    give(s, p);
                }
            }
            day(s);
        }
        return s;
    }

    private int top(int what, int many, int least, java.util.function.IntUnaryOperator value) {
        int best = -1;
        for (int i = 0; i < many; i++) {
            if (value.applyAsInt(i) >= least && (best < 0 || value.applyAsInt(i) > value.applyAsInt(best))) {
                best = i;
            }
        }
        return best < 0 || what == 0 ? best : value.applyAsInt(best);
    }

    private int[] pairs() {
        int many = 0;
        int first = -1;
        for (int i = people.size() - 1; i >= 0; i--) {
            for (int j = people.size() - 1; j > i; j--) {
                boolean on = false;
                for (int seat = 0; seat < lights.size(); seat++) {
                    on |= now.plate[seat][i] > 0 && now.plate[seat][j] > 0;
                }
                if (on) {
                    many++;
                    first = 10 * i + j;
                }
            }
        }
        return new int[] {many, first};
    }

    /** The answer to one call; what the call throws is thrown, and counted. */
    long answer(String call, int[] a) {
        try {
            return ask(call, a);
        } catch (NoSuchElementException e) {
            refusals[0]++;
            throw e;
        } catch (IllegalArgumentException e) {
            refusals[1]++;
            throw e;
        }
    }

    private long ask(String call, int[] a) {
        int seats = lights.size();
        int sitters = people.size();
        switch (call) {
            case "feed": {
                if (tape.length() + 20 > 600) {
                    return -1;
                }
                StringBuilder more = new StringBuilder(tape);
                for (int number : a) {
                    for (byte b : java.nio.ByteBuffer.allocate(4).putInt(number).array()) {
                        more.append((char) (b & 255));
                    }
                }
                tape = more.toString();
                return tape.length();
            }
            case "studio": return text(a[0], 600, call);
            case "law": return text(a[0], 150, call);
            case "work": return text(a[0], 150, call);
            case "book": return text(a[0], 100, call);
            case "fault": return faultAt;
            case "undo":
                if (works.isEmpty()) {
                    return -1;
                }
                now = works.pop().copy();
                refused = 0;
                return works.size();
            case "image":
                if (images.size() == 3) {
                    return -1;
                }
                images.push(new Image(now, works));
                return images.size();
            case "restore": {
                if (images.isEmpty()) {
                    return -1;
                }
                Image image = images.pop();
                now = image.state;
                works = image.works;
                refused = 0;
                return images.size();
            }
            case "status": return a[0] == 0 || a[0] == 1 ? refusals[a[0]] : -1;
            case "count": return a[0] == 0 ? images.size() : a[0] == 1 ? tape.length() : a[0] == 2 ? works.size() : -1;
            case "told": {
                in(a[0], 0, 10);
                int[] all = {seats, sitters, sittings.size(), now.day, now.meals, sitting(now), book.size(), refused,
                    onPlate(now), unseen(now), year};
                return all[a[0]];
            }
            case "seat": {
                seat(a[0]);
                in(a[1], 0, 3);
                int who = -1;
                for (Map.Entry<Integer, Integer> e : now.seatOf.entrySet()) {
                    who = e.getValue() == a[0] ? e.getKey() : who;
                }
                int[] all = {now.light[a[0]], who, onSeat(now, a[0]), seenOn(now, a[0])};
                return all[a[1]];
            }
            case "sitter": {
                sitter(a[0]);
                in(a[1], 0, 7);
                int p = a[0];
                int sum = 0;
                for (int seat = 0; seat < seats; seat++) {
                    sum += now.plate[seat][p];
                }
                int[] all = {people.get(p)[0], people.get(p)[1], now.seatOf.getOrDefault(p, -1), now.still[p], now.hunger[p],
                    selves(p), bits(seats, seat -> seen(now, p, seat)), sum};
                return all[a[1]];
            }
            default: return askMore(call, a, seats, sitters);
        }
    }

    private long askMore(String call, int[] a, int seats, int sitters) {
        switch (call) {
            case "plate":
                seat(a[0]);
                sitter(a[1]);
                return now.plate[a[0]][a[1]];
            case "sitting":
                if (a[0] < 0 || a[0] >= sittings.size()) {
                    throw new NoSuchElementException();
                }
                return sittings.get(a[0]);
            case "mark":
                sitter(a[0]);
                return markOf(now, a[0]);
            case "would": {
                int[] least = {0, 1, 0, 0, 0, 0, 0, 0};
                int[] most = {9, 9, 999, 99, 7, 5, 5, 800};
                for (int i = 0; i < 8; i++) {
                    in(a[i], least[i], most[i]);
                }
                return by(a);
            }
            case "share": {
                seat(a[0]);
                sitter(a[1]);
                in(a[2], 0, 1);
                BigInteger above = BigInteger.valueOf(now.plate[a[0]][a[1]]);
                BigInteger below = BigInteger.valueOf(Math.max(1, onSeat(now, a[0])));
                return (a[2] == 0 ? above : below).divide(above.gcd(below)).intValueExact();
            }
            case "ahead": {
                in(a[0], 0, 99);
                in(a[1], 0, 2);
                State s = now.copy();
                for (int i = 0; i < a[0]; i++) {
                    day(s);
                }
                return a[1] == 0 ? onPlate(s) : a[1] == 1 ? sitting(s) : unseen(s);
            }
            case "when": {
                sitter(a[0]);
                Integer seat = now.seatOf.get(a[0]);
                State s = now.copy();
                for (int i = 0; i <= 200 && seat != null; i++) {
                    if (seen(s, a[0], seat)) {
                        return i;
                    }
                    day(s);
                }
                return -1;
            }
            case "meals":
                sitter(a[0]);
                in(a[1], 0, 400);
                return meals(a[0], a[1]);
            case "need": {
                in(a[0], 0, 400);
                int sum = 0;
                for (int p : now.seatOf.keySet()) {
                    sum += meals(p, a[0]);
                }
                return sum;
            }
            case "goings":
                sitter(a[0]);
                in(a[1], 0, 1);
                return goings(a[0])[a[1]];
            case "bright":
                sitter(a[0]);
                return top(0, seats, 0, seat -> book.containsKey(seat) ? -1 : firstMark(a[0], seat));
            case "places":
                placing();
                return bestSum;
            case "placed":
                sitter(a[0]);
                placing();
                return bestWay[a[0]];
            case "packing": return packing(-1);
            case "packed":
                if (a[0] < 0 || a[0] >= sittings.size()) {
                    throw new NoSuchElementException();
                }
                return packing(a[0]);
            case "well": {
                in(a[0], 0, 16);
                in(a[1], 0, 12);
                in(a[2], 0, 1);
                BigInteger above = BigInteger.valueOf(16 - a[0]).pow(a[1]);
                BigInteger below = BigInteger.valueOf(16).pow(a[1]);
                return (a[2] == 0 ? above : below).divide(above.gcd(below)).longValueExact();
            }
            case "getsUp":
                in(a[0], 0, 99);
                in(a[1], 0, 99);
                in(a[2], 0, 99);
                in(a[3], 0, 2);
                return rests(a[0], a[1], a[2])[a[3]];
            case "food":
                sitter(a[0]);
                in(a[1], 0, (1 << sitters) - 1);
                in(a[2], 0, 999);
                return food(a[0], a[1], a[2]);
            default: return askMost(call, a, seats, sitters);
        }
    }

    private long askMost(String call, int[] a, int seats, int sitters) {
        switch (call) {
            case "darkest":
                in(a[0], 0, 1);
                return top(a[0], seats, 1, seat -> onSeat(now, seat));
            case "stillest":
                in(a[0], 0, 1);
                return top(a[0], sitters, 0, p -> now.seatOf.containsKey(p) ? now.still[p] : -1);
            case "hungriest":
                in(a[0], 0, 1);
                return top(a[0], sitters, 0, p -> now.hunger[p]);
            case "brightest":
                in(a[0], 0, 1);
                return top(a[0], seats, 0, seat -> now.light[seat]);
            case "stains":
                in(a[0], 0, 1);
                return pairs()[a[0]];
            case "empty":
                in(a[0], 0, 1);
                return bits(seats, seat -> a[0] == 0 ? !now.seatOf.containsValue(seat) : onSeat(now, seat) == 0);
            case "rising": {
                sitter(a[0]);
                State s = now.copy();
                int days = -1;
                for (int i = 1; s.seatOf.containsKey(a[0]); i++) {
                    day(s);
                    days = i;
                }
                return days;
            }
            case "gains": {
                sitter(a[0]);
                seat(a[1]);
                State s = now.copy();
                if (!s.seatOf.containsKey(a[0]) || !sit(s, a[0], a[1])) {
                    return -100;
                }
                return markOf(s, a[0]) - markOf(now, a[0]);
            }
            case "absent": return bits(sitters, p -> selves(p) == 0);
            case "crowd":
                seat(a[0]);
                return Arrays.stream(now.plate[a[0]]).filter(v -> v > 0).count();
            case "lead": {
                seat(a[0]);
                int[] sorted = now.plate[a[0]].clone();
                Arrays.sort(sorted);
                return sorted[5] - sorted[4];
            }
            case "season": {
                in(a[1], 0, 16);
                in(a[2], 1, 96);
                in(a[3], 0, 3);
                State s = season(a[0], a[1], a[2]);
                return a[3] == 0 ? onPlate(s) : a[3] == 1 ? sitting(s) : a[3] == 2 ? s.meals : unseen(s);
            }
            case "span": {
                in(a[1], 1, 20);
                in(a[2], 0, 16);
                in(a[3], 1, 96);
                in(a[4], 0, 2);
                int[] plates = new int[a[1]];
                int seen = 0;
                for (int i = 0; i < a[1]; i++) {
                    State s = season(a[0] + i, a[2], a[3]);
                    plates[i] = onPlate(s);
                    seen += unseen(s) == 0 ? 1 : 0;
                }
                Arrays.sort(plates);
                return a[4] == 0 ? plates[0] : a[4] == 1 ? plates[plates.length - 1] : seen;
            }
            default: throw new AssertionError(call);
        }
    }
}
