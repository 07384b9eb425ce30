import java.util.Arrays;
import java.util.NoSuchElementException;

/** A studio in which one holds still for a year, as ../shared/DOC.md tells it. */
public final class StillYear {
    public static final int NONE = -1;

    private static final int MOST_SEATS = 8;
    private static final int MOST_SITTERS = 6;
    private static final int MOST_SITTINGS = 8;
    private static final int MOST_WORKS = 16;
    private static final int MOST_IMAGES = 3;
    private static final int MOST_HUNGER = 99;
    private static final int LAST_DAY = 800;
    private static final int LATEST_SEEN = 200;
    private static final int LONGEST_FAST = 400;
    private static final int STUDIO_BYTES = 600;
    private static final int LAW_BYTES = 150;
    private static final int WORK_BYTES = 150;
    private static final int BOOK_BYTES = 100;
    private static final int WORKS_ARE_FULL = -20;
    private static final int NO_GAIN = -100;
    private static final long MOST_WAYS = 1000000000L;

    private final Tape tape;
    private final Places seating;
    private final Moment[] images;
    private Studio studio;
    private Law law;
    private Book book;
    private Scene now;
    private Scene trial;
    private Moment past;
    private int works;
    private int imageCount;
    private int refusedSteps;
    private int unknownElements;
    private int badArguments;

    public StillYear() {
        tape = new Tape();
        seating = new Places();
        images = new Moment[MOST_IMAGES];
        studio = new Studio();
        law = new Law();
        book = new Book();
        now = new Scene(studio);
        trial = new Scene(studio);
    }

    // ---- texts

    public int feed(int a, int b, int c, int d, int e) {
        if (!tape.hasRoom()) {
            return NONE;
        }
        tape.put(a);
        tape.put(b);
        tape.put(c);
        tape.put(d);
        tape.put(e);
        return tape.size;
    }

    public int studio(int n) throws IllegalArgumentException {
        openText(n, STUDIO_BYTES);
        Studio fresh = new Studio();
        if (!fresh.read(tape)) {
            return tape.faultAnswer();
        }
        begin(fresh);
        return studio.sitters;
    }

    public int law(int n) throws IllegalArgumentException {
        openText(n, LAW_BYTES);
        Law fresh = new Law();
        if (!fresh.read(tape)) {
            return tape.faultAnswer();
        }
        law = fresh;
        return 1;
    }

    public int work(int n) throws IllegalArgumentException {
        openText(n, WORK_BYTES);
        if (works >= MOST_WORKS) {
            return WORKS_ARE_FULL;
        }
        Work fresh = new Work();
        if (!fresh.read(tape, studio)) {
            return tape.faultAnswer();
        }
        past = momentNow();
        works++;
        fresh.run(now, law);
        refusedSteps = fresh.refused;
        return fresh.done;
    }

    public int book(int n) throws IllegalArgumentException {
        openText(n, BOOK_BYTES);
        Book fresh = new Book();
        if (!fresh.read(tape, studio.seats)) {
            return tape.faultAnswer();
        }
        book = fresh;
        return book.lines;
    }

    public int fault() {
        return tape.faultPlace;
    }

    // ---- going back

    public int undo() {
        if (past == null) {
            return NONE;
        }
        goBack(past);
        return works;
    }

    public int image() {
        if (imageCount >= MOST_IMAGES) {
            return NONE;
        }
        images[imageCount] = momentNow();
        imageCount++;
        return imageCount;
    }

    public int restore() {
        if (imageCount <= 0 || imageCount > MOST_IMAGES) {
            return NONE;
        }
        imageCount--;
        Moment latest = images[imageCount];
        images[imageCount] = null;
        if (latest != null) {
            goBack(latest);
        }
        return imageCount;
    }

    // ---- what is

    public int told(int what) throws IllegalArgumentException {
        switch (what) {
            case 0: return studio.seats;
            case 1: return studio.sitters;
            case 2: return studio.sittings;
            case 3: return now.day;
            case 4: return now.meals;
            case 5: return now.whoSits();
            case 6: return book.lines;
            case 7: return refusedSteps;
            case 8: return now.onPlate();
            case 9: return now.unseen();
            case 10: return studio.year;
            default: return refuseArgument();
        }
    }

    public int seat(int seat, int what) throws NoSuchElementException, IllegalArgumentException {
        needSeat(seat);
        switch (what) {
            case 0: return now.light[seat];
            case 1: return now.whoIsOn(seat);
            case 2: return now.onSeat(seat);
            case 3: return now.seenOn(seat);
            default: return refuseArgument();
        }
    }

    public int sitter(int sitter, int what) throws NoSuchElementException, IllegalArgumentException {
        needSitter(sitter);
        switch (what) {
            case 0: return studio.dark[sitter];
            case 1: return studio.fast[sitter];
            case 2: return now.place[sitter];
            case 3: return now.still[sitter];
            case 4: return now.hunger[sitter];
            case 5: return now.selvesOf(sitter);
            case 6: return now.whereSeen(sitter);
            case 7: return now.allOf(sitter);
            default: return refuseArgument();
        }
    }

    public int plate(int seat, int sitter) throws NoSuchElementException {
        needSeat(seat);
        needSitter(sitter);
        return now.amount(seat, sitter);
    }

    public int sitting(int sitting) throws NoSuchElementException {
        needSitting(sitting);
        return studio.days[sitting];
    }

    public int mark(int sitter) throws NoSuchElementException {
        needSitter(sitter);
        return now.markToday(law, sitter);
    }

    public int would(int light, int dark, int still, int hunger, int seat, int sitter, int others, int day)
            throws IllegalArgumentException {
        needRange(light, 0, 9);
        needRange(dark, 1, 9);
        needRange(still, 0, 999);
        needRange(hunger, 0, MOST_HUNGER);
        needRange(seat, 0, MOST_SEATS - 1);
        needRange(sitter, 0, MOST_SITTERS - 1);
        needRange(others, 0, MOST_SITTERS - 1);
        needRange(day, 0, LAST_DAY);
        law.askPlace(light, seat, still);
        law.askPerson(sitter, dark, hunger);
        law.askTime(others, day);
        return law.result();
    }

    public int share(int seat, int sitter, int part) throws NoSuchElementException, IllegalArgumentException {
        needSeat(seat);
        needSitter(sitter);
        needRange(part, 0, 1);
        int above = now.amount(seat, sitter);
        int below = now.onSeat(seat);
        int common = greatestCommon(above, below);
        if (above == 0 || common == 0) {
            return part == 0 ? 0 : 1;
        }
        return part == 0 ? above / common : below / common;
    }

    // ---- what would be

    public int ahead(int n, int what) throws IllegalArgumentException {
        needRange(n, 0, 99);
        needRange(what, 0, 2);
        trial.take(now);
        for (int i = 0; i < n; i++) {
            trial.passDay(law);
        }
        switch (what) {
            case 0: return trial.onPlate();
            case 1: return trial.whoSits();
            default: return trial.unseen();
        }
    }

    public int when(int sitter) throws NoSuchElementException {
        needSitter(sitter);
        int seat = now.place[sitter];
        if (seat == NONE) {
            return NONE;
        }
        trial.take(now);
        for (int days = 0; days <= LATEST_SEEN; days++) {
            if (trial.seenOn(seat) == sitter) {
                return days;
            }
            trial.passDay(law);
        }
        return NONE;
    }

    public int meals(int sitter, int n) throws NoSuchElementException, IllegalArgumentException {
        needSitter(sitter);
        needRange(n, 0, LONGEST_FAST);
        return mealsFor(sitter, n);
    }

    public int need(int n) throws IllegalArgumentException {
        needRange(n, 0, LONGEST_FAST);
        int together = 0;
        for (int sitter = 0; sitter < studio.sitters; sitter++) {
            if (now.sits(sitter)) {
                together += mealsFor(sitter, n);
            }
        }
        return together;
    }

    public int rising(int sitter) throws NoSuchElementException {
        needSitter(sitter);
        if (!now.sits(sitter)) {
            return NONE;
        }
        return Math.max(1, studio.fast[sitter] - now.hunger[sitter] + 1);
    }

    public int gains(int sitter, int seat) throws NoSuchElementException {
        needSitter(sitter);
        needSeat(seat);
        if (!now.sits(sitter) || now.whoIsOn(seat) != NONE) {
            return NO_GAIN;
        }
        int others = Integer.bitCount(now.whoSits()) - 1;
        return now.markOn(law, sitter, seat, 0, others) - now.markToday(law, sitter);
    }

    // ---- how he sat, and who is to sit where

    public int goings(int sitter, int what) throws NoSuchElementException, IllegalArgumentException {
        needSitter(sitter);
        needRange(what, 0, 1);
        int length = 0;
        long ways = 1;
        for (int seat = 0; seat < studio.seats; seat++) {
            int days = daysOn(sitter, seat);
            if (days == NONE) {
                return what == 0 ? 0 : NONE;
            }
            length += days;
            ways = Math.min(MOST_WAYS, ways * choices(length, days));
        }
        return what == 0 ? (int) ways : length;
    }

    public int bright(int sitter) throws NoSuchElementException {
        needSitter(sitter);
        int best = NONE;
        int most = NONE;
        for (int seat = 0; seat < studio.seats; seat++) {
            int mark = now.firstMark(law, sitter, seat);
            if (!book.hasLine(seat) && mark > most) {
                best = seat;
                most = mark;
            }
        }
        return best;
    }

    public int places() {
        if (studio.seats < studio.sitters) {
            return NONE;
        }
        seating.weigh(now, law);
        return seating.together();
    }

    public int placed(int sitter) throws NoSuchElementException {
        needSitter(sitter);
        if (studio.seats < studio.sitters) {
            return NONE;
        }
        seating.weigh(now, law);
        return seating.seatOf(sitter);
    }

    public int packing() {
        Packing packing = new Packing(studio);
        packing.search();
        return packing.isFound() ? packing.fewest : NONE;
    }

    public int packed(int sitting) throws NoSuchElementException {
        needSitting(sitting);
        Packing packing = new Packing(studio);
        packing.search();
        return packing.isFound() ? packing.best[sitting] : NONE;
    }

    // ---- illness, two who would get up, food

    public long well(int q, int n, int part) throws IllegalArgumentException {
        needRange(q, 0, 16);
        needRange(n, 0, 12);
        needRange(part, 0, 1);
        int wellOf16 = 16 - q;
        int common = Math.max(1, greatestCommon(wellOf16, 16));
        long base = part == 0 ? wellOf16 / common : 16 / common;
        long product = 1;
        for (int i = 0; i < n; i++) {
            product *= base;
        }
        return product;
    }

    public int getsUp(int a, int b, int c, int what) throws IllegalArgumentException {
        needRange(a, 0, 99);
        needRange(b, 0, 99);
        needRange(c, 0, 99);
        needRange(what, 0, 2);
        int many = 0;
        int first = NONE;
        int together = 0;
        for (int pair = 0; pair < 4; pair++) {
            int one = pair / 2;
            int other = pair % 2;
            if (rests(a, b, c, one, other)) {
                many++;
                if (first == NONE) {
                    first = 10 * one + other;
                    together = has(a, b, c, one, other) + has(a, b, c, other, one);
                }
            }
        }
        switch (what) {
            case 0: return many;
            case 1: return first;
            default: return together;
        }
    }

    public int food(int sitter, int sitters, int n) throws NoSuchElementException, IllegalArgumentException {
        needSitter(sitter);
        needRange(sitters, 0, (1 << studio.sitters) - 1);
        needRange(n, 0, 999);
        if (!hasBit(sitters, sitter)) {
            return 0;
        }
        int bound = MOST_HUNGER;
        while (bound > 0 && givenWithin(bound, sitters) > n) {
            bound--;
        }
        return Math.min(now.hunger[sitter], bound);
    }

    // ---- the plate at a glance

    public int darkest(int what) throws IllegalArgumentException {
        needRange(what, 0, 1);
        int best = NONE;
        int most = 0;
        for (int seat = 0; seat < studio.seats; seat++) {
            int all = now.onSeat(seat);
            if (all > most) {
                best = seat;
                most = all;
            }
        }
        return pick(what, best, most);
    }

    public int stillest(int what) throws IllegalArgumentException {
        needRange(what, 0, 1);
        int best = NONE;
        int most = NONE;
        for (int sitter = 0; sitter < studio.sitters; sitter++) {
            if (now.sits(sitter) && now.still[sitter] > most) {
                best = sitter;
                most = now.still[sitter];
            }
        }
        return pick(what, best, most);
    }

    public int stains(int what) throws IllegalArgumentException {
        needRange(what, 0, 1);
        int pairs = 0;
        int first = NONE;
        for (int lesser = 0; lesser < studio.sitters; lesser++) {
            for (int other = lesser + 1; other < studio.sitters; other++) {
                if ((now.selvesOf(lesser) & now.selvesOf(other)) != 0) {
                    pairs++;
                    first = first == NONE ? 10 * lesser + other : first;
                }
            }
        }
        return what == 0 ? pairs : first;
    }

    public int hungriest(int what) throws IllegalArgumentException {
        needRange(what, 0, 1);
        int best = NONE;
        int most = NONE;
        for (int sitter = 0; sitter < studio.sitters; sitter++) {
            if (now.hunger[sitter] > most) {
                best = sitter;
                most = now.hunger[sitter];
            }
        }
        return pick(what, best, most);
    }

    public int brightest(int what) throws IllegalArgumentException {
        needRange(what, 0, 1);
        int best = NONE;
        int most = NONE;
        for (int seat = 0; seat < studio.seats; seat++) {
            if (now.light[seat] > most) {
                best = seat;
                most = now.light[seat];
            }
        }
        return pick(what, best, most);
    }

    public int empty(int what) throws IllegalArgumentException {
        needRange(what, 0, 1);
        int bits = 0;
        for (int seat = 0; seat < studio.seats; seat++) {
            boolean bare = what == 0 ? now.whoIsOn(seat) == NONE : now.onSeat(seat) == 0;
            if (bare) {
                bits |= 1 << seat;
            }
        }
        return bits;
    }

    public int absent() {
        int bits = 0;
        for (int sitter = 0; sitter < studio.sitters; sitter++) {
            if (now.selvesOf(sitter) == 0) {
                bits |= 1 << sitter;
            }
        }
        return bits;
    }

    public int crowd(int seat) throws NoSuchElementException {
        needSeat(seat);
        int many = 0;
        for (int sitter = 0; sitter < studio.sitters; sitter++) {
            if (now.amount(seat, sitter) > 0) {
                many++;
            }
        }
        return many;
    }

    public int lead(int seat) throws NoSuchElementException {
        needSeat(seat);
        int most = 0;
        int next = 0;
        for (int sitter = 0; sitter < studio.sitters; sitter++) {
            int amount = now.amount(seat, sitter);
            next = Math.max(next, Math.min(most, amount));
            most = Math.max(most, amount);
        }
        return most - next;
    }

    // ---- years by seeds

    public int season(int seed, int q, int days, int what) throws IllegalArgumentException {
        needRange(q, 0, 16);
        needRange(days, 1, 96);
        needRange(what, 0, 3);
        playSeason(seed, q, days);
        switch (what) {
            case 0: return trial.onPlate();
            case 1: return trial.whoSits();
            case 2: return trial.meals;
            default: return trial.unseen();
        }
    }

    public int span(int seed, int many, int q, int days, int what) throws IllegalArgumentException {
        needRange(many, 1, 20);
        needRange(q, 0, 16);
        needRange(days, 1, 96);
        needRange(what, 0, 2);
        int least = NONE;
        int most = 0;
        int allSeen = 0;
        for (int i = 0; i < many; i++) {
            playSeason(seed + i, q, days);
            int onPlate = trial.onPlate();
            least = least == NONE ? onPlate : Math.min(least, onPlate);
            most = Math.max(most, onPlate);
            allSeen += trial.unseen() == 0 ? 1 : 0;
        }
        switch (what) {
            case 0: return least;
            case 1: return most;
            default: return allSeen;
        }
    }

    // ---- counts

    public int status(int what) {
        switch (what) {
            case 0: return unknownElements;
            case 1: return badArguments;
            default: return NONE;
        }
    }

    public int count(int what) {
        switch (what) {
            case 0: return imageCount;
            case 1: return tape.size;
            case 2: return works;
            default: return NONE;
        }
    }

    // ---- refusals

    private int refuseArgument() {
        badArguments++;
        throw new IllegalArgumentException();
    }

    private int refuseElement() {
        unknownElements++;
        throw new NoSuchElementException();
    }

    private void needRange(int value, int least, int most) {
        if (value < least || value > most) {
            refuseArgument();
        }
    }

    private void needSeat(int seat) {
        if (seat < 0 || seat >= studio.seats) {
            refuseElement();
        }
    }

    private void needSitter(int sitter) {
        if (sitter < 0 || sitter >= studio.sitters) {
            refuseElement();
        }
    }

    private void needSitting(int sitting) {
        if (sitting < 0 || sitting >= studio.sittings) {
            refuseElement();
        }
    }

    // ---- the parts that several calls share

    private void openText(int n, int mostBytes) {
        needRange(n, 0, Math.min(mostBytes, tape.size));
        tape.open(n);
    }

    private void begin(Studio fresh) {
        studio = fresh;
        law = new Law();
        book = new Book();
        now = new Scene(fresh);
        trial = new Scene(fresh);
        past = null;
        works = 0;
        imageCount = 0;
        refusedSteps = 0;
    }

    private Moment momentNow() {
        Scene kept = new Scene(studio);
        kept.take(now);
        return new Moment(kept, past, works);
    }

    private void goBack(Moment moment) {
        now.take(moment.scene);
        past = moment.past;
        works = moment.works;
        refusedSteps = 0;
    }

    private int mealsFor(int sitter, int days) {
        int fast = Math.max(1, studio.fast[sitter]);
        int unfed = days - Math.max(0, fast - now.hunger[sitter]);
        return unfed <= 0 ? 0 : (unfed + fast - 1) / fast;
    }

    /** How many DAYS he sat on a SEAT by the BOOK; NONE: none do. */
    private int daysOn(int sitter, int seat) {
        int amount = book.amountOn(seat);
        if (amount == 0) {
            return 0;
        }
        int mark = now.firstMark(law, sitter, seat);
        if (mark <= 0 || amount % mark != 0) {
            return NONE;
        }
        return amount / mark;
    }

    /** In how many ways some of so many DAYS are chosen, cut; it grows step by step, so it may stop at the cut. */
    private static long choices(int days, int chosen) {
        int fewer = Math.min(chosen, days - chosen);
        long ways = 1;
        for (int i = 1; i <= fewer && ways < MOST_WAYS; i++) {
            ways = ways * (days - fewer + i) / i;
        }
        return Math.min(MOST_WAYS, ways);
    }

    private int givenWithin(int bound, int sitters) {
        int given = 0;
        for (int sitter = 0; sitter < studio.sitters; sitter++) {
            if (hasBit(sitters, sitter)) {
                given += Math.min(now.hunger[sitter], bound);
            }
        }
        return given;
    }

    /** What one has who does one thing (1: he gets up) while the other one does another. */
    private static int has(int a, int b, int c, int one, int other) {
        if (one == other) {
            return one == 0 ? a : b;
        }
        return one == 1 ? c : 0;
    }

    private static boolean rests(int a, int b, int c, int one, int other) {
        return has(a, b, c, one, other) >= has(a, b, c, 1 - one, other)
            && has(a, b, c, other, one) >= has(a, b, c, 1 - other, one);
    }

    private void playSeason(int seed, int q, int days) {
        trial.take(now);
        Seed drawn = new Seed(seed);
        for (int i = 0; i < days; i++) {
            if (studio.sitters > 0) {
                playDrawnSteps(drawn, q);
            }
            trial.passDay(law);
        }
    }

    private void playDrawnSteps(Seed drawn, int q) {
        int sitter = drawn.nextBelow(studio.sitters);
        if (studio.seats > 0) {
            trial.letSit(sitter, drawn.nextBelow(studio.seats));
        }
        if (drawn.nextBelow(16) < q) {
            trial.giveMeal(sitter);
        }
    }

    private static int pick(int what, int best, int most) {
        if (best == NONE) {
            return NONE;
        }
        return what == 0 ? best : most;
    }

    private static boolean hasBit(int bits, int number) {
        return (bits >> number & 1) == 1;
    }

    private static int greatestCommon(int a, int b) {
        int greater = a;
        int lesser = b;
        for (int i = 0; i < 64 && lesser != 0; i++) {
            int left = greater % lesser;
            greater = lesser;
            lesser = left;
        }
        return greater;
    }

    /** The bytes that were fed, and the place up to which a text of them was read. */
    private static final class Tape {
        static final int END = -1;
        static final int MISPLACED = 1;
        static final int NO_SUCH_NUMBER = 2;
        static final int TOO_MANY = 3;
        static final int MOST_OPEN = 6;
        private static final int BYTES_FED = 20;
        private static final int GREATEST_NUMBER = 1000000;

        private final int[] bytes = new int[STUDIO_BYTES];
        int size;
        int faultPlace = NONE;
        private int faultKind;
        private int end;
        private int at;
        private int start;

        boolean hasRoom() {
            return size + BYTES_FED <= bytes.length;
        }

        void put(int number) {
            for (int shift = 24; shift >= 0; shift -= 8) {
                if (size < bytes.length) {
                    bytes[size] = number >> shift & 255;
                    size++;
                }
            }
        }

        /** Begins to read the first bytes as a text; the TAPE is empty from now on, the text stays readable until bytes are fed. */
        void open(int length) {
            end = length;
            at = 0;
            start = 0;
            size = 0;
            faultPlace = NONE;
            faultKind = 0;
        }

        int faultAnswer() {
            return faultKind - 10;
        }

        /** The next byte that is no blank, not taken yet; END behind the text. */
        int peek() {
            while (at < end && byteAt(at) == ' ') {
                at++;
            }
            return at < end ? byteAt(at) : END;
        }

        void skip() {
            at++;
        }

        boolean sign(char wanted) {
            if (peek() != wanted) {
                return failHere();
            }
            at++;
            return true;
        }

        boolean readWord() {
            peek();
            start = at;
            while (at < end && isLetter(byteAt(at))) {
                at++;
            }
            return at > start || failHere();
        }

        boolean wordIs(String word) {
            if (at - start != word.length()) {
                return false;
            }
            for (int i = 0; i < word.length(); i++) {
                if (byteAt(start + i) != word.charAt(i)) {
                    return false;
                }
            }
            return true;
        }

        /** A number in these bounds; NONE: a FAULT. */
        int readNumber(int least, int most) {
            peek();
            start = at;
            int value = 0;
            while (at < end && isDigit(byteAt(at))) {
                value = Math.min(GREATEST_NUMBER, value * 10 + byteAt(at) - '0');
                at++;
            }
            if (at == start) {
                failHere();
                return NONE;
            }
            if (value < least || value > most) {
                failAtStart(NO_SUCH_NUMBER);
                return NONE;
            }
            return value;
        }

        /** The FAULT stands where reading has come to. */
        boolean failHere() {
            faultKind = MISPLACED;
            faultPlace = at;
            return false;
        }

        /** The FAULT stands at the word, number or sign that was read last. */
        boolean failAtStart(int kind) {
            faultKind = kind;
            faultPlace = start;
            return false;
        }

        /** For a sign that is no word: it is what was read last. */
        void startHere() {
            start = at;
        }

        private int byteAt(int index) {
            return index >= 0 && index < bytes.length ? bytes[index] : END;
        }

        static boolean isLetter(int sign) {
            return sign >= 'a' && sign <= 'z';
        }

        static boolean isDigit(int sign) {
            return sign >= '0' && sign <= '9';
        }
    }

    /** What a STUDIO's text tells. */
    private static final class Studio {
        private static final int MOST_CLAUSES = 60;

        final int[] light = new int[MOST_SEATS];
        final int[] dark = new int[MOST_SITTERS];
        final int[] fast = new int[MOST_SITTERS];
        final int[] days = new int[MOST_SITTINGS];
        int seats;
        int sitters;
        int sittings;
        int year = 365;
        int meals = 20;

        boolean read(Tape tape) {
            for (int clauses = 0; clauses <= MOST_CLAUSES; clauses++) {
                if (tape.peek() == Tape.END) {
                    return true;
                }
                if (!tape.readWord() || !readClause(tape, clauses) || !tape.sign(';')) {
                    return false;
                }
            }
            return false;
        }

        private boolean readClause(Tape tape, int before) {
            if (tape.wordIs("seat")) {
                return hasRoom(tape, before, seats, MOST_SEATS) && readSeat(tape);
            }
            if (tape.wordIs("sitter")) {
                return hasRoom(tape, before, sitters, MOST_SITTERS) && readSitter(tape);
            }
            if (tape.wordIs("sitting")) {
                return hasRoom(tape, before, sittings, MOST_SITTINGS) && readSitting(tape);
            }
            if (tape.wordIs("year")) {
                return hasRoom(tape, before, 0, 1) && readYear(tape);
            }
            if (tape.wordIs("food")) {
                return hasRoom(tape, before, 0, 1) && readFood(tape);
            }
            return tape.failAtStart(Tape.MISPLACED);
        }

        private static boolean hasRoom(Tape tape, int clauses, int alike, int mostAlike) {
            return clauses < MOST_CLAUSES && alike < mostAlike || tape.failAtStart(Tape.TOO_MANY);
        }

        private boolean readSeat(Tape tape) {
            int brightness = tape.readNumber(0, 9);
            if (brightness == NONE) {
                return false;
            }
            light[seats] = brightness;
            seats++;
            return true;
        }

        private boolean readSitter(Tape tape) {
            int darkness = tape.readNumber(1, 9);
            if (darkness == NONE) {
                return false;
            }
            int longest = tape.readNumber(1, 60);
            if (longest == NONE) {
                return false;
            }
            dark[sitters] = darkness;
            fast[sitters] = longest;
            sitters++;
            return true;
        }

        private boolean readSitting(Tape tape) {
            int length = tape.readNumber(1, 400);
            if (length == NONE) {
                return false;
            }
            days[sittings] = length;
            sittings++;
            return true;
        }

        private boolean readYear(Tape tape) {
            year = tape.readNumber(1, 400);
            return year != NONE;
        }

        private boolean readFood(Tape tape) {
            meals = tape.readNumber(0, 99);
            return meals != NONE;
        }
    }

    /** A LAW as a row of codes, each behind what it joins, so that it is worked out without a tree. */
    private static final class Law {
        private static final int LIGHT = 0;
        private static final int DARK = 1;
        private static final int STILL = 2;
        private static final int HUNGER = 3;
        private static final int SEAT = 4;
        private static final int SITTER = 5;
        private static final int OTHERS = 6;
        private static final int DAY = 7;
        // Codes below ASKED are numbers that stand in the text, codes from PLUS on join two values.
        private static final int ASKED = 1000;
        private static final int PLUS = 1008;
        private static final int MINUS = 1009;
        private static final int TIMES = 1010;
        private static final int OVER = 1011;
        private static final int LEFT = 1012;
        private static final int LEAST = 1013;
        private static final int MOST = 1014;
        private static final int GREATEST_MARK = 99;
        private static final int MOST_WAITING = 64;

        private final int[] codes = new int[LAW_BYTES];
        private final int[] waiting = new int[MOST_WAITING];
        private final int[] asked = new int[8];
        private int length;

        Law() {
            codes[0] = ASKED + LIGHT;
            codes[1] = ASKED + DARK;
            codes[2] = TIMES;
            length = 3;
        }

        void askPlace(int light, int seat, int still) {
            asked[LIGHT] = light;
            asked[SEAT] = seat;
            asked[STILL] = still;
        }

        void askPerson(int sitter, int dark, int hunger) {
            asked[SITTER] = sitter;
            asked[DARK] = dark;
            asked[HUNGER] = hunger;
        }

        void askTime(int others, int day) {
            asked[OTHERS] = others;
            asked[DAY] = day;
        }

        /** The MARK for what was asked last. */
        int result() {
            int top = 0;
            for (int i = 0; i < length && i < codes.length; i++) {
                int code = codes[i];
                if (code < PLUS) {
                    if (top < waiting.length) {
                        waiting[top] = valueOf(code);
                        top++;
                    }
                } else if (top >= 2) {
                    top--;
                    waiting[top - 1] = join(code, waiting[top - 1], waiting[top]);
                }
            }
            return top == 0 ? 0 : Math.max(0, Math.min(GREATEST_MARK, waiting[top - 1]));
        }

        private int valueOf(int code) {
            int index = code - ASKED;
            return index >= 0 && index < asked.length ? asked[index] : code;
        }

        private static int join(int code, int a, int b) {
            switch (code) {
                case PLUS: return a + b;
                case MINUS: return a - b;
                case TIMES: return a * b;
                case OVER: return b == 0 ? 0 : a / b;
                case LEFT: return b == 0 ? 0 : a % b;
                case LEAST: return Math.min(a, b);
                default: return Math.max(a, b);
            }
        }

        boolean read(Tape tape) {
            length = 0;
            if (!readSum(tape, 0)) {
                return false;
            }
            return tape.peek() == Tape.END || tape.failHere();
        }

        private boolean readSum(Tape tape, int open) {
            if (!readProduct(tape, open)) {
                return false;
            }
            for (int i = 0; i < LAW_BYTES; i++) {
                int sign = tape.peek();
                if (sign != '+' && sign != '-') {
                    return true;
                }
                tape.skip();
                if (!readProduct(tape, open)) {
                    return false;
                }
                add(sign == '+' ? PLUS : MINUS);
            }
            return true;
        }

        private boolean readProduct(Tape tape, int open) {
            if (!readUnit(tape, open)) {
                return false;
            }
            for (int i = 0; i < LAW_BYTES; i++) {
                int sign = tape.peek();
                if (sign != '*' && sign != '/' && sign != '%') {
                    return true;
                }
                tape.skip();
                if (!readUnit(tape, open)) {
                    return false;
                }
                add(sign == '*' ? TIMES : sign == '/' ? OVER : LEFT);
            }
            return true;
        }

        private boolean readUnit(Tape tape, int open) {
            int sign = tape.peek();
            if (Tape.isDigit(sign)) {
                int number = tape.readNumber(0, ASKED - 1);
                return number != NONE && add(number);
            }
            if (sign == '(') {
                return readBracket(tape, open);
            }
            if (!tape.readWord()) {
                return false;
            }
            if (tape.wordIs("least")) {
                return readPair(tape, open, LEAST);
            }
            if (tape.wordIs("most")) {
                return readPair(tape, open, MOST);
            }
            int variable = variableNamed(tape);
            return variable == NONE ? tape.failAtStart(Tape.MISPLACED) : add(ASKED + variable);
        }

        private boolean readBracket(Tape tape, int open) {
            if (open >= Tape.MOST_OPEN) {
                tape.startHere();
                return tape.failAtStart(Tape.TOO_MANY);
            }
            tape.skip();
            return readSum(tape, open + 1) && tape.sign(')');
        }

        private boolean readPair(Tape tape, int open, int code) {
            if (open >= Tape.MOST_OPEN) {
                return tape.failAtStart(Tape.TOO_MANY);
            }
            return tape.sign('[') && readSum(tape, open + 1)
                && tape.sign(',') && readSum(tape, open + 1)
                && tape.sign(']') && add(code);
        }

        private static int variableNamed(Tape tape) {
            return tape.wordIs("light") ? LIGHT
                : tape.wordIs("dark") ? DARK
                : tape.wordIs("still") ? STILL
                : tape.wordIs("hunger") ? HUNGER
                : tape.wordIs("seat") ? SEAT
                : tape.wordIs("sitter") ? SITTER
                : tape.wordIs("others") ? OTHERS
                : tape.wordIs("day") ? DAY
                : NONE;
        }

        private boolean add(int code) {
            if (length < codes.length) {
                codes[length] = code;
                length++;
            }
            return true;
        }
    }

    /** WORK as a row of STEPS; an again knows its end, an end its again. */
    private static final class Work {
        private static final int SIT = 0;
        private static final int RISE = 1;
        private static final int FEED = 2;
        private static final int CURTAIN = 3;
        private static final int DAY = 4;
        private static final int AGAIN = 5;
        private static final int END_OF_AGAIN = 6;
        private static final int MOST_BEGUN = 200;
        private static final int MOST_ROUNDS = 60;
        // The shortest STEP has four bytes, so a text has fewer STEPS than this.
        private static final int MOST_STEPS = 64;
        // Each again that is begun ends at most MOST_ROUNDS rounds.
        private static final int MOST_TURNS = 100000;

        private final int[] kinds = new int[MOST_STEPS];
        private final int[] firsts = new int[MOST_STEPS];
        private final int[] seconds = new int[MOST_STEPS];
        private final int[] roundsLeft = new int[MOST_STEPS];
        private final int[] openAgains = new int[Tape.MOST_OPEN];
        private int open;
        private int length;
        int done;
        int refused;

        boolean read(Tape tape, Studio studio) {
            for (int i = 0; i <= WORK_BYTES; i++) {
                int sign = tape.peek();
                if (sign == Tape.END && open == 0) {
                    return true;
                }
                boolean fine = sign == ']' && open > 0 ? readEnd(tape) : tape.readWord() && readStep(tape, studio);
                if (!fine) {
                    return false;
                }
            }
            return false;
        }

        private boolean readStep(Tape tape, Studio studio) {
            if (tape.wordIs("sit")) {
                return readNumbered(tape, SIT, studio.sitters, studio.seats);
            }
            if (tape.wordIs("rise")) {
                return readNumbered(tape, RISE, studio.sitters, 0);
            }
            if (tape.wordIs("feed")) {
                return readNumbered(tape, FEED, studio.sitters, 0);
            }
            if (tape.wordIs("curtain")) {
                return readNumbered(tape, CURTAIN, studio.seats, 10);
            }
            if (tape.wordIs("day")) {
                return add(DAY, 0, 0) && tape.sign(';');
            }
            if (tape.wordIs("again")) {
                return readAgain(tape);
            }
            return tape.failAtStart(Tape.MISPLACED);
        }

        /** A STEP with one number, or with two, each below its bound; it is a sit or a curtain that has a second one. */
        private boolean readNumbered(Tape tape, int kind, int firstBound, int secondBound) {
            int first = tape.readNumber(0, firstBound - 1);
            if (first == NONE) {
                return false;
            }
            int second = 0;
            if (kind == SIT || kind == CURTAIN) {
                second = tape.readNumber(0, secondBound - 1);
            }
            return second != NONE && add(kind, first, second) && tape.sign(';');
        }

        private boolean readAgain(Tape tape) {
            if (open >= openAgains.length) {
                return tape.failAtStart(Tape.TOO_MANY);
            }
            int rounds = tape.readNumber(0, MOST_ROUNDS);
            if (rounds == NONE || !tape.sign('[')) {
                return false;
            }
            openAgains[open] = length;
            open++;
            return add(AGAIN, rounds, 0);
        }

        /** Only while an again is open. */
        private boolean readEnd(Tape tape) {
            tape.skip();
            open--;
            int again = openAgains[open];
            if (again >= 0 && again < seconds.length) {
                seconds[again] = length;
            }
            return add(END_OF_AGAIN, again, 0) && tape.sign(';');
        }

        private boolean add(int kind, int first, int second) {
            if (length < kinds.length) {
                kinds[length] = kind;
                firsts[length] = first;
                seconds[length] = second;
                length++;
            }
            return true;
        }

        void run(Scene scene, Law law) {
            int at = 0;
            int begun = 0;
            for (int turn = 0; turn < MOST_TURNS && at >= 0 && at < length; turn++) {
                if (kinds[at] == END_OF_AGAIN) {
                    at = behindRound(at);
                } else if (begun >= MOST_BEGUN) {
                    return;
                } else if (kinds[at] == AGAIN) {
                    begun++;
                    at = intoAgain(at);
                } else {
                    begun++;
                    boolean wasDone = tryStep(at, scene, law);
                    done += wasDone ? 1 : 0;
                    refused += wasDone ? 0 : 1;
                    at++;
                }
            }
        }

        private int intoAgain(int at) {
            roundsLeft[at] = firsts[at];
            return firsts[at] == 0 ? seconds[at] + 1 : at + 1;
        }

        private int behindRound(int at) {
            int again = firsts[at];
            if (again < 0 || again >= roundsLeft.length) {
                return at + 1;
            }
            roundsLeft[again]--;
            return roundsLeft[again] > 0 ? again + 1 : at + 1;
        }

        private boolean tryStep(int at, Scene scene, Law law) {
            switch (kinds[at]) {
                case SIT: return scene.letSit(firsts[at], seconds[at]);
                case RISE: return scene.letRise(firsts[at]);
                case FEED: return scene.giveMeal(firsts[at]);
                case CURTAIN: return scene.drawCurtain(firsts[at], seconds[at]);
                default: break;
            }
            if (scene.day >= LAST_DAY) {
                return false;
            }
            scene.passDay(law);
            return true;
        }
    }

    /** What a BOOK's lines tell, by SEAT. */
    private static final class Book {
        private static final int MOST_LINES = 8;
        private static final int MOST_TOLD = 9999;

        private final int[] amounts = new int[MOST_SEATS];
        private int seatsInLines;
        int lines;

        boolean hasLine(int seat) {
            return hasBit(seatsInLines, seat);
        }

        /** 0 also for a SEAT in no line. */
        int amountOn(int seat) {
            return amounts[seat];
        }

        boolean read(Tape tape, int seats) {
            for (int i = 0; i <= MOST_LINES; i++) {
                if (tape.peek() == Tape.END) {
                    return true;
                }
                if (!readLine(tape, seats) || !tape.sign(';')) {
                    return false;
                }
            }
            return false;
        }

        private boolean readLine(Tape tape, int seats) {
            int seat = tape.readNumber(0, seats - 1);
            if (seat == NONE) {
                return false;
            }
            if (hasLine(seat)) {
                return tape.failAtStart(Tape.NO_SUCH_NUMBER);
            }
            if (lines >= MOST_LINES) {
                return tape.failAtStart(Tape.TOO_MANY);
            }
            int amount = tape.readNumber(0, MOST_TOLD);
            if (amount == NONE) {
                return false;
            }
            amounts[seat] = amount;
            seatsInLines |= 1 << seat;
            lines++;
            return true;
        }
    }

    /** All that WORK changes. */
    private static final class Scene {
        private static final int MOST_OF_ONE = 9999;

        private final Studio studio;
        final int[] light = new int[MOST_SEATS];
        final int[] place = new int[MOST_SITTERS];
        final int[] still = new int[MOST_SITTERS];
        final int[] hunger = new int[MOST_SITTERS];
        private final int[] plate = new int[MOST_SEATS * MOST_SITTERS];
        int day;
        int meals;

        Scene(Studio told) {
            studio = told;
            System.arraycopy(told.light, 0, light, 0, MOST_SEATS);
            Arrays.fill(place, NONE);
            meals = told.meals;
        }

        void take(Scene other) {
            System.arraycopy(other.light, 0, light, 0, light.length);
            System.arraycopy(other.place, 0, place, 0, place.length);
            System.arraycopy(other.still, 0, still, 0, still.length);
            System.arraycopy(other.hunger, 0, hunger, 0, hunger.length);
            System.arraycopy(other.plate, 0, plate, 0, plate.length);
            day = other.day;
            meals = other.meals;
        }

        boolean letSit(int sitter, int seat) {
            if (whoIsOn(seat) != NONE) {
                return false;
            }
            place[sitter] = seat;
            still[sitter] = 0;
            return true;
        }

        boolean letRise(int sitter) {
            if (!sits(sitter)) {
                return false;
            }
            place[sitter] = NONE;
            still[sitter] = 0;
            return true;
        }

        boolean giveMeal(int sitter) {
            if (hunger[sitter] == 0 || meals == 0) {
                return false;
            }
            hunger[sitter] = 0;
            meals--;
            return true;
        }

        boolean drawCurtain(int seat, int brightness) {
            if (light[seat] == brightness) {
                return false;
            }
            light[seat] = brightness;
            return true;
        }

        void passDay(Law law) {
            int others = Integer.bitCount(whoSits()) - 1;
            for (int sitter = 0; sitter < studio.sitters; sitter++) {
                if (sits(sitter)) {
                    int mark = markOn(law, sitter, place[sitter], still[sitter], others);
                    int cell = cellOf(place[sitter], sitter);
                    plate[cell] = Math.min(MOST_OF_ONE, plate[cell] + mark);
                    still[sitter]++;
                }
            }
            for (int sitter = 0; sitter < studio.sitters; sitter++) {
                hunger[sitter] = Math.min(MOST_HUNGER, hunger[sitter] + 1);
                if (hunger[sitter] > studio.fast[sitter]) {
                    letRise(sitter);
                }
            }
            day++;
        }

        int markOn(Law law, int sitter, int seat, int stillFor, int others) {
            law.askPlace(light[seat], seat, stillFor);
            law.askPerson(sitter, studio.dark[sitter], hunger[sitter]);
            law.askTime(others, day);
            return law.result();
        }

        int markToday(Law law, int sitter) {
            if (!sits(sitter)) {
                return 0;
            }
            int others = Integer.bitCount(whoSits()) - 1;
            return markOn(law, sitter, place[sitter], still[sitter], others);
        }

        int firstMark(Law law, int sitter, int seat) {
            law.askPlace(light[seat], seat, 0);
            law.askPerson(sitter, studio.dark[sitter], 0);
            law.askTime(0, 0);
            return law.result();
        }

        boolean sits(int sitter) {
            return place[sitter] != NONE;
        }

        int whoSits() {
            int bits = 0;
            for (int sitter = 0; sitter < studio.sitters; sitter++) {
                if (sits(sitter)) {
                    bits |= 1 << sitter;
                }
            }
            return bits;
        }

        int whoIsOn(int seat) {
            for (int sitter = 0; sitter < studio.sitters; sitter++) {
                if (place[sitter] == seat) {
                    return sitter;
                }
            }
            return NONE;
        }

        private static int cellOf(int seat, int sitter) {
            return seat * MOST_SITTERS + sitter;
        }

        int amount(int seat, int sitter) {
            return plate[cellOf(seat, sitter)];
        }

        int onSeat(int seat) {
            int all = 0;
            for (int sitter = 0; sitter < studio.sitters; sitter++) {
                all += amount(seat, sitter);
            }
            return all;
        }

        int onPlate() {
            int all = 0;
            for (int seat = 0; seat < studio.seats; seat++) {
                all += onSeat(seat);
            }
            return all;
        }

        int allOf(int sitter) {
            int all = 0;
            for (int seat = 0; seat < studio.seats; seat++) {
                all += amount(seat, sitter);
            }
            return all;
        }

        int selvesOf(int sitter) {
            int bits = 0;
            for (int seat = 0; seat < studio.seats; seat++) {
                if (amount(seat, sitter) > 0) {
                    bits |= 1 << seat;
                }
            }
            return bits;
        }

        int seenOn(int seat) {
            int all = onSeat(seat);
            for (int sitter = 0; sitter < studio.sitters; sitter++) {
                if (2 * amount(seat, sitter) > all) {
                    return sitter;
                }
            }
            return NONE;
        }

        int whereSeen(int sitter) {
            int bits = 0;
            for (int seat = 0; seat < studio.seats; seat++) {
                if (seenOn(seat) == sitter) {
                    bits |= 1 << seat;
                }
            }
            return bits;
        }

        int unseen() {
            int bits = (1 << studio.sitters) - 1;
            for (int seat = 0; seat < studio.seats; seat++) {
                int seen = seenOn(seat);
                if (seen != NONE) {
                    bits &= ~(1 << seen);
                }
            }
            return bits;
        }
    }

    /** A scene to go back to, with the WORKS that could be undone then. */
    private static final class Moment {
        final Scene scene;
        final Moment past;
        final int works;

        Moment(Scene kept, Moment before, int worksBefore) {
            scene = kept;
            past = before;
            works = worksBefore;
        }
    }

    /** PLACES, by what is the most that can still come once the first SITTERS sit on a set of SEATS. */
    private static final class Places {
        private final int[] marks = new int[MOST_SEATS * MOST_SITTERS];
        private final int[] stillToCome = new int[1 << MOST_SEATS];
        private int seats;
        private int sitters;

        /** Only for a studio with no fewer SEATS than SITTERS. */
        void weigh(Scene scene, Law law) {
            seats = scene.studio.seats;
            sitters = scene.studio.sitters;
            for (int sitter = 0; sitter < sitters; sitter++) {
                for (int seat = 0; seat < seats; seat++) {
                    marks[sitter * MOST_SEATS + seat] = scene.firstMark(law, sitter, seat);
                }
            }
            for (int taken = (1 << seats) - 1; taken >= 0; taken--) {
                int next = Integer.bitCount(taken);
                stillToCome[taken] = next < sitters ? mostFrom(next, taken) : 0;
            }
        }

        private int mostFrom(int sitter, int taken) {
            int most = 0;
            for (int seat = 0; seat < seats; seat++) {
                if (!hasBit(taken, seat)) {
                    most = Math.max(most, togetherBy(sitter, seat, taken));
                }
            }
            return most;
        }

        private int togetherBy(int sitter, int seat, int taken) {
            return marks[sitter * MOST_SEATS + seat] + stillToCome[taken | 1 << seat];
        }

        int together() {
            return stillToCome[0];
        }

        int seatOf(int wanted) {
            int taken = 0;
            int seat = NONE;
            for (int sitter = 0; sitter <= wanted && sitter < sitters; sitter++) {
                seat = leastSeat(sitter, taken);
                if (seat == NONE) {
                    return NONE;
                }
                taken |= 1 << seat;
            }
            return seat;
        }

        private int leastSeat(int sitter, int taken) {
            for (int seat = 0; seat < seats; seat++) {
                if (!hasBit(taken, seat) && togetherBy(sitter, seat, taken) == stillToCome[taken]) {
                    return seat;
                }
            }
            return NONE;
        }
    }

    /** PACKING: all ways in order, each left as soon as it has no fewer YEARS than the best one, so that the first best one stays. */
    private static final class Packing {
        private final Studio studio;
        private final int[] laid = new int[MOST_SITTINGS];
        private final int[] way = new int[MOST_SITTINGS];
        final int[] best = new int[MOST_SITTINGS];
        int fewest = MOST_SITTINGS + 1;

        Packing(Studio told) {
            studio = told;
        }

        boolean isFound() {
            return fewest <= MOST_SITTINGS;
        }

        void search() {
            lay(0, 0);
        }

        /** Lays this SITTING and those behind it, so many YEARS being begun; it goes as deep as there are SITTINGS. */
        private void lay(int sitting, int years) {
            if (years >= fewest) {
                return;
            }
            if (sitting >= studio.sittings || sitting >= way.length) {
                fewest = years;
                System.arraycopy(way, 0, best, 0, best.length);
                return;
            }
            int days = studio.days[sitting];
            for (int year = 0; year <= years && year < laid.length; year++) {
                if (laid[year] + days <= studio.year) {
                    laid[year] += days;
                    way[sitting] = year;
                    lay(sitting + 1, Math.max(years, year + 1));
                    laid[year] -= days;
                }
            }
        }
    }

    /** What is DRAWN. */
    private static final class Seed {
        private int value;

        Seed(int seed) {
            value = seed;
        }

        int nextBelow(int bound) {
            value = value * 1103515245 + 12345;
            return bound <= 0 ? 0 : (value >>> 16 & 0x7FFF) % bound;
        }
    }
}
