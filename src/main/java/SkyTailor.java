import java.util.NoSuchElementException;

/** A tailor of weather: a shop told as a text, what is worked in it, and what can be asked of it. */
public final class SkyTailor {
    public static final int NONE = -1;

    private static final String KIND_WORDS = "sun rain grey wind frost fog";
    private static final int KINDS = 6;
    private static final int BARE = 6;
    private static final int HOURS = 12;
    private static final int BOLTS = 10;
    private static final int CLIENTS = 6;
    private static final int STREETS = 10;
    private static final int WANTS = 16;
    private static final int ORDERS = 8;
    private static final int PATTERNS = 6;
    private static final int LAST_DAY = 60;
    private static final int MOST_SEEDS = 20;
    private static final int MOST_OFFERS = 8;
    private static final int PRICES = 10;
    private static final int MOST_OPEN = 6;
    private static final int TAPE_BYTES = 600;
    private static final int PATTERN_BYTES = 100;
    private static final int LAW_BYTES = 150;
    private static final int WORK_BYTES = 200;
    private static final int BOOK_BYTES = 100;
    private static final int FED_BYTES = 20;
    private static final int TOO_MANY_WORKS = -20;
    private static final int HUGE = 1000000;

    private final Tape tape = new Tape();
    private final Shop shop = new Shop();
    private final Shop draft = new Shop();
    private final Stand now = new Stand();
    private final Stand trial = new Stand();
    private final Patterns patterns = new Patterns();
    private final Moths moths = new Moths();
    private final Trade trade = new Trade(shop, now, trial, patterns, moths);
    private final Plan plan = new Plan();
    private final Past past = new Past();
    private final Book seen = new Book();
    private final Fitting fitting = new Fitting(shop, patterns);
    private final Tasks tasks = new Tasks(shop, now, patterns);
    private int stepsRefused;
    private int elementsRefused;
    private int argumentsRefused;
    private int statesRefused;

    public SkyTailor() {
        now.begin(shop);
    }

    // ---- texts ----

    public int feed(int a, int b, int c, int d, int e) {
        if (tape.used > TAPE_BYTES - FED_BYTES) {
            return NONE;
        }
        tape.append(a);
        tape.append(b);
        tape.append(c);
        tape.append(d);
        tape.append(e);
        return tape.used;
    }

    public int shop(int n) throws IllegalArgumentException {
        needText(n, TAPE_BYTES);
        tape.open(n);
        draft.readFrom(tape);
        if (tape.isSound()) {
            shop.copyFrom(draft);
            now.begin(shop);
            patterns.forget();
            moths.forget();
            seen.forget();
            past.forget();
            stepsRefused = 0;
        }
        return tape.close(shop.clients);
    }

    public int pattern(int pattern, int n) throws NoSuchElementException, IllegalArgumentException {
        needPattern(pattern);
        needText(n, PATTERN_BYTES);
        tape.open(n);
        patterns.readFrom(tape);
        if (tape.isSound()) {
            patterns.keep(pattern);
        }
        return tape.close(runsOf(patterns.rows, HOURS * pattern));
    }

    public int law(int n) throws IllegalArgumentException {
        needText(n, LAW_BYTES);
        tape.open(n);
        moths.readFrom(tape);
        if (tape.isSound()) {
            moths.keep();
        }
        return tape.close(1);
    }

    public int work(int n) throws IllegalArgumentException {
        needText(n, WORK_BYTES);
        tape.open(n);
        if (past.isFull()) {
            return tape.close(TOO_MANY_WORKS);
        }
        plan.readFrom(tape, shop);
        if (tape.isSound()) {
            past.keepWork(now);
            plan.begin();
            plan.doSteps(trade, 0, plan.size, 0);
            stepsRefused = plan.refused;
        }
        return tape.close(plan.done);
    }

    public int book(int n) throws IllegalArgumentException {
        needText(n, BOOK_BYTES);
        tape.open(n);
        seen.readFrom(tape);
        if (tape.isSound()) {
            seen.keep();
        }
        return tape.close(seen.lines);
    }

    public int fault() {
        return tape.place;
    }

    public int undo() {
        if (past.works == 0) {
            return NONE;
        }
        past.takeWork(now);
        stepsRefused = 0;
        return past.works;
    }

    // ---- what is told and how it stands ----

    public int told(int what) throws IllegalArgumentException {
        needWithin(what, 0, 9);
        switch (what) {
            case 0:
                return shop.bolts;
            case 1:
                return shop.clients;
            case 2:
                return shop.wants;
            case 3:
                return shop.orders;
            case 4:
                return now.day();
            case 5:
                return now.pence();
            case 6:
                return now.hoursLeft();
            case 7:
                return seen.lines;
            case 8:
                return stepsRefused;
            default:
                return now.suits();
        }
    }

    public int bolt(int bolt, int what) throws NoSuchElementException, IllegalArgumentException {
        needElement(bolt, shop.bolts);
        needWithin(what, 0, 1);
        return what == 0 ? shop.boltKind(bolt) : now.leftOn(bolt);
    }

    public int client(int client, int what) throws NoSuchElementException, IllegalArgumentException {
        needElement(client, shop.clients);
        needWithin(what, 0, 6);
        if (what == 0) {
            return shop.streetOf(client);
        }
        if (what == 6) {
            return shop.wantsOf(client);
        }
        return now.hasSuit(client) ? suitFact(client, what) : 0;
    }

    public int want(int want, int what) throws NoSuchElementException, IllegalArgumentException {
        needElement(want, shop.wants);
        needWithin(what, 0, 5);
        if (what < 5) {
            return shop.wantPart(want, what);
        }
        int client = shop.wantPart(want, 0);
        return now.hasSuit(client) && shop.isMet(want, now.row, now.suitAt(client)) ? 1 : 0;
    }

    public int order(int order, int what) throws NoSuchElementException, IllegalArgumentException {
        needElement(order, shop.orders);
        needWithin(what, 0, 5);
        return what < 5 ? shop.orderPart(order, what) : trade.stateOf(order);
    }

    public int wears(int client, int hour) throws NoSuchElementException, IllegalArgumentException {
        needElement(client, shop.clients);
        needWithin(hour, 0, HOURS - 1);
        if (!now.hasSuit(client)) {
            return NONE;
        }
        int kind = now.wornAt(client, hour);
        return kind == BARE ? NONE : kind;
    }

    public int sky(int pattern, int hour) throws NoSuchElementException, IllegalArgumentException {
        needPattern(pattern);
        needWithin(hour, 0, HOURS - 1);
        return patterns.isTold(pattern) ? patterns.kindAt(pattern, hour) : NONE;
    }

    public int cloth(int kind, int what) throws IllegalArgumentException {
        needWithin(kind, 0, KINDS - 1);
        needWithin(what, 0, 2);
        if (what == 0) {
            return clothOnBolts(kind);
        }
        return what == 1 ? clothInSuits(kind) : clothInOrders(kind);
    }

    public boolean can(int client, int pattern) throws NoSuchElementException {
        needElement(client, shop.clients);
        needPattern(pattern);
        return trade.allowsCut(client, pattern);
    }

    public boolean ready(int order) throws NoSuchElementException {
        needElement(order, shop.orders);
        return trade.allowsSale(order);
    }

    // ---- wants ----

    public int fit(int client) throws NoSuchElementException {
        needElement(client, shop.clients);
        return fitOfSuit(now, client);
    }

    public int tries(int client, int pattern) throws NoSuchElementException, IllegalStateException {
        needElement(client, shop.clients);
        needPattern(pattern);
        needTold(pattern);
        return shop.fitOf(client, patterns.rows, HOURS * pattern);
    }

    public int best(int client) throws NoSuchElementException {
        needElement(client, shop.clients);
        return fitting.findBest(client);
    }

    public int bestAt(int client, int hour) throws NoSuchElementException, IllegalArgumentException {
        needElement(client, shop.clients);
        needWithin(hour, 0, HOURS - 1);
        fitting.findBest(client);
        return at(fitting.bestRow, hour);
    }

    public int clashes(int client) throws NoSuchElementException {
        needElement(client, shop.clients);
        return shop.clashesAmong(shop.wantsOf(client));
    }

    public int mend(int client, int wants) throws NoSuchElementException, IllegalArgumentException {
        needElement(client, shop.clients);
        needBits(wants, shop.wantsOf(client));
        if (!now.hasSuit(client) || shop.clashesAmong(wants) > 0) {
            return NONE;
        }
        int altered = 0;
        for (int hour = 0; hour < HOURS; hour++) {
            int kind = shop.kindWanted(wants, hour);
            altered += kind != NONE && kind != now.wornAt(client, hour) ? 1 : 0;
        }
        return altered;
    }

    // ---- orders, streets, prices ----

    public int pieces(int orders) throws IllegalArgumentException, IllegalStateException {
        needBits(orders, shop.allOrders());
        if (!tasks.canBePacked(orders)) {
            refuseState();
        }
        return tasks.fewestBolts(orders);
    }

    public int sewn(int orders, int what) throws IllegalArgumentException {
        needBits(orders, shop.allOrders());
        needWithin(what, 0, 2);
        int set = tasks.bestInTime(orders);
        if (what == 1) {
            return set;
        }
        return tasks.together(set, what == 0 ? Shop.PENCE : Shop.SEWING);
    }

    public int words(int street) throws IllegalArgumentException {
        needWithin(street, 0, STREETS - 1);
        int together = 0;
        for (int one = 0; one < shop.clients; one++) {
            for (int other = one + 1; other < shop.clients; other++) {
                if (shop.streetOf(one) == street && shop.streetOf(other) == street) {
                    together += now.unlikeHours(one, other);
                }
            }
        }
        return together;
    }

    public long offers(int n, int part) throws IllegalArgumentException {
        needWithin(n, 1, MOST_OFFERS);
        needWithin(part, 0, 1);
        return meanPrice(n, part);
    }

    public int line(int n) throws IllegalArgumentException {
        needWithin(n, 1, MOST_OFFERS);
        return n == 1 ? PRICES - 1 : wholeOf(meanPrice(n - 1, 0), meanPrice(n - 1, 1));
    }

    // ---- skies and tailors ----

    public int skies(int pattern) throws NoSuchElementException {
        needPattern(pattern);
        return seen.skiesOf(patterns, pattern);
    }

    public int which() {
        int bits = 0;
        for (int pattern = 0; pattern < PATTERNS; pattern++) {
            bits |= seen.skiesOf(patterns, pattern) != 0 ? 1 << pattern : 0;
        }
        return bits;
    }

    public int look(int what) throws IllegalArgumentException {
        needWithin(what, 0, 1);
        int hour = seen.hourToLookAt(patterns);
        return what == 0 || hour == NONE ? hour : seen.leftAtWorst(hour);
    }

    public int tailors(int what) throws IllegalArgumentException {
        needWithin(what, 0, 2);
        fitting.compare();
        if (what == 0) {
            return fitting.rests();
        }
        int first = fitting.firstRest();
        if (what == 1) {
            return first;
        }
        return first == NONE ? 0 : fitting.share(first / 10, first % 10);
    }

    public int gets(int own, int other) throws NoSuchElementException, IllegalStateException {
        needPattern(own);
        needPattern(other);
        needTold(own);
        needTold(other);
        fitting.compare();
        return fitting.share(own, other);
    }

    // ---- days to come ----

    public int ahead(int client, int days, int what) throws NoSuchElementException, IllegalArgumentException {
        needElement(client, shop.clients);
        needWithin(days, 0, LAST_DAY);
        needWithin(what, 0, 1);
        if (!now.hasSuit(client)) {
            return 0;
        }
        trial.copyFrom(now);
        trade.passDays(trial, days);
        return what == 0 ? trial.bareHours(client) : fitOfSuit(trial, client);
    }

    public int years(int seed, int q, int days, int what) throws IllegalArgumentException {
        needYears(q, days, what);
        trial.copyFrom(now);
        if (what == 1) {
            trade.passDays(trial, days);
            return allBareHours(trial);
        }
        trade.shorten(trial, seed, q, days);
        return what == 0 ? trial.hoursLeft() : trial.emptyBolts(shop.bolts);
    }

    public int span(int seed, int many, int q, int days, int what, int order) throws IllegalArgumentException {
        needWithin(many, 1, MOST_SEEDS);
        needYears(q, days, what);
        needWithin(order, 0, shop.orders - 1);
        int fewest = HUGE;
        int most = 0;
        int cuts = 0;
        for (int i = 0; i < many; i++) {
            trial.copyFrom(now);
            trade.shorten(trial, seed + i, q, days);
            fewest = Math.min(fewest, trial.hoursLeft());
            most = Math.max(most, trial.hoursLeft());
            cuts += trial.takePattern(shop, patterns, shop.orderPart(order, Shop.PATTERN)) ? 1 : 0;
        }
        if (what == 2) {
            return cuts;
        }
        return what == 0 ? fewest : most;
    }

    // ---- images and counts ----

    public int image() {
        return past.keepImage(now) ? past.images : NONE;
    }

    public int restore() {
        if (past.images == 0) {
            return NONE;
        }
        past.takeImage(now);
        stepsRefused = 0;
        return past.images;
    }

    public int status(int what) {
        switch (what) {
            case 0:
                return elementsRefused;
            case 1:
                return argumentsRefused;
            case 2:
                return statesRefused;
            default:
                return NONE;
        }
    }

    public int count(int what) {
        switch (what) {
            case 0:
                return past.images;
            case 1:
                return tape.used;
            case 2:
                return past.works;
            default:
                return NONE;
        }
    }

    // ---- refusals ----

    private void refuseElement() {
        elementsRefused++;
        throw new NoSuchElementException();
    }

    private void refuseArgument() {
        argumentsRefused++;
        throw new IllegalArgumentException();
    }

    private void refuseState() {
        statesRefused++;
        throw new IllegalStateException();
    }

    private void needElement(int number, int many) {
        if (number < 0 || number >= many) {
            refuseElement();
        }
    }

    private void needPattern(int pattern) {
        needElement(pattern, PATTERNS);
    }

    private void needWithin(int value, int least, int most) {
        if (value < least || value > most) {
            refuseArgument();
        }
    }

    private void needText(int n, int most) {
        needWithin(n, 0, Math.min(most, tape.used));
    }

    private void needBits(int bits, int allowed) {
        if ((bits & ~allowed) != 0) {
            refuseArgument();
        }
    }

    private void needYears(int q, int days, int what) {
        needWithin(q, 0, 16);
        needWithin(days, 1, LAST_DAY);
        needWithin(what, 0, 2);
    }

    private void needTold(int pattern) {
        if (!patterns.isTold(pattern)) {
            refuseState();
        }
    }

    // ---- helpers of the face ----

    private int suitFact(int client, int what) {
        switch (what) {
            case 1:
                return 1;
            case 2:
                return now.ageOf(client);
            case 3:
                return now.bareHours(client);
            case 4:
                return seamsOf(now.row, now.suitAt(client));
            default:
                return runsOf(now.row, now.suitAt(client));
        }
    }

    private int fitOfSuit(Stand stand, int client) {
        return stand.hasSuit(client) ? shop.fitOf(client, stand.row, stand.suitAt(client)) : 0;
    }

    private int allBareHours(Stand stand) {
        int bare = 0;
        for (int client = 0; client < shop.clients; client++) {
            bare += stand.bareHours(client);
        }
        return bare;
    }

    private int clothOnBolts(int kind) {
        int hours = 0;
        for (int bolt = 0; bolt < shop.bolts; bolt++) {
            hours += shop.boltKind(bolt) == kind ? now.leftOn(bolt) : 0;
        }
        return hours;
    }

    private int clothInSuits(int kind) {
        int hours = 0;
        for (int client = 0; client < shop.clients; client++) {
            hours += now.hasSuit(client) ? hoursOf(now.row, now.suitAt(client), kind) : 0;
        }
        return hours;
    }

    private int clothInOrders(int kind) {
        int hours = 0;
        for (int order = 0; order < shop.orders; order++) {
            int pattern = shop.orderPart(order, Shop.PATTERN);
            if (trade.stateOf(order) == Trade.OPEN && patterns.isTold(pattern)) {
                hours += hoursOf(patterns.rows, HOURS * pattern, kind);
            }
        }
        return hours;
    }

    /** The least mean price for n days: above (part 0) or below (part 1). */
    private static long meanPrice(int n, int part) {
        long above = PRICES - 1;
        long below = 2;
        for (int day = 1; day < n; day++) {
            int line = wholeOf(above, below);
            long bought = (long) line * (line + 1) / 2;
            above = bought * below + (PRICES - 1 - line) * above;
            below = below * PRICES;
            long common = commonPart(above, below);
            above = common > 0 ? above / common : above;
            below = common > 0 ? below / common : below;
        }
        return part == 0 ? above : below;
    }

    private static int wholeOf(long above, long below) {
        return below > 0 ? (int) (above / below) : 0;
    }

    private static long commonPart(long a, long b) {
        long one = a;
        long other = b;
        for (int turn = 0; turn < 1000 && other != 0; turn++) {
            long rest = one % other;
            one = other;
            other = rest;
        }
        return one;
    }

    // ---- rows of numbers; a row of 12 hours stands in a longer one, from a place on ----

    private static int at(int[] row, int place) {
        return row != null && place >= 0 && place < row.length ? row[place] : 0;
    }

    private static void put(int[] row, int place, int value) {
        if (row != null && place >= 0 && place < row.length) {
            row[place] = value;
        }
    }

    private static void fill(int[] row, int value) {
        for (int i = 0; row != null && i < row.length; i++) {
            row[i] = value;
        }
    }

    private static void copy(int[] from, int start, int[] to, int place, int many) {
        if (from == null || to == null || start < 0 || place < 0 || many < 0) {
            return;
        }
        if (start <= from.length - many && place <= to.length - many) {
            System.arraycopy(from, start, to, place, many);
        }
    }

    private static int seamsOf(int[] row, int from) {
        int seams = 0;
        for (int hour = 1; hour < HOURS; hour++) {
            seams += at(row, from + hour) != at(row, from + hour - 1) ? 1 : 0;
        }
        return seams;
    }

    private static int runsOf(int[] row, int from) {
        int runs = 0;
        for (int hour = 0; hour < HOURS; hour++) {
            int kind = at(row, from + hour);
            boolean begins = hour == 0 || kind != at(row, from + hour - 1);
            runs += begins && kind != BARE ? 1 : 0;
        }
        return runs;
    }

    private static int hoursOf(int[] row, int from, int kind) {
        int hours = 0;
        for (int hour = 0; hour < HOURS; hour++) {
            hours += at(row, from + hour) == kind ? 1 : 0;
        }
        return hours;
    }

    private static boolean alike(int[] one, int fromOne, int[] other, int fromOther) {
        for (int hour = 0; hour < HOURS; hour++) {
            if (at(one, fromOne + hour) != at(other, fromOther + hour)) {
                return false;
            }
        }
        return true;
    }

    private static boolean holds(int bits, int number) {
        return (bits >> number & 1) != 0;
    }

    /** The bytes that were fed, and the text that is read off their beginning, up to its first fault. */
    private static final class Tape {
        private static final int UNFIT = 1;
        private static final int NO_SUCH = 2;
        private static final int TOO_MANY = 3;
        private static final int WRONG_HOURS = 4;

        private final byte[] bytes = new byte[TAPE_BYTES];
        private int used;
        private int at;
        private int end;
        private int start;
        private int flaw;
        private int place = NONE;

        void append(int number) {
            for (int shift = 24; shift >= 0; shift -= 8) {
                if (used >= 0 && used < bytes.length) {
                    bytes[used] = (byte) (number >> shift);
                    used++;
                }
            }
        }

        void open(int n) {
            at = 0;
            start = 0;
            end = n;
            flaw = 0;
            place = NONE;
        }

        /** Empties the tape: what a text answers, by its fault or without. */
        int close(int answer) {
            used = 0;
            return flaw == 0 ? answer : flaw - 10;
        }

        boolean isSound() {
            return flaw == 0;
        }

        /** Only the first fault is kept; whatever is read behind it reads nothing. */
        void fail(int kind, int where) {
            if (flaw == 0) {
                flaw = kind;
                place = where;
            }
        }

        /** The byte that stands next behind blanks; NONE at the end. */
        private int next() {
            while (at >= 0 && at < end && at < bytes.length && bytes[at] == ' ') {
                at++;
            }
            return at >= 0 && at < end && at < bytes.length ? bytes[at] & 255 : NONE;
        }

        private int byteAt(int i) {
            return i >= 0 && i < bytes.length ? bytes[i] & 255 : 0;
        }

        boolean hasMore() {
            return flaw == 0 && next() != NONE;
        }

        boolean isNext(char sign) {
            return flaw == 0 && next() == sign;
        }

        boolean isNumberNext() {
            return flaw == 0 && isDigit(next());
        }

        private static boolean isDigit(int sign) {
            return sign >= '0' && sign <= '9';
        }

        private static boolean isLetter(int sign) {
            return sign >= 'a' && sign <= 'z';
        }

        void sign(char sign) {
            if (flaw != 0) {
                return;
            }
            boolean stands = next() == sign;
            start = at;
            if (stands) {
                at++;
            } else {
                fail(UNFIT, at);
            }
        }

        int number(int least, int most) {
            if (flaw != 0) {
                return least;
            }
            if (!isDigit(next())) {
                fail(UNFIT, at);
                return least;
            }
            start = at;
            int value = 0;
            while (at < end && isDigit(byteAt(at))) {
                value = Math.min(HUGE, 10 * value + byteAt(at) - '0');
                at++;
            }
            if (value < least || value > most) {
                fail(NO_SUCH, start);
                return least;
            }
            return value;
        }

        /** Which word of a list (blanks between them) stands next; NONE behind a fault. */
        int word(String list) {
            if (flaw != 0) {
                return NONE;
            }
            next();
            start = at;
            while (at < end && isLetter(byteAt(at))) {
                at++;
            }
            int index = placeIn(list);
            if (index == NONE) {
                fail(UNFIT, start);
            }
            return index;
        }

        private int placeIn(String list) {
            int index = 0;
            int from = 0;
            for (int i = 0; i <= list.length(); i++) {
                if (i == list.length() || list.charAt(i) == ' ') {
                    if (isSpelt(list, from, i)) {
                        return index;
                    }
                    index++;
                    from = i + 1;
                }
            }
            return NONE;
        }

        private boolean isSpelt(String list, int from, int to) {
            if (to - from != at - start || from < 0 || to > list.length() || start < 0 || at > bytes.length) {
                return false;
            }
            for (int i = 0; i < to - from; i++) {
                if (list.charAt(from + i) != bytes[start + i]) {
                    return false;
                }
            }
            return true;
        }
    }

    /** What a shop's text tells; work never changes it. */
    private static final class Shop {
        private static final int CLAUSES = 60;
        private static final String CLAUSE_WORDS = "bolt client wants order seam hands";
        private static final int PARTS = 5;
        private static final int CLIENT = 0;
        private static final int FIRST = 1;
        private static final int LAST = 2;
        private static final int KIND = 3;
        private static final int WORTH = 4;
        private static final int PATTERN = 1;
        private static final int DUE = 2;
        private static final int PENCE = 3;
        private static final int SEWING = 4;

        private final int[] boltKinds = new int[BOLTS];
        private final int[] boltHours = new int[BOLTS];
        private final int[] streets = new int[CLIENTS];
        private final int[] wantRow = new int[PARTS * WANTS];
        private final int[] orderRow = new int[PARTS * ORDERS];
        private int bolts;
        private int clients;
        private int wants;
        private int orders;
        private int seam = 1;
        private int hands = 8;

        void copyFrom(Shop other) {
            copy(other.boltKinds, 0, boltKinds, 0, BOLTS);
            copy(other.boltHours, 0, boltHours, 0, BOLTS);
            copy(other.streets, 0, streets, 0, CLIENTS);
            copy(other.wantRow, 0, wantRow, 0, PARTS * WANTS);
            copy(other.orderRow, 0, orderRow, 0, PARTS * ORDERS);
            bolts = other.bolts;
            clients = other.clients;
            wants = other.wants;
            orders = other.orders;
            seam = other.seam;
            hands = other.hands;
        }

        void readFrom(Tape tape) {
            bolts = 0;
            clients = 0;
            wants = 0;
            orders = 0;
            seam = 1;
            hands = 8;
            for (int n = 0; n <= CLAUSES && tape.hasMore(); n++) {
                readClause(tape, n);
                tape.sign(';');
            }
        }

        private void readClause(Tape tape, int ahead) {
            int word = tape.word(CLAUSE_WORDS);
            if (ahead >= CLAUSES) {
                tape.fail(Tape.TOO_MANY, tape.start);
            }
            switch (word) {
                case 0:
                    readBolt(tape);
                    break;
                case 1:
                    readClient(tape);
                    break;
                case 2:
                    readWant(tape);
                    break;
                case 3:
                    readOrder(tape);
                    break;
                case 4:
                    seam = tape.number(0, 9);
                    break;
                case 5:
                    hands = tape.number(1, 24);
                    break;
                default:
                    break;
            }
        }

        private static void needRoom(Tape tape, int many, int most) {
            if (many >= most) {
                tape.fail(Tape.TOO_MANY, tape.start);
            }
        }

        private void readBolt(Tape tape) {
            needRoom(tape, bolts, BOLTS);
            put(boltKinds, bolts, tape.word(KIND_WORDS));
            put(boltHours, bolts, tape.number(1, 60));
            bolts++;
        }

        private void readClient(Tape tape) {
            needRoom(tape, clients, CLIENTS);
            put(streets, clients, tape.number(0, STREETS - 1));
            clients++;
        }

        private void readWant(Tape tape) {
            needRoom(tape, wants, WANTS);
            int from = PARTS * wants;
            put(wantRow, from + CLIENT, tape.number(0, clients - 1));
            int first = tape.number(0, HOURS - 1);
            put(wantRow, from + FIRST, first);
            put(wantRow, from + LAST, tape.number(first, HOURS - 1));
            put(wantRow, from + KIND, tape.word(KIND_WORDS));
            put(wantRow, from + WORTH, tape.number(1, 9));
            wants++;
        }

        private void readOrder(Tape tape) {
            needRoom(tape, orders, ORDERS);
            int from = PARTS * orders;
            put(orderRow, from + CLIENT, tape.number(0, clients - 1));
            put(orderRow, from + PATTERN, tape.number(0, PATTERNS - 1));
            put(orderRow, from + DUE, tape.number(1, LAST_DAY));
            put(orderRow, from + PENCE, tape.number(0, 999));
            put(orderRow, from + SEWING, tape.number(1, 24));
            orders++;
        }

        int boltKind(int bolt) {
            return at(boltKinds, bolt);
        }

        int streetOf(int client) {
            return at(streets, client);
        }

        int wantPart(int want, int part) {
            return at(wantRow, PARTS * want + part);
        }

        int orderPart(int order, int part) {
            return at(orderRow, PARTS * order + part);
        }

        int allOrders() {
            return (1 << orders) - 1;
        }

        int wantsOf(int client) {
            int bits = 0;
            for (int want = 0; want < wants; want++) {
                bits |= wantPart(want, CLIENT) == client ? 1 << want : 0;
            }
            return bits;
        }

        boolean covers(int want, int hour) {
            return hour >= wantPart(want, FIRST) && hour <= wantPart(want, LAST);
        }

        boolean isMet(int want, int[] row, int from) {
            int last = Math.min(HOURS - 1, wantPart(want, LAST));
            for (int hour = wantPart(want, FIRST); hour <= last; hour++) {
                if (at(row, from + hour) != wantPart(want, KIND)) {
                    return false;
                }
            }
            return true;
        }

        int fitOf(int client, int[] row, int from) {
            int sum = -seam * seamsOf(row, from);
            for (int want = 0; want < wants; want++) {
                if (wantPart(want, CLIENT) == client && isMet(want, row, from)) {
                    sum += wantPart(want, WORTH);
                }
            }
            return sum;
        }

        private boolean clash(int one, int other) {
            return wantPart(one, KIND) != wantPart(other, KIND)
                && wantPart(one, FIRST) <= wantPart(other, LAST)
                && wantPart(other, FIRST) <= wantPart(one, LAST);
        }

        /** How many twos clash among wants (bits) that are of one client. */
        int clashesAmong(int bits) {
            int twos = 0;
            for (int one = 0; one < wants; one++) {
                for (int other = one + 1; other < wants; other++) {
                    twos += holds(bits, one) && holds(bits, other) && clash(one, other) ? 1 : 0;
                }
            }
            return twos;
        }

        /** The kind that one of these wants, which do not clash, asks for in an hour; NONE without. */
        int kindWanted(int bits, int hour) {
            for (int want = 0; want < wants; want++) {
                if (holds(bits, want) && covers(want, hour)) {
                    return wantPart(want, KIND);
                }
            }
            return NONE;
        }
    }

    /** How a shop stands: all that work changes, in one row, so that it is kept and copied in one piece. */
    private static final class Stand {
        private static final int DAY = 0;
        private static final int PENCE = 1;
        private static final int SOLD = 2;
        private static final int CUT_ON = 3;
        private static final int LEFT = CUT_ON + CLIENTS;
        private static final int SUITS = LEFT + BOLTS;
        private static final int SIZE = SUITS + CLIENTS * HOURS;

        private final int[] row = new int[SIZE];

        void begin(Shop shop) {
            fill(row, 0);
            for (int client = 0; client < CLIENTS; client++) {
                strip(client);
            }
            for (int bolt = 0; bolt < shop.bolts; bolt++) {
                put(row, LEFT + bolt, at(shop.boltHours, bolt));
            }
        }

        void copyFrom(Stand other) {
            copy(other.row, 0, row, 0, SIZE);
        }

        int day() {
            return at(row, DAY);
        }

        int pence() {
            return at(row, PENCE);
        }

        int leftOn(int bolt) {
            return at(row, LEFT + bolt);
        }

        int hoursLeft() {
            int hours = 0;
            for (int bolt = 0; bolt < BOLTS; bolt++) {
                hours += leftOn(bolt);
            }
            return hours;
        }

        int emptyBolts(int bolts) {
            int empty = 0;
            for (int bolt = 0; bolt < bolts; bolt++) {
                empty += leftOn(bolt) == 0 ? 1 : 0;
            }
            return empty;
        }

        void shortenBolt(int bolt) {
            put(row, LEFT + bolt, Math.max(0, leftOn(bolt) - 1));
        }

        boolean hasSuit(int client) {
            return at(row, CUT_ON + client) != NONE;
        }

        int suits() {
            int suits = 0;
            for (int client = 0; client < CLIENTS; client++) {
                suits += hasSuit(client) ? 1 : 0;
            }
            return suits;
        }

        int suitAt(int client) {
            return SUITS + HOURS * client;
        }

        int wornAt(int client, int hour) {
            return at(row, suitAt(client) + hour);
        }

        int ageOf(int client) {
            return day() - at(row, CUT_ON + client);
        }

        int bareHours(int client) {
            return hasSuit(client) ? hoursOf(row, suitAt(client), BARE) : 0;
        }

        int unlikeHours(int one, int other) {
            if (!hasSuit(one) || !hasSuit(other)) {
                return 0;
            }
            int hours = 0;
            for (int hour = 0; hour < HOURS; hour++) {
                int kind = wornAt(one, hour);
                int unlike = wornAt(other, hour);
                hours += kind != unlike && kind != BARE && unlike != BARE ? 1 : 0;
            }
            return hours;
        }

        void dress(int client, int[] rows, int from) {
            put(row, CUT_ON + client, day());
            copy(rows, from, row, suitAt(client), HOURS);
        }

        void strip(int client) {
            put(row, CUT_ON + client, NONE);
        }

        void alter(int client, int hour, int kind) {
            put(row, suitAt(client) + hour, kind);
        }

        void turn(int client) {
            for (int hour = 0; hour < HOURS / 2; hour++) {
                int kind = wornAt(client, hour);
                alter(client, hour, wornAt(client, HOURS - 1 - hour));
                alter(client, HOURS - 1 - hour, kind);
            }
        }

        boolean isSold(int order) {
            return holds(at(row, SOLD), order);
        }

        void sell(int order, int pence) {
            put(row, SOLD, at(row, SOLD) | 1 << order);
            put(row, PENCE, pence() + pence);
        }

        void nextDay() {
            put(row, DAY, day() + 1);
        }

        /** Takes a piece off the bolt of its kind that has the least left that is enough. */
        boolean take(Shop shop, int kind, int hours) {
            int chosen = NONE;
            for (int bolt = 0; bolt < shop.bolts; bolt++) {
                int left = at(row, LEFT + bolt);
                boolean enough = at(shop.boltKinds, bolt) == kind && left >= hours;
                if (enough && (chosen == NONE || left < at(row, LEFT + chosen))) {
                    chosen = bolt;
                }
            }
            if (chosen == NONE) {
                return false;
            }
            put(row, LEFT + chosen, at(row, LEFT + chosen) - hours);
            return true;
        }

        /** Takes a pattern's runs, one by one; false, if it is not told, or at the first that can't be had. */
        boolean takePattern(Shop shop, Patterns patterns, int pattern) {
            if (!patterns.isTold(pattern)) {
                return false;
            }
            int length = 1;
            for (int hour = 1; hour <= HOURS; hour++) {
                int kind = patterns.kindAt(pattern, hour - 1);
                if (hour < HOURS && patterns.kindAt(pattern, hour) == kind) {
                    length++;
                } else if (take(shop, kind, length)) {
                    length = 1;
                } else {
                    return false;
                }
            }
            return true;
        }
    }

    /** The patterns that were told, and the one that is being read: a row of hours for each open again. */
    private static final class Patterns {
        private static final int MOST_PARTS = 100;

        private final int[] rows = new int[PATTERNS * HOURS];
        private final int[] made = new int[(MOST_OPEN + 1) * HOURS];
        private final int[] lengths = new int[MOST_OPEN + 1];
        private int toldOnes;

        void forget() {
            toldOnes = 0;
        }

        boolean isTold(int pattern) {
            return pattern >= 0 && pattern < PATTERNS && holds(toldOnes, pattern);
        }

        int kindAt(int pattern, int hour) {
            return at(rows, HOURS * pattern + hour);
        }

        void keep(int pattern) {
            toldOnes |= 1 << pattern;
            copy(made, 0, rows, HOURS * pattern, HOURS);
        }

        void readFrom(Tape tape) {
            readParts(tape, 0);
            if (at(lengths, 0) < HOURS) {
                tape.fail(Tape.WRONG_HOURS, tape.end);
            }
        }

        private void readParts(Tape tape, int open) {
            put(lengths, open, 0);
            for (int n = 0; n <= MOST_PARTS && tape.hasMore() && !(open > 0 && tape.isNext(']')); n++) {
                if (tape.isNumberNext()) {
                    readHours(tape, open);
                } else {
                    readAgain(tape, open);
                }
                tape.sign(';');
            }
        }

        private void readHours(Tape tape, int open) {
            int many = tape.number(1, HOURS);
            if (at(lengths, open) + many > HOURS) {
                tape.fail(Tape.WRONG_HOURS, tape.start);
            }
            int kind = tape.word(KIND_WORDS);
            for (int i = 0; i < many && tape.isSound(); i++) {
                addHour(open, kind);
            }
        }

        private void readAgain(Tape tape, int open) {
            tape.word("again");
            int place = tape.start;
            if (open >= MOST_OPEN) {
                tape.fail(Tape.TOO_MANY, place);
            }
            int times = tape.number(0, HOURS);
            tape.sign('[');
            if (!tape.isSound()) {
                return;
            }
            readParts(tape, open + 1);
            tape.sign(']');
            int many = at(lengths, open + 1);
            if (at(lengths, open) + times * many > HOURS) {
                tape.fail(Tape.WRONG_HOURS, place);
            }
            for (int i = 0; i < times * many && tape.isSound(); i++) {
                addHour(open, at(made, (open + 1) * HOURS + (many > 0 ? i % many : 0)));
            }
        }

        private void addHour(int open, int kind) {
            int length = at(lengths, open);
            if (length < HOURS) {
                put(made, open * HOURS + length, kind);
                put(lengths, open, length + 1);
            }
        }
    }

    /** The law of the moths, kept as codes in the order in which they are reckoned: numbers, and below 0 the rest. */
    private static final class Moths {
        private static final String VALUE_WORDS = "hour kind age day client seams least most";
        private static final int FACTS = 6;
        private static final int LEAST = -7;
        private static final int MOST = -8;
        private static final int AND = -9;
        private static final int LESS = -10;
        private static final int TIMES = -11;
        private static final int BY = -12;
        private static final int REST = -13;
        private static final int HIGHEST = 64;

        private final int[] codes = new int[LAW_BYTES];
        private final int[] draft = new int[LAW_BYTES];
        private final int[] pile = new int[HIGHEST];
        private final int[] facts = new int[FACTS];
        private int length;
        private int drafted;

        void forget() {
            length = 0;
        }

        void keep() {
            length = drafted;
            copy(draft, 0, codes, 0, LAW_BYTES);
        }

        void readFrom(Tape tape) {
            drafted = 0;
            readSum(tape, 0);
            if (tape.hasMore()) {
                tape.fail(Tape.UNFIT, tape.at);
            }
        }

        private void write(int code) {
            put(draft, drafted, code);
            drafted++;
        }

        private void readSum(Tape tape, int open) {
            readProduct(tape, open);
            for (int n = 0; n < LAW_BYTES && (tape.isNext('+') || tape.isNext('-')); n++) {
                boolean and = tape.isNext('+');
                tape.sign(and ? '+' : '-');
                readProduct(tape, open);
                write(and ? AND : LESS);
            }
        }

        private void readProduct(Tape tape, int open) {
            readUnit(tape, open);
            for (int n = 0; n < LAW_BYTES && (tape.isNext('*') || tape.isNext('/') || tape.isNext('%')); n++) {
                char sign = tape.isNext('*') ? '*' : tape.isNext('/') ? '/' : '%';
                tape.sign(sign);
                readUnit(tape, open);
                write(sign == '*' ? TIMES : sign == '/' ? BY : REST);
            }
        }

        private void readUnit(Tape tape, int open) {
            if (tape.isNumberNext()) {
                write(tape.number(0, 999));
            } else if (tape.isNext('(')) {
                tape.sign('(');
                needRoom(tape, open);
                readInside(tape, open);
                tape.sign(')');
            } else {
                readNamed(tape, open, -1 - tape.word(VALUE_WORDS));
            }
        }

        private void readNamed(Tape tape, int open, int code) {
            if (code == LEAST || code == MOST) {
                needRoom(tape, open);
                tape.sign('[');
                readInside(tape, open);
                tape.sign(',');
                readInside(tape, open);
                tape.sign(']');
            }
            write(code);
        }

        private void needRoom(Tape tape, int open) {
            if (open >= MOST_OPEN) {
                tape.fail(Tape.TOO_MANY, tape.start);
            }
        }

        private void readInside(Tape tape, int open) {
            if (tape.isSound() && open < MOST_OPEN) {
                readSum(tape, open + 1);
            }
        }

        /** Makes bare all hours of a suit by which the law is above 0, the suit as it stands. */
        void eat(Stand stand, int client) {
            put(facts, 2, stand.ageOf(client));
            put(facts, 3, stand.day());
            put(facts, 4, client);
            put(facts, 5, seamsOf(stand.row, stand.suitAt(client)));
            for (int hour = 0; hour < HOURS; hour++) {
                put(facts, 0, hour);
                put(facts, 1, stand.wornAt(client, hour));
                if (value() > 0) {
                    stand.alter(client, hour, BARE);
                }
            }
        }

        private int value() {
            int high = 0;
            for (int i = 0; i < length; i++) {
                int code = at(codes, i);
                if (code >= -FACTS) {
                    put(pile, high, code >= 0 ? code : at(facts, -1 - code));
                    high++;
                } else {
                    high--;
                    put(pile, high - 1, reckon(code, at(pile, high - 1), at(pile, high)));
                }
            }
            return high > 0 ? at(pile, high - 1) : 0;
        }

        private static int reckon(int code, int a, int b) {
            switch (code) {
                case LEAST:
                    return Math.min(a, b);
                case MOST:
                    return Math.max(a, b);
                case AND:
                    return a + b;
                case LESS:
                    return a - b;
                case TIMES:
                    return a * b;
                case BY:
                    return b == 0 ? 0 : a / b;
                default:
                    return b == 0 ? 0 : a % b;
            }
        }
    }

    /** What can be done in a shop, step by step, and the days to come. */
    private static final class Trade {
        private static final int OPEN = 0;
        private static final int SOLD = 1;
        private static final int LATE = 2;

        private final Shop shop;
        private final Stand now;
        private final Stand trial;
        private final Patterns patterns;
        private final Moths moths;
        private int seed;

        Trade(Shop shop, Stand now, Stand trial, Patterns patterns, Moths moths) {
            this.shop = shop;
            this.now = now;
            this.trial = trial;
            this.patterns = patterns;
            this.moths = moths;
        }

        /** Does a step of a plan; false, changing nothing, if it is refused. */
        boolean step(int kind, int a, int b, int c) {
            switch (kind) {
                case Plan.CUT:
                    return cutSuit(a, b);
                case Plan.ALTER:
                    return alterHour(a, b, c);
                case Plan.TURN:
                    return turnSuit(a);
                case Plan.STRIP:
                    return stripSuit(a);
                case Plan.SELL:
                    return sellOrder(a);
                default:
                    return passDay(now);
            }
        }

        /** Whether a pattern can be cut; the trial is then the shop as it stands, less the cloth. */
        boolean allowsCut(int client, int pattern) {
            trial.copyFrom(now);
            return !now.hasSuit(client) && trial.takePattern(shop, patterns, pattern);
        }

        private boolean cutSuit(int client, int pattern) {
            if (!allowsCut(client, pattern)) {
                return false;
            }
            trial.dress(client, patterns.rows, HOURS * pattern);
            now.copyFrom(trial);
            return true;
        }

        private boolean alterHour(int client, int hour, int kind) {
            if (!now.hasSuit(client) || now.wornAt(client, hour) == kind || !now.take(shop, kind, 1)) {
                return false;
            }
            now.alter(client, hour, kind);
            return true;
        }

        private boolean turnSuit(int client) {
            if (!now.hasSuit(client)) {
                return false;
            }
            now.turn(client);
            return true;
        }

        private boolean stripSuit(int client) {
            if (!now.hasSuit(client)) {
                return false;
            }
            now.strip(client);
            return true;
        }

        int stateOf(int order) {
            if (now.isSold(order)) {
                return SOLD;
            }
            return now.day() > shop.orderPart(order, Shop.DUE) ? LATE : OPEN;
        }

        boolean allowsSale(int order) {
            int client = shop.orderPart(order, Shop.CLIENT);
            int pattern = shop.orderPart(order, Shop.PATTERN);
            return stateOf(order) == OPEN && now.hasSuit(client) && patterns.isTold(pattern)
                && alike(now.row, now.suitAt(client), patterns.rows, HOURS * pattern);
        }

        private boolean sellOrder(int order) {
            if (!allowsSale(order)) {
                return false;
            }
            now.sell(order, shop.orderPart(order, Shop.PENCE));
            now.strip(shop.orderPart(order, Shop.CLIENT));
            return true;
        }

        private boolean passDay(Stand stand) {
            if (stand.day() >= LAST_DAY) {
                return false;
            }
            stand.nextDay();
            for (int client = 0; client < shop.clients; client++) {
                if (stand.hasSuit(client)) {
                    moths.eat(stand, client);
                }
            }
            return true;
        }

        void passDays(Stand stand, int days) {
            for (int i = 0; i < days && stand.day() < LAST_DAY; i++) {
                passDay(stand);
            }
        }

        /** A short year's bolts alone: moths look at no bolt, and draws at no suit. */
        void shorten(Stand stand, int first, int q, int days) {
            seed = first;
            for (int i = 0; i < days && shop.bolts > 0; i++) {
                if (draw(16) < q) {
                    stand.shortenBolt(draw(shop.bolts));
                }
            }
        }

        private int draw(int by) {
            seed = seed * 1103515245 + 12345;
            return by > 0 ? (seed >>> 16 & 32767) % by : 0;
        }
    }

    /** A work's text as rows of steps: what, and three numbers (of an again: its times, the step behind it). */
    private static final class Plan {
        private static final String STEP_WORDS = "cut alter turn strip sell day again";
        private static final int CUT = 0;
        private static final int ALTER = 1;
        private static final int TURN = 2;
        private static final int STRIP = 3;
        private static final int SELL = 4;
        private static final int DAY = 5;
        private static final int AGAIN = 6;
        private static final int PARTS = 4;
        private static final int MOST_STEPS = 64;
        private static final int MOST_TIMES = 20;
        private static final int MOST_BEGUN = 200;

        private final int[] steps = new int[PARTS * MOST_STEPS];
        private int size;
        private int begun;
        private int done;
        private int refused;

        void readFrom(Tape tape, Shop shop) {
            size = 0;
            readSteps(tape, shop, 0);
        }

        private void readSteps(Tape tape, Shop shop, int open) {
            for (int n = 0; n <= WORK_BYTES && tape.hasMore() && !(open > 0 && tape.isNext(']')); n++) {
                readStep(tape, shop, open);
                tape.sign(';');
            }
        }

        private void readStep(Tape tape, Shop shop, int open) {
            int kind = tape.word(STEP_WORDS);
            int step = size;
            size++;
            write(step, 0, kind);
            if (kind == AGAIN) {
                readAgain(tape, shop, open, step);
            } else if (kind == SELL) {
                write(step, 1, tape.number(0, shop.orders - 1));
            } else if (kind != DAY) {
                write(step, 1, tape.number(0, shop.clients - 1));
            }
            if (kind == CUT) {
                write(step, 2, tape.number(0, PATTERNS - 1));
            } else if (kind == ALTER) {
                write(step, 2, tape.number(0, HOURS - 1));
                write(step, 3, tape.word(KIND_WORDS));
            }
        }

        private void readAgain(Tape tape, Shop shop, int open, int step) {
            if (open >= MOST_OPEN) {
                tape.fail(Tape.TOO_MANY, tape.start);
            }
            write(step, 1, tape.number(0, MOST_TIMES));
            tape.sign('[');
            if (tape.isSound()) {
                readSteps(tape, shop, open + 1);
            }
            tape.sign(']');
            write(step, 2, size);
        }

        private void write(int step, int part, int value) {
            put(steps, PARTS * step + part, value);
        }

        private int part(int step, int part) {
            return at(steps, PARTS * step + part);
        }

        void begin() {
            begun = 0;
            done = 0;
            refused = 0;
        }

        /** Does the steps of a row, as far as the work may begin any. */
        private void doSteps(Trade trade, int from, int to, int open) {
            for (int i = from; i < to && begun < MOST_BEGUN; i++) {
                begun++;
                if (part(i, 0) == AGAIN) {
                    doAgain(trade, i, open);
                    i = Math.max(i, part(i, 2) - 1);
                } else if (trade.step(part(i, 0), part(i, 1), part(i, 2), part(i, 3))) {
                    done++;
                } else {
                    refused++;
                }
            }
        }

        private void doAgain(Trade trade, int step, int open) {
            for (int i = 0; i < part(step, 1) && begun < MOST_BEGUN && open < MOST_OPEN; i++) {
                doSteps(trade, step + 1, part(step, 2), open + 1);
            }
        }
    }

    /** How the shop stood ahead of each work, and its images, each with the works of then. */
    private static final class Past {
        private static final int MOST_WORKS = 16;
        private static final int MOST_IMAGES = 3;
        private static final int IMAGE_SIZE = (MOST_WORKS + 1) * Stand.SIZE;

        private final int[] workRow = new int[MOST_WORKS * Stand.SIZE];
        private final int[] imageRow = new int[MOST_IMAGES * IMAGE_SIZE];
        private final int[] worksThen = new int[MOST_IMAGES];
        private int works;
        private int images;

        void forget() {
            works = 0;
            images = 0;
        }

        boolean isFull() {
            return works >= MOST_WORKS;
        }

        void keepWork(Stand stand) {
            copy(stand.row, 0, workRow, works * Stand.SIZE, Stand.SIZE);
            works++;
        }

        void takeWork(Stand stand) {
            works--;
            copy(workRow, works * Stand.SIZE, stand.row, 0, Stand.SIZE);
        }

        boolean keepImage(Stand stand) {
            if (images >= MOST_IMAGES) {
                return false;
            }
            int from = images * IMAGE_SIZE;
            copy(stand.row, 0, imageRow, from, Stand.SIZE);
            copy(workRow, 0, imageRow, from + Stand.SIZE, works * Stand.SIZE);
            put(worksThen, images, works);
            images++;
            return true;
        }

        void takeImage(Stand stand) {
            images--;
            int from = images * IMAGE_SIZE;
            works = at(worksThen, images);
            copy(imageRow, from, stand.row, 0, Stand.SIZE);
            copy(imageRow, from + Stand.SIZE, workRow, 0, works * Stand.SIZE);
        }
    }

    /** The hours that were seen, and what the patterns say of them. */
    private static final class Book {
        private final int[] kinds = new int[HOURS];
        private final int[] draft = new int[HOURS];
        private final int[] chances = new int[HOURS * KINDS];
        private int lines;
        private int drafted;

        Book() {
            fill(kinds, NONE);
        }

        void forget() {
            lines = 0;
            fill(kinds, NONE);
        }

        void keep() {
            lines = drafted;
            copy(draft, 0, kinds, 0, HOURS);
        }

        /** A 13th line needs no look of its own: its hour stands in one of the 12 ahead. */
        void readFrom(Tape tape) {
            fill(draft, NONE);
            drafted = 0;
            for (int n = 0; n <= HOURS && tape.hasMore(); n++) {
                int hour = tape.number(0, HOURS - 1);
                if (at(draft, hour) != NONE) {
                    tape.fail(Tape.NO_SUCH, tape.start);
                }
                put(draft, hour, tape.word(KIND_WORDS));
                tape.sign(';');
                drafted++;
            }
        }

        int skiesOf(Patterns patterns, int pattern) {
            int bits = 0;
            for (int later = 0; later < HOURS && patterns.isTold(pattern); later++) {
                bits |= isSo(patterns, pattern, later) ? 1 << later : 0;
            }
            return bits;
        }

        private boolean isSo(Patterns patterns, int pattern, int later) {
            for (int hour = 0; hour < HOURS; hour++) {
                int kind = at(kinds, hour);
                if (kind != NONE && kind != kindLater(patterns, pattern, hour, later)) {
                    return false;
                }
            }
            return true;
        }

        private static int kindLater(Patterns patterns, int pattern, int hour, int later) {
            return at(patterns.rows, HOURS * pattern + (hour + HOURS - later) % HOURS);
        }

        int hourToLookAt(Patterns patterns) {
            countChances(patterns);
            int first = NONE;
            for (int hour = 0; hour < HOURS; hour++) {
                boolean open = at(kinds, hour) == NONE;
                if (open && (first == NONE || leftAtWorst(hour) < leftAtWorst(first))) {
                    first = hour;
                }
            }
            return first;
        }

        /** Of the skies counted last: how many are left at the worst, if an hour is looked at. */
        int leftAtWorst(int hour) {
            int worst = 0;
            for (int kind = 0; kind < KINDS; kind++) {
                worst = Math.max(worst, at(chances, KINDS * hour + kind));
            }
            return worst;
        }

        private void countChances(Patterns patterns) {
            fill(chances, 0);
            for (int pattern = 0; pattern < PATTERNS; pattern++) {
                int bits = skiesOf(patterns, pattern);
                for (int later = 0; later < HOURS; later++) {
                    if (holds(bits, later)) {
                        countSky(patterns, pattern, later);
                    }
                }
            }
        }

        private void countSky(Patterns patterns, int pattern, int later) {
            for (int hour = 0; hour < HOURS; hour++) {
                int chance = KINDS * hour + kindLater(patterns, pattern, hour, later);
                put(chances, chance, at(chances, chance) + 1);
            }
        }
    }

    /** The row that is best worn, and two tailors against each other. */
    private static final class Fitting {
        private final Shop shop;
        private final Patterns patterns;
        private final int[] bestRow = new int[HOURS];
        private final int[] worths = new int[HOURS * HOURS * KINDS];
        private final int[] fits = new int[CLIENTS * PATTERNS];

        Fitting(Shop shop, Patterns patterns) {
            this.shop = shop;
            this.patterns = patterns;
        }

        /** The most fit of a row without bare hours; the first such row is the best row then. */
        int findBest(int client) {
            for (int hour = HOURS - 1; hour >= 0; hour--) {
                for (int begun = 0; begun <= hour; begun++) {
                    for (int kind = 0; kind < KINDS; kind++) {
                        int worth = gain(client, hour, begun, kind) + onward(hour, begun, kind);
                        put(worths, cell(hour, begun, kind), worth);
                    }
                }
            }
            int best = 0;
            for (int kind = 1; kind < KINDS; kind++) {
                best = at(worths, cell(0, 0, kind)) > at(worths, cell(0, 0, best)) ? kind : best;
            }
            follow(best);
            return at(worths, cell(0, 0, best));
        }

        private static int cell(int hour, int begun, int kind) {
            return (HOURS * hour + begun) * KINDS + kind;
        }

        /** What the wants add that end in an hour, if it is of a kind in a run begun at an hour. */
        private int gain(int client, int hour, int begun, int kind) {
            int sum = 0;
            for (int want = 0; want < shop.wants; want++) {
                boolean met = shop.wantPart(want, Shop.CLIENT) == client
                    && shop.wantPart(want, Shop.LAST) == hour
                    && shop.wantPart(want, Shop.KIND) == kind
                    && shop.wantPart(want, Shop.FIRST) >= begun;
                sum += met ? shop.wantPart(want, Shop.WORTH) : 0;
            }
            return sum;
        }

        private int onward(int hour, int begun, int kind) {
            return hour + 1 < HOURS ? worthOf(hour, begun, kind, onwardKind(hour, begun, kind)) : 0;
        }

        /** The first kind of those that are best behind an hour of a kind in a run begun at an hour. */
        private int onwardKind(int hour, int begun, int kind) {
            int best = 0;
            for (int next = 1; next < KINDS; next++) {
                best = worthOf(hour, begun, kind, next) > worthOf(hour, begun, kind, best) ? next : best;
            }
            return best;
        }

        private int worthOf(int hour, int begun, int kind, int next) {
            return next == kind ? at(worths, cell(hour + 1, begun, kind))
                : at(worths, cell(hour + 1, hour + 1, next)) - shop.seam;
        }

        private void follow(int first) {
            int kind = first;
            int begun = 0;
            put(bestRow, 0, kind);
            for (int hour = 0; hour + 1 < HOURS; hour++) {
                int next = onwardKind(hour, begun, kind);
                begun = next == kind ? begun : hour + 1;
                kind = next;
                put(bestRow, hour + 1, kind);
            }
        }

        /** Makes the fits of all told patterns, which shares and rests are taken from. */
        void compare() {
            for (int client = 0; client < shop.clients; client++) {
                for (int pattern = 0; pattern < PATTERNS; pattern++) {
                    if (patterns.isTold(pattern)) {
                        put(fits, PATTERNS * client + pattern, shop.fitOf(client, patterns.rows, HOURS * pattern));
                    }
                }
            }
        }

        int share(int own, int other) {
            int sum = 0;
            for (int client = 0; client < shop.clients; client++) {
                int mine = at(fits, PATTERNS * client + own);
                int theirs = at(fits, PATTERNS * client + other);
                sum += mine > theirs ? 2 : mine == theirs ? 1 : 0;
            }
            return sum;
        }

        private boolean isBestAgainst(int own, int other) {
            for (int pattern = 0; pattern < PATTERNS; pattern++) {
                if (patterns.isTold(pattern) && share(pattern, other) > share(own, other)) {
                    return false;
                }
            }
            return true;
        }

        private boolean rest(int one, int other) {
            return patterns.isTold(one) && patterns.isTold(other)
                && isBestAgainst(one, other) && isBestAgainst(other, one);
        }

        int rests() {
            int many = 0;
            for (int one = 0; one < PATTERNS; one++) {
                for (int other = 0; other < PATTERNS; other++) {
                    many += rest(one, other) ? 1 : 0;
                }
            }
            return many;
        }

        int firstRest() {
            for (int one = 0; one < PATTERNS; one++) {
                for (int other = 0; other < PATTERNS; other++) {
                    if (rest(one, other)) {
                        return 10 * one + other;
                    }
                }
            }
            return NONE;
        }
    }

    /** Told orders (bits): their runs packed into bolts, and which of them are sewn in time. */
    private static final class Tasks {
        private static final int MOST_RUNS = 12;
        private static final int SETS = 1 << MOST_RUNS;
        private static final int PER_BOLT = 64;
        private static final int NEVER = HUGE;

        private final Shop shop;
        private final Stand now;
        private final Patterns patterns;
        private final int[] runs = new int[MOST_RUNS];
        private final int[] sizes = new int[BOLTS];
        private final int[] packed = new int[SETS];
        private int runCount;
        private int sizeCount;

        Tasks(Shop shop, Stand now, Patterns patterns) {
            this.shop = shop;
            this.now = now;
            this.patterns = patterns;
        }

        private int patternOf(int order) {
            return shop.orderPart(order, Shop.PATTERN);
        }

        /** Whether all their patterns are told, with no more runs than can be packed. */
        boolean canBePacked(int orders) {
            int many = 0;
            for (int order = 0; order < shop.orders; order++) {
                if (holds(orders, order)) {
                    if (!patterns.isTold(patternOf(order))) {
                        return false;
                    }
                    many += runsOf(patterns.rows, HOURS * patternOf(order));
                }
            }
            return many <= MOST_RUNS;
        }

        int fewestBolts(int orders) {
            int fewest = 0;
            for (int kind = 0; kind < KINDS; kind++) {
                gatherRuns(orders, kind);
                gatherSizes(kind);
                int many = runCount == 0 ? 0 : pack();
                if (many == NONE) {
                    return NONE;
                }
                fewest += many;
            }
            return fewest;
        }

        private void gatherRuns(int orders, int kind) {
            runCount = 0;
            for (int order = 0; order < shop.orders; order++) {
                if (holds(orders, order)) {
                    addRuns(HOURS * patternOf(order), kind);
                }
            }
        }

        private void addRuns(int from, int kind) {
            int length = 0;
            for (int hour = 0; hour <= HOURS; hour++) {
                if (hour < HOURS && at(patterns.rows, from + hour) == kind) {
                    length++;
                } else if (length > 0 && runCount < MOST_RUNS) {
                    put(runs, runCount, length);
                    runCount++;
                    length = 0;
                }
            }
        }

        /** The largest first: what goes into some bolts goes into as many of the largest. */
        private void gatherSizes(int kind) {
            sizeCount = 0;
            for (int bolt = 0; bolt < shop.bolts; bolt++) {
                if (shop.boltKind(bolt) == kind) {
                    int place = sizeCount;
                    while (place > 0 && at(sizes, place - 1) < now.leftOn(bolt)) {
                        put(sizes, place, at(sizes, place - 1));
                        place--;
                    }
                    put(sizes, place, now.leftOn(bolt));
                    sizeCount++;
                }
            }
        }

        /** For each set of runs the least that is used, bolt by bolt: full bolts ahead, and hours of the last. */
        private int pack() {
            int all = (1 << runCount) - 1;
            for (int set = 1; set <= all && set < SETS; set++) {
                int least = NEVER;
                for (int run = 0; run < runCount; run++) {
                    if (holds(set, run)) {
                        least = Math.min(least, addRun(at(packed, set & ~(1 << run)), at(runs, run)));
                    }
                }
                put(packed, set, least);
            }
            int least = at(packed, all);
            return least == NEVER ? NONE : least / PER_BOLT + 1;
        }

        private int addRun(int used, int length) {
            if (used == NEVER) {
                return NEVER;
            }
            int bolt = used / PER_BOLT;
            if (bolt < sizeCount && used % PER_BOLT + length <= at(sizes, bolt)) {
                return used + length;
            }
            boolean fits = bolt + 1 < sizeCount && length <= at(sizes, bolt + 1);
            return fits ? (bolt + 1) * PER_BOLT + length : NEVER;
        }

        /** The set of most pence that all can be in time, of these the least. */
        int bestInTime(int orders) {
            int best = 0;
            for (int set = 1; set <= shop.allOrders(); set++) {
                boolean among = (set & ~orders) == 0;
                if (among && isInTime(set) && together(set, Shop.PENCE) > together(best, Shop.PENCE)) {
                    best = set;
                }
            }
            return best;
        }

        int together(int set, int part) {
            int sum = 0;
            for (int order = 0; order < shop.orders; order++) {
                sum += holds(set, order) ? shop.orderPart(order, part) : 0;
            }
            return sum;
        }

        /** Sewn by their days, the earliest first: no order puts more of them in time. */
        private boolean isInTime(int set) {
            for (int order = 0; order < shop.orders; order++) {
                int due = shop.orderPart(order, Shop.DUE);
                if (holds(set, order) && hoursDueBy(set, due) > (due - now.day() + 1) * shop.hands) {
                    return false;
                }
            }
            return true;
        }

        private int hoursDueBy(int set, int day) {
            int sum = 0;
            for (int order = 0; order < shop.orders; order++) {
                boolean due = holds(set, order) && shop.orderPart(order, Shop.DUE) <= day;
                sum += due ? shop.orderPart(order, Shop.SEWING) : 0;
            }
            return sum;
        }
    }
}
