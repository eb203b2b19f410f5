/** Each call that is refused: by which exception, which of two goes ahead, and that it leaves all as it was. */
public final class RefusalsTest extends Checks {
    private static final int ELEMENT = 0;
    private static final int ARGUMENT = 1;
    private static final int STATE = 2;
    private static final int LEAST = Integer.MIN_VALUE;
    private static final int MOST = Integer.MAX_VALUE;

    interface Asked {
        long of(SkyTailor x);
    }

    public static void main(String[] args) {
        texts();
        patterns();
        fullWorks();
        elements();
        whats();
        cloth();
        canAndTries();
        mend();
        orders();
        streetsAndPrices();
        tailors();
        ahead();
        years();
        span();
        notRefused();
        afterwards();
        end();
    }

    /** Two bolts, two clients (the first has a suit), two wants, two orders, two patterns, and 20 times fed bytes. */
    private static SkyTailor shop(int fed) {
        SkyTailor x = shopOf("bolt sun 30;bolt rain 20;client 1;client 2;wants 0 0 3 sun 5;wants 1 4 6 rain 2;"
            + "order 0 0 9 7 3;order 1 3 9 8 4;");
        pattern(x, 0, "6 sun;6 rain;");
        pattern(x, 4, "4 rain;8 sun;");
        law(x, "hour - 10");
        book(x, "0 sun;1 sun;");
        work(x, "cut 0 4;day;");
        x.image();
        work(x, "turn 0;strip 1;");
        book(x, "  x");
        for (int i = 0; i < fed; i++) {
            x.feed(0x3b3b3b3b, 0, -1, MOST, LEAST);
        }
        return x;
    }

    private static String texts(SkyTailor x) {
        return "fault " + x.fault() + " tape " + x.count(1);
    }

    private static void same(SkyTailor x, SkyTailor twin) {
        due(texts(x), texts(twin));
        due(state(x), state(twin));
        due(x.undo(), twin.undo());
        due(state(x), state(twin));
        due(x.restore(), twin.restore());
        due(state(x), state(twin));
        due(x.undo(), twin.undo());
    }

    /** The call throws, is counted once, and the shop is like one that was never asked. */
    private static void refusal(int by, int fed, Asked call) {
        SkyTailor x = shop(fed);
        if (by == ELEMENT) {
            noElement(() -> call.of(x));
        } else if (by == ARGUMENT) {
            noArgument(() -> call.of(x));
        } else {
            noState(() -> call.of(x));
        }
        for (int what = 0; what < 3; what++) {
            due(x.status(what), what == by ? 1 : 0);
        }
        same(x, shop(fed));
    }

    private static void element(Asked call) {
        refusal(ELEMENT, 1, call);
    }

    private static void argument(Asked call) {
        refusal(ARGUMENT, 1, call);
    }

    private static void state(Asked call) {
        refusal(STATE, 1, call);
    }

    private static void texts() {
        // not 0 to the tape's bytes: of none, of some, of as many as there can be
        for (int fed : new int[] {0, 1, 2, 30}) {
            for (int n : new int[] {LEAST, -1, 20 * fed + 1, MOST}) {
                refusal(ARGUMENT, fed, x -> x.shop(n));
                refusal(ARGUMENT, fed, x -> x.pattern(0, n));
                refusal(ARGUMENT, fed, x -> x.law(n));
                refusal(ARGUMENT, fed, x -> x.work(n));
                refusal(ARGUMENT, fed, x -> x.book(n));
            }
        }
        // the tape has them, but the text can't be as long
        refusal(ARGUMENT, 6, x -> x.pattern(0, 101));
        refusal(ARGUMENT, 6, x -> x.pattern(5, 120));
        refusal(ARGUMENT, 8, x -> x.law(151));
        refusal(ARGUMENT, 8, x -> x.law(160));
        refusal(ARGUMENT, 11, x -> x.work(201));
        refusal(ARGUMENT, 11, x -> x.work(220));
        refusal(ARGUMENT, 6, x -> x.book(101));
        refusal(ARGUMENT, 6, x -> x.book(120));
    }

    private static void patterns() {
        for (int n : new int[] {-1, 0, 20, 21, 101}) {
            element(x -> x.pattern(-1, n));
            element(x -> x.pattern(6, n));
            element(x -> x.pattern(LEAST, n));
            element(x -> x.pattern(MOST, n));
        }
    }

    private static SkyTailor worked() {
        SkyTailor x = shop(0);
        for (int i = x.count(2); i < 16; i++) {
            work(x, "turn 1;");
        }
        return x;
    }

    /** The exception goes ahead of -20; -20 goes ahead of a fault, and takes the tape and the latest fault. */
    private static void fullWorks() {
        SkyTailor x = worked();
        book(x, "   y");
        tell(x, "day;");
        for (int n : new int[] {-1, 21, 201}) {
            noArgument(() -> x.work(n));
            due(x.fault(), 3);
            due(x.count(1), 20);
        }
        due(x.status(1), 3);
        due(x.work(4), -20);
        due(x.status(1), 3);
        same(x, worked());
        SkyTailor y = worked();
        due(work(y, "no such step"), -20);
        same(y, worked());
        SkyTailor z = worked();
        due(z.work(0), -20);
        same(z, worked());
        // 15 that were not undone: one more can be done
        SkyTailor w = worked();
        w.undo();
        due(work(w, "no such step"), -9);
        due(w.count(2), 15);
        due(work(w, "day;"), 1);
        due(w.count(2), 16);
        due(w.work(0), -20);
    }

    private static void elements() {
        for (int none : new int[] {LEAST, -1, 2, MOST}) {
            for (int what : new int[] {LEAST, -1, 0, 12, MOST}) {
                element(x -> x.bolt(none, what));
                element(x -> x.client(none, what));
                element(x -> x.want(none, what));
                element(x -> x.order(none, what));
                element(x -> x.wears(none, what));
                element(x -> x.bestAt(none, what));
            }
            element(x -> x.ready(none) ? 1 : 0);
            element(x -> x.fit(none));
            element(x -> x.best(none));
            element(x -> x.clashes(none));
        }
        for (int none : new int[] {LEAST, -1, 6, MOST}) {
            element(x -> x.sky(none, 0));
            element(x -> x.sky(none, 12));
            element(x -> x.skies(none));
        }
    }

    private static void whats() {
        for (int none : new int[] {LEAST, -1, 10, MOST}) {
            argument(x -> x.told(none));
        }
        for (int none : new int[] {LEAST, -1, 2, MOST}) {
            argument(x -> x.bolt(1, none));
            argument(x -> x.look(none));
        }
        for (int none : new int[] {LEAST, -1, 7, MOST}) {
            argument(x -> x.client(1, none));
        }
        for (int none : new int[] {LEAST, -1, 6, MOST}) {
            argument(x -> x.want(1, none));
            argument(x -> x.order(1, none));
        }
        for (int none : new int[] {LEAST, -1, 12, MOST}) {
            argument(x -> x.wears(0, none));
            argument(x -> x.wears(1, none));
            argument(x -> x.bestAt(1, none));
            argument(x -> x.sky(0, none));
            // a pattern that is not told is one, all the same
            argument(x -> x.sky(5, none));
        }
    }

    private static void cloth() {
        for (int none : new int[] {LEAST, -1, 6, MOST}) {
            argument(x -> x.cloth(none, 0));
            argument(x -> x.cloth(none, 3));
        }
        for (int none : new int[] {LEAST, -1, 3, MOST}) {
            argument(x -> x.cloth(0, none));
            argument(x -> x.cloth(5, none));
        }
    }

    private static void canAndTries() {
        for (int none : new int[] {LEAST, -1, 2, MOST}) {
            element(x -> x.can(none, 0) ? 1 : 0);
            element(x -> x.tries(none, 0));
            element(x -> x.tries(none, 5));
            element(x -> x.tries(none, 6));
        }
        for (int none : new int[] {LEAST, -1, 6, MOST}) {
            element(x -> x.can(0, none) ? 1 : 0);
            element(x -> x.tries(1, none));
        }
        for (int untold : new int[] {1, 2, 3, 5}) {
            state(x -> x.tries(0, untold));
        }
    }

    private static void mend() {
        for (int none : new int[] {LEAST, -1, 2, MOST}) {
            element(x -> x.mend(none, 0));
            element(x -> x.mend(none, -1));
        }
        // the want of the other client, wants that are none, the sign's bit
        for (int bits : new int[] {2, 3, 4, 5, 1 << 15, 1 << 16, 1 << 30, LEAST, LEAST + 1, -1, -2, MOST}) {
            argument(x -> x.mend(0, bits));
        }
        // ahead of the NONE of a client without a suit
        for (int bits : new int[] {1, 3, 4, LEAST, -1}) {
            argument(x -> x.mend(1, bits));
        }
    }

    private static void orders() {
        for (int bits : new int[] {4, 5, 7, 8, 128, 256, 1 << 30, LEAST, LEAST + 1, -1, -4, MOST}) {
            argument(x -> x.pieces(bits));
            argument(x -> x.sewn(bits, 0));
            argument(x -> x.sewn(bits, 3));
        }
        // order 1 is of a pattern that is not told
        state(x -> x.pieces(2));
        state(x -> x.pieces(3));
        argument(x -> x.pieces(6));
        for (int none : new int[] {LEAST, -1, 3, MOST}) {
            argument(x -> x.sewn(0, none));
            argument(x -> x.sewn(3, none));
        }
    }

    private static void streetsAndPrices() {
        for (int none : new int[] {LEAST, -1, 10, MOST}) {
            argument(x -> x.words(none));
        }
        for (int none : new int[] {LEAST, -1, 0, 9, MOST}) {
            argument(x -> x.offers(none, 0));
            argument(x -> x.offers(none, 1));
            argument(x -> x.line(none));
        }
        for (int none : new int[] {LEAST, -1, 2, MOST}) {
            argument(x -> x.offers(1, none));
            argument(x -> x.offers(8, none));
        }
    }

    private static void tailors() {
        for (int none : new int[] {LEAST, -1, 3, MOST}) {
            argument(x -> x.tailors(none));
        }
        for (int none : new int[] {LEAST, -1, 6, MOST}) {
            element(x -> x.gets(none, 0));
            element(x -> x.gets(0, none));
            element(x -> x.gets(none, 5));
            element(x -> x.gets(5, none));
            element(x -> x.gets(none, none));
        }
        state(x -> x.gets(0, 5));
        state(x -> x.gets(5, 0));
        state(x -> x.gets(1, 1));
    }

    private static void ahead() {
        for (int none : new int[] {LEAST, -1, 2, MOST}) {
            element(x -> x.ahead(none, 0, 0));
            element(x -> x.ahead(none, 61, 2));
        }
        for (int client = 0; client < 2; client++) {
            int one = client;
            for (int days : new int[] {LEAST, -1, 61, MOST}) {
                argument(x -> x.ahead(one, days, 0));
            }
            for (int what : new int[] {LEAST, -1, 2, MOST}) {
                argument(x -> x.ahead(one, 1, what));
            }
        }
    }

    private static void years() {
        for (int q : new int[] {LEAST, -1, 17, MOST}) {
            argument(x -> x.years(1, q, 1, 0));
            argument(x -> x.span(1, 1, q, 1, 0, 0));
        }
        for (int days : new int[] {LEAST, -1, 0, 61, MOST}) {
            argument(x -> x.years(1, 1, days, 0));
            argument(x -> x.span(1, 1, 1, days, 0, 0));
        }
        for (int what : new int[] {LEAST, -1, 3, MOST}) {
            argument(x -> x.years(1, 1, 1, what));
            argument(x -> x.span(1, 1, 1, 1, what, 0));
        }
    }

    private static void span() {
        for (int many : new int[] {LEAST, -1, 0, 21, MOST}) {
            argument(x -> x.span(1, many, 1, 1, 0, 0));
        }
        for (int order : new int[] {LEAST, -1, 2, MOST}) {
            for (int what = 0; what < 3; what++) {
                int one = what;
                argument(x -> x.span(1, 1, 1, 1, one, order));
            }
        }
    }

    /** What answers below 0 without an exception is not counted, and leaves all. */
    private static void notRefused() {
        SkyTailor x = shop(30);
        due(x.feed(1, 2, 3, 4, 5), -1);
        for (int none : new int[] {LEAST, -1, 3, MOST}) {
            due(x.status(none), -1);
            due(x.count(none), -1);
        }
        // sun and rain 6 each, of twelve skies
        due(x.look(0), 4);
        due(x.look(1), 6);
        due(x.mend(1, 0), -1);
        due(x.sky(5, 0), -1);
        due(x.wears(1, 0), -1);
        for (int what = 0; what < 3; what++) {
            due(x.status(what), 0);
        }
        same(x, shop(30));
        SkyTailor y = new SkyTailor();
        due(y.undo(), -1);
        due(y.restore(), -1);
        due(law(y, ""), -9);
        for (int i = 0; i < 4; i++) {
            due(y.image(), i < 3 ? i + 1 : -1);
        }
        for (int what = 0; what < 3; what++) {
            due(y.status(what), 0);
        }
    }

    /** A text that was refused is still on the tape: the same call with another number reads it. */
    private static void afterwards() {
        SkyTailor x = new SkyTailor();
        tell(x, "client 4;client 5;");
        noArgument(() -> x.shop(21));
        noElement(() -> x.pattern(6, 9));
        noArgument(() -> x.law(-1));
        due(x.shop(18), 2);
        due(x.client(1, 0), 5);
        tell(x, "12 fog;");
        noElement(() -> x.pattern(-1, 7));
        noArgument(() -> x.pattern(0, 21));
        due(x.pattern(0, 7), 1);
        due(x.status(0), 2);
        due(x.status(1), 3);
        due(x.status(2), 0);
    }
}
