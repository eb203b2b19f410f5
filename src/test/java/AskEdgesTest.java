/** The edges of section 3 and of promises 10 to 38 as far as they ask: first and last of all, none of any, all at once. */
public final class AskEdgesTest extends Checks {
    private static final String ALL_DAYS = "again 20[day;];again 20[day;];again 20[day;];";

    public static void main(String[] args) {
        facts();
        fitEdges();
        triesEdges();
        bestEdges();
        bestAtAlone();
        clashEdges();
        mendEdges();
        piecesEdges();
        runsOfPieces();
        sewnEdges();
        sewnSets();
        wordsEdges();
        prices();
        skiesEdges();
        lookEdges();
        tailorsEdges();
        getsEdges();
        aheadEdges();
        yearsEdges();
        spanEdges();
        nothingChanges();
        end();
    }

    /** The last bolt, client, want and order that there can be, with the greatest numbers. */
    private static void facts() {
        SkyTailor x = shopOf("bolt sun 1;".repeat(9) + "bolt fog 60;" + "client 0;".repeat(5) + "client 9;"
            + "wants 0 0 0 sun 1;".repeat(15) + "wants 5 11 11 fog 9;" + "order 0 0 1 0 1;order 5 5 60 999 24;");
        due(x.told(0), 10);
        due(x.told(1), 6);
        due(x.told(2), 16);
        due(x.told(3), 2);
        due(x.told(6), 69);
        int[] bolt = {5, 60};
        int[] client = {9, 0, 0, 0, 0, 0, 1 << 15};
        int[] want = {5, 11, 11, 5, 9, 0};
        int[] order = {5, 5, 60, 999, 24, 0};
        for (int what = 0; what < 7; what++) {
            due(x.client(5, what), client[what]);
            if (what < 6) {
                due(x.want(15, what), want[what]);
                due(x.order(1, what), order[what]);
            }
            if (what < 2) {
                due(x.bolt(9, what), bolt[what]);
            }
        }
        due(x.client(0, 6), 32767);
        due(x.bolt(0, 0), 0);
        due(x.bolt(0, 1), 1);
        noElement(() -> x.bolt(10, 0));
        noElement(() -> x.client(6, 0));
        noElement(() -> x.want(16, 0));
        noElement(() -> x.order(2, 0));
        SkyTailor y = shopOf("client 0;" + "order 0 0 1 0 1;".repeat(7) + "order 0 1 2 3 4;");
        due(y.order(7, 4), 4);
        noElement(() -> y.order(8, 0));
        // of none there is none
        SkyTailor z = new SkyTailor();
        noElement(() -> z.bolt(0, 0));
        noElement(() -> z.client(0, 0));
        noElement(() -> z.want(0, 0));
        noElement(() -> z.order(0, 0));
        noElement(() -> z.wears(0, 0));
        noElement(() -> z.fit(0));
        noElement(() -> z.best(0));
        noElement(() -> z.bestAt(0, 0));
        noElement(() -> z.clashes(0));
        noElement(() -> z.mend(0, 0));
        noElement(() -> z.tries(0, 0));
        noElement(() -> z.can(0, 0) ? 1 : 0);
        noElement(() -> z.ready(0) ? 1 : 0);
        noElement(() -> z.ahead(0, 0, 0));
        due(z.status(0), 14);
    }

    private static void fitEdges() {
        // all 16 wants met, each 9; a seam 9, eleven of them
        SkyTailor x = shopOf("bolt sun 60;bolt fog 60;client 0;client 0;" + "wants 0 0 11 sun 9;".repeat(16) + "seam 9;");
        pattern(x, 0, "12 sun;");
        pattern(x, 1, "again 6[1 sun;1 fog;];");
        due(x.tries(0, 0), 144);
        due(x.tries(0, 1), -99);
        work(x, "cut 0 0;cut 1 1;");
        due(x.fit(0), 144);
        due(x.fit(1), -99);
        due(x.client(0, 6), 65535);
        // one hour that is not of the kind, the first or the last of it
        SkyTailor y = shopOf("bolt sun 60;bolt fog 60;client 0;wants 0 3 7 sun 5;wants 0 3 3 sun 1;wants 0 0 0 fog 2;wants 0 11 11 fog 4;seam 0;");
        pattern(y, 0, "3 fog;5 sun;4 fog;");
        work(y, "cut 0 0;");
        due(y.fit(0), 12);
        work(y, "alter 0 3 fog;");
        due(y.fit(0), 6);
        work(y, "alter 0 3 sun;alter 0 7 fog;");
        due(y.fit(0), 7);
        work(y, "alter 0 7 sun;alter 0 2 sun;alter 0 8 sun;");
        due(y.fit(0), 12);
        work(y, "alter 0 0 sun;alter 0 11 sun;");
        due(y.fit(0), 6);
        // bare hours meet no want
        law(y, "1");
        work(y, "day;");
        due(y.fit(0), 0);
        for (int want = 0; want < 4; want++) {
            due(y.want(want, 5), 0);
        }
        // wants that clash are each met or not, by themselves; without a seam told it is 1
        SkyTailor z = shopOf("bolt sun 60;client 0;wants 0 0 11 sun 3;wants 0 0 11 fog 4;wants 0 5 5 sun 1;");
        pattern(z, 0, "12 sun;");
        pattern(z, 1, "6 sun;6 fog;");
        due(z.tries(0, 0), 4);
        due(z.tries(0, 1), 0);
    }

    private static void triesEdges() {
        SkyTailor x = shopOf("client 0;".repeat(6) + "wants 5 0 11 wind 7;");
        pattern(x, 5, "12 wind;");
        for (int client = 0; client < 6; client++) {
            due(x.tries(client, 5), client == 5 ? 7 : 0);
        }
        // no cloth is needed, nor that he has no suit
        due(x.told(6), 0);
        for (int pattern = 0; pattern < 5; pattern++) {
            int untold = pattern;
            noState(() -> x.tries(5, untold));
        }
        due(x.status(2), 5);
        pattern(x, 0, "11 wind;1 fog;");
        due(x.tries(5, 0), -1);
        // a pattern that failed is not told
        due(pattern(x, 1, "11 wind;"), -6);
        noState(() -> x.tries(5, 1));
    }

    private static void best(String wants, int fit, String row) {
        SkyTailor x = shopOf("client 3;client 4;" + wants);
        due(x.best(0), fit);
        due(bestRow(x, 0), row);
        due(x.best(1), 0);
        due(bestRow(x, 1), "000000000000");
        due(x.client(0, 1), 0);
    }

    private static void bestEdges() {
        best("", 0, "000000000000");
        best("wants 0 0 11 fog 1;", 1, "555555555555");
        // a want that a seam takes away: with the rest of alike fit the first
        best("wants 0 11 11 rain 1;", 1, "111111111111");
        best("wants 0 11 11 rain 1;wants 0 0 0 sun 1;", 1, "000000000000");
        best("wants 0 11 11 rain 2;wants 0 0 0 sun 1;", 2, "000000000001");
        best("wants 0 11 11 sun 2;wants 0 0 0 rain 1;", 2, "000000000000");
        best("wants 0 11 11 sun 2;wants 0 0 0 rain 2;", 3, "100000000000");
        best("wants 0 11 11 sun 2;wants 0 0 0 rain 2;seam 2;", 2, "000000000000");
        best("wants 0 11 11 sun 2;wants 0 0 0 rain 2;seam 9;", 2, "000000000000");
        best("wants 0 11 11 sun 2;wants 0 0 0 rain 2;seam 0;", 4, "100000000000");
        // wants of one kind that overlap; one in the midst of another
        best("wants 0 0 5 wind 4;wants 0 4 9 wind 4;wants 0 5 5 sun 9;seam 0;", 9, "000000000000");
        best("wants 0 0 5 wind 5;wants 0 4 9 wind 5;wants 0 5 5 sun 9;seam 0;", 10, "333333333300");
        best("wants 0 0 5 wind 5;wants 0 4 9 wind 5;wants 0 5 5 sun 9;", 10, "333333333333");
        // all 16: nine seams that are worth it, fog for the first three hours spares two
        best("wants 0 0 0 rain 9;wants 0 1 1 sun 9;wants 0 2 2 rain 9;wants 0 3 3 sun 9;wants 0 4 4 rain 9;wants 0 5 5 sun 9;"
            + "wants 0 6 6 rain 9;wants 0 7 7 sun 9;wants 0 8 8 rain 9;wants 0 9 9 sun 9;wants 0 10 10 rain 9;wants 0 11 11 sun 9;"
            + "wants 0 0 0 fog 9;wants 0 1 1 fog 9;wants 0 2 2 fog 9;wants 0 3 3 fog 8;", 12 * 9 - 9, "555010101010");
        // each kind at its last number, rows by hours, kinds by number
        for (int kind = 0; kind < 6; kind++) {
            String word = "sun rain grey wind frost fog".split(" ")[kind];
            String row = ("" + kind).repeat(12);
            best("wants 0 5 6 " + word + " 9;", 9, row);
        }
        best("wants 0 5 5 fog 3;wants 0 5 5 frost 3;", 3, "444444444444");
        best("wants 0 5 5 fog 3;wants 0 7 7 wind 3;seam 3;", 3, "333333333333");
        best("wants 0 5 5 fog 3;wants 0 7 7 wind 3;seam 2;", 4, "555555333333");
    }

    /** An hour by best can be asked ahead of best, and of one client behind another. */
    private static void bestAtAlone() {
        SkyTailor x = shopOf("client 0;client 0;wants 0 0 11 fog 1;wants 1 0 11 wind 1;");
        due(x.bestAt(1, 11), 3);
        due(x.bestAt(0, 0), 5);
        due(x.bestAt(1, 0), 3);
        due(x.best(0), 1);
        due(x.bestAt(1, 5), 3);
        due(x.bestAt(0, 11), 5);
    }

    private static void clashEdges() {
        // in common: the last hour of one is the first of the other; the next hour is not
        SkyTailor x = shopOf("client 0;client 0;client 0;wants 0 0 3 sun 1;wants 0 3 5 fog 1;wants 1 0 3 sun 1;wants 1 4 5 fog 1;"
            + "wants 2 0 11 sun 1;wants 2 0 11 sun 1;");
        due(x.clashes(0), 1);
        due(x.clashes(1), 0);
        due(x.clashes(2), 0);
        // of unlike clients they do not
        SkyTailor y = shopOf("client 0;client 0;wants 0 0 11 sun 1;wants 1 0 11 fog 1;");
        due(y.clashes(0), 0);
        due(y.clashes(1), 0);
        // all twos of 16
        SkyTailor z = shopOf("client 0;" + "wants 0 0 5 sun 1;wants 0 5 11 fog 1;".repeat(8));
        due(z.clashes(0), 64);
        SkyTailor w = shopOf("client 0;wants 0 5 5 sun 1;wants 0 0 11 rain 1;wants 0 5 6 grey 1;wants 0 6 6 wind 1;");
        due(w.clashes(0), 5);
    }

    private static void mendEdges() {
        SkyTailor x = shopOf("bolt sun 12;client 0;client 0;" + "wants 0 0 11 fog 1;".repeat(15) + "wants 0 11 11 fog 1;");
        pattern(x, 0, "12 sun;");
        due(x.mend(0, 0), -1);
        due(x.mend(0, 65535), -1);
        work(x, "cut 0 0;");
        due(x.mend(0, 0), 0);
        due(x.mend(0, 65535), 12);
        due(x.mend(0, 1 << 15), 1);
        due(x.mend(0, 1), 12);
        due(x.mend(1, 0), -1);
        noArgument(() -> x.mend(1, 1));
        noArgument(() -> x.mend(0, 65536));
        noArgument(() -> x.mend(0, 65536 + 65535));
        // no cloth is needed; what clashes need not be told
        due(x.told(6), 0);
        SkyTailor y = shopOf("bolt sun 60;client 0;wants 0 0 3 sun 1;wants 0 3 5 fog 1;wants 0 4 6 fog 1;");
        pattern(y, 0, "12 sun;");
        work(y, "cut 0 0;");
        due(y.mend(0, 1), 0);
        due(y.mend(0, 2), 3);
        due(y.mend(0, 4), 3);
        due(y.mend(0, 6), 4);
        due(y.mend(0, 5), 3);
        due(y.mend(0, 3), -1);
        due(y.mend(0, 7), -1);
        noArgument(() -> y.mend(0, 8));
        // bare hours
        law(y, "4 - hour");
        work(y, "day;");
        due(y.mend(0, 1), 4);
        due(y.mend(0, 5), 7);
        due(y.mend(0, 0), 0);
    }

    private static SkyTailor pieced(String shop) {
        SkyTailor x = shopOf("client 0;" + shop);
        pattern(x, 0, "12 sun;");
        pattern(x, 1, "6 sun;6 fog;");
        pattern(x, 2, "again 6[1 sun;1 fog;];");
        pattern(x, 3, "again 5[1 sun;1 fog;];1 sun;1 rain;");
        return x;
    }

    private static void piecesEdges() {
        // none told: no bolts, though there are none
        due(new SkyTailor().pieces(0), 0);
        due(pieced("").pieces(0), 0);
        due(pieced("order 0 0 1 1 1;").pieces(1), -1);
        due(pieced("bolt sun 11;order 0 0 1 1 1;").pieces(1), -1);
        due(pieced("bolt sun 12;order 0 0 1 1 1;").pieces(1), 1);
        due(pieced("bolt sun 6;bolt sun 6;order 0 0 1 1 1;").pieces(1), -1);
        due(pieced("bolt fog 12;order 0 0 1 1 1;").pieces(1), -1);
        due(pieced("bolt sun 12;bolt sun 12;order 0 0 1 1 1;order 0 0 1 1 1;").pieces(3), 2);
        due(pieced("bolt sun 24;bolt sun 12;order 0 0 1 1 1;order 0 0 1 1 1;").pieces(3), 1);
        due(pieced("bolt sun 23;bolt sun 12;order 0 0 1 1 1;order 0 0 1 1 1;").pieces(3), 2);
        due(pieced("bolt sun 23;bolt sun 11;order 0 0 1 1 1;order 0 0 1 1 1;").pieces(3), -1);
        // five times 12 are just the longest bolt; a sixth goes elsewhere
        String six = "order 0 0 1 1 1;".repeat(6);
        due(pieced("bolt sun 60;bolt sun 12;" + six).pieces(31), 1);
        due(pieced("bolt sun 60;bolt sun 12;" + six).pieces(63), 2);
        due(pieced("bolt sun 60;bolt sun 11;" + six).pieces(63), -1);
        due(pieced("bolt sun 59;bolt sun 12;" + six).pieces(31), 2);
        // all ten bolts
        SkyTailor x = pieced("bolt sun 1;bolt fog 1;".repeat(5) + "order 0 4 1 1 1;");
        pattern(x, 4, "again 6[1 sun;1 fog;];");
        due(x.pieces(1), -1);
        SkyTailor y = pieced("bolt sun 2;bolt fog 2;bolt rain 2;bolt sun 1;bolt fog 2;bolt rain 1;bolt sun 1;bolt wind 1;order 0 4 1 1 1;");
        pattern(y, 4, "2 sun;2 fog;2 rain;1 sun;2 fog;1 rain;1 sun;1 wind;");
        due(y.pieces(1), 8);
        // bolts that are empty, off bolts as they are now
        SkyTailor z = pieced("bolt sun 12;bolt sun 24;order 0 0 1 1 1;order 0 0 1 1 1;order 0 0 1 1 1;");
        due(z.pieces(7), 2);
        work(z, "cut 0 0;");
        due(z.bolt(0, 1), 0);
        due(z.pieces(7), -1);
        due(z.pieces(6), 1);
        // orders that are sold or too late are still orders
        work(z, "sell 0;again 5[day;];");
        due(z.order(0, 5), 1);
        due(z.order(1, 5), 2);
        due(z.pieces(3), 1);
        noArgument(() -> z.pieces(8));
        noArgument(() -> z.pieces(-8));
    }

    private static void runsOfPieces() {
        // 12 runs at most together: one pattern of 12, of others 6 and 6, 12 and 1
        String bolts = "bolt sun 60;bolt fog 60;bolt rain 60;";
        SkyTailor x = pieced(bolts + "order 0 2 1 1 1;order 0 3 1 1 1;order 0 0 1 1 1;order 0 1 1 1 1;");
        due(x.pieces(1), 2);
        due(x.pieces(2), 3);
        due(x.pieces(12), 2);
        noState(() -> x.pieces(5));
        noState(() -> x.pieces(9));
        noState(() -> x.pieces(3));
        SkyTailor y = pieced(bolts + "order 0 1 1 1 1;".repeat(7));
        due(y.pieces(63), 2);
        due(y.pieces(126), 2);
        noState(() -> y.pieces(127));
        // 8 orders of one run each; of three runs each four, not five
        SkyTailor z = pieced(bolts + "order 0 4 1 1 1;".repeat(8));
        noState(() -> z.pieces(1));
        noState(() -> z.pieces(255));
        noArgument(() -> z.pieces(256));
        due(z.pieces(0), 0);
        pattern(z, 4, "12 sun;");
        due(z.pieces(31), 1);
        due(z.pieces(63), -1);
        due(z.pieces(255), -1);
        pattern(z, 4, "6 sun;1 fog;5 rain;");
        due(z.pieces(15), 3);
        due(z.pieces(240), 3);
        noState(() -> z.pieces(31));
        noState(() -> z.pieces(255));
        due(z.status(2), 4);
        // twelve runs of one kind, in two orders of six, into bolts that are just filled
        SkyTailor w = pieced("bolt fog 60;bolt sun 4;bolt sun 5;bolt sun 3;order 0 2 1 1 1;order 0 2 1 1 1;");
        noState(() -> w.pieces(3));
        due(w.pieces(1), 3);
        due(w.pieces(2), 3);
    }

    private static void sewnEdges() {
        // none: none is sewn
        SkyTailor none = new SkyTailor();
        for (int what = 0; what < 3; what++) {
            due(none.sewn(0, what), 0);
            int one = what;
            noArgument(() -> none.sewn(1, one));
        }
        // 8 hours a day without hands told, this day's all too: by day 1 sixteen
        due(shopOf("client 0;order 0 0 1 5 16;").sewn(1, 0), 5);
        due(shopOf("client 0;order 0 0 1 5 17;").sewn(1, 0), 0);
        due(shopOf("client 0;hands 12;order 0 0 1 5 24;").sewn(1, 0), 5);
        due(shopOf("client 0;hands 11;order 0 0 1 5 24;").sewn(1, 0), 0);
        due(shopOf("client 0;hands 11;order 0 0 1 5 22;").sewn(1, 2), 22);
        // one hour a day: H by day H - 1
        due(shopOf("client 0;hands 1;order 0 0 23 5 24;").sewn(1, 1), 1);
        due(shopOf("client 0;hands 1;order 0 0 22 5 24;").sewn(1, 1), 0);
        due(shopOf("client 0;hands 24;order 0 0 1 5 24;order 0 0 1 5 24;").sewn(3, 1), 3);
        due(shopOf("client 0;hands 24;order 0 0 1 5 24;order 0 0 1 5 24;order 0 0 1 6 1;").sewn(7, 1), 5);
        // on the last day that is in time, on the next
        SkyTailor x = shopOf("client 0;hands 8;order 0 0 3 5 8;order 0 0 3 7 9;order 0 0 60 1 8;");
        due(x.sewn(3, 1), 3);
        work(x, "day;day;");
        due(x.sewn(3, 1), 2);
        due(x.sewn(1, 1), 1);
        work(x, "day;");
        due(x.sewn(1, 1), 1);
        due(x.sewn(2, 1), 0);
        due(x.sewn(3, 0), 5);
        due(x.sewn(3, 2), 8);
        work(x, "day;");
        due(x.sewn(7, 1), 4);
        work(x, ALL_DAYS);
        due(x.told(4), 60);
        due(x.sewn(7, 1), 4);
        due(x.sewn(7, 2), 8);
    }

    private static void sewnSets() {
        // of alike pence the least bits, which is no matter of hours
        due(shopOf("client 0;order 0 0 1 5 16;order 0 0 1 5 1;").sewn(3, 1), 1);
        due(shopOf("client 0;order 0 0 1 5 1;order 0 0 1 5 16;").sewn(3, 1), 1);
        due(shopOf("client 0;order 0 0 1 6 16;order 0 0 1 3 8;order 0 0 1 3 8;").sewn(7, 1), 1);
        due(shopOf("client 0;order 0 0 1 3 8;order 0 0 1 3 8;order 0 0 1 6 16;").sewn(7, 1), 3);
        // orders for no pence are left out
        due(shopOf("client 0;order 0 0 9 0 1;order 0 0 9 1 1;").sewn(3, 1), 2);
        due(shopOf("client 0;order 0 0 9 0 1;").sewn(1, 1), 0);
        due(shopOf("client 0;order 0 0 9 0 1;").sewn(1, 2), 0);
        // by their days, whatever their order; one may go on on the next day
        due(shopOf("client 0;order 0 0 4 5 24;order 0 0 2 5 16;").sewn(3, 1), 3);
        due(shopOf("client 0;order 0 0 4 5 24;order 0 0 2 5 17;").sewn(3, 1), 1);
        due(shopOf("client 0;order 0 0 4 5 24;order 0 0 1 5 16;").sewn(3, 1), 3);
        due(shopOf("client 0;order 0 0 3 5 24;order 0 0 1 6 9;").sewn(3, 1), 2);
        due(shopOf("client 0;order 0 0 3 5 23;order 0 0 1 6 9;").sewn(3, 1), 3);
        due(shopOf("client 0;order 0 0 3 5 23;order 0 0 1 6 9;").sewn(3, 2), 32);
        // all eight, for the most pence; only those that are told
        SkyTailor x = shopOf("client 0;" + "order 0 0 60 999 24;".repeat(8));
        due(x.sewn(255, 0), 7992);
        due(x.sewn(255, 1), 255);
        due(x.sewn(255, 2), 192);
        for (int bits = 0; bits < 256; bits += 15) {
            due(x.sewn(bits, 1), bits);
            due(x.sewn(bits, 2), 24 * Integer.bitCount(bits));
        }
        noArgument(() -> x.sewn(256, 0));
        // patterns need not be told, nor orders be open
        work(x, "again 3[day;];");
        due(x.sewn(128, 1), 128);
    }

    private static void wordsEdges() {
        SkyTailor x = shopOf("bolt sun 60;bolt fog 60;" + "client 9;".repeat(6));
        pattern(x, 0, "12 sun;");
        pattern(x, 1, "12 fog;");
        due(x.words(9), 0);
        work(x, "cut 0 0;cut 1 0;cut 2 0;cut 3 1;cut 4 1;cut 5 1;");
        due(x.words(9), 9 * 12);
        for (int street = 0; street < 9; street++) {
            due(x.words(street), 0);
        }
        work(x, "alter 0 0 fog;");
        due(x.words(9), 9 * 12 + 2 - 3);
        law(x, "(client - 4) * (11 - hour)");
        work(x, "day;");
        due(x.client(5, 3), 11);
        due(x.words(9), 6 * 12 + 2 - 2 + 3);
        work(x, "strip 5;");
        due(x.words(9), 6 * 12 + 2 - 2);
        // one alone, two in unlike streets
        SkyTailor y = shopOf("bolt sun 60;bolt fog 60;client 0;client 9;client 0;");
        pattern(y, 0, "12 sun;");
        pattern(y, 1, "12 fog;");
        work(y, "cut 0 0;cut 1 1;");
        due(y.words(0), 0);
        due(y.words(9), 0);
        work(y, "cut 2 1;");
        due(y.words(0), 12);
    }

    /** The mean prices once more, as sums over the ten prices. */
    private static void prices() {
        SkyTailor x = new SkyTailor();
        long above = 9;
        long below = 2;
        due(x.line(1), 9);
        for (int n = 1; n <= 8; n++) {
            due(x.offers(n, 0), above);
            due(x.offers(n, 1), below);
            int line = 0;
            long next = 0;
            for (int price = 0; price < 10; price++) {
                boolean buys = price * below <= above;
                line = buys ? price : line;
                next += buys ? price * below : above;
            }
            if (n < 8) {
                due(x.line(n + 1), line);
            }
            below *= 10;
            above = next;
            for (int by = 2; by <= 5; by += 3) {
                while (above % by == 0 && below % by == 0) {
                    above /= by;
                    below /= by;
                }
            }
        }
    }

    private static void skiesEdges() {
        SkyTailor x = new SkyTailor();
        for (int pattern = 0; pattern < 6; pattern++) {
            due(x.skies(pattern), 0);
        }
        due(x.which(), 0);
        for (int pattern = 0; pattern < 6; pattern++) {
            pattern(x, pattern, "12 fog;");
            due(x.skies(pattern), 4095);
            due(x.which(), (2 << pattern) - 1);
        }
        // begun s hours later: what goes out behind comes in ahead
        pattern(x, 5, "1 rain;11 sun;");
        for (int hour = 0; hour < 12; hour++) {
            book(x, hour + " rain;");
            due(x.skies(5), 1 << hour);
            due(x.which(), 32);
        }
        pattern(x, 5, "11 sun;1 rain;");
        for (int hour = 0; hour < 12; hour++) {
            book(x, hour + " rain;");
            due(x.skies(5), 1 << (hour + 1) % 12);
        }
        // all lines of a full book; one that is not so
        String eleven = "0sun;1sun;2sun;3sun;4sun;5sun;6sun;7sun;8sun;9sun;10sun;";
        book(x, eleven + "11rain;");
        due(x.skies(5), 1);
        book(x, eleven + "11fog;");
        due(x.skies(5), 0);
        due(x.which(), 0);
        book(x, eleven + "11sun;");
        due(x.which(), 0);
        book(x, "");
        due(x.which(), 63);
        book(x, "11 fog;");
        due(x.which(), 31);
    }

    private static void lookEdges() {
        // no skies at all: the first hour in no line, none left
        SkyTailor x = new SkyTailor();
        due(x.look(0), 0);
        due(x.look(1), 0);
        book(x, "0 sun;2 sun;");
        due(x.look(0), 1);
        due(x.look(1), 0);
        // one hour is in no line, each in turn
        for (int open = 0; open < 12; open++) {
            StringBuilder lines = new StringBuilder();
            for (int hour = 11; hour >= 0; hour--) {
                lines.append(hour == open ? "" : hour + "sun;");
            }
            due(book(x, lines.toString()), 11);
            due(x.look(0), open);
            due(x.look(1), 0);
        }
        due(book(x, "0sun;1sun;2sun;3sun;4sun;5sun;6sun;7sun;8sun;9sun;10sun;11sun;"), 12);
        due(x.look(0), -1);
        due(x.look(1), -1);
        // patterns and their beginnings count each by themselves
        SkyTailor y = new SkyTailor();
        pattern(y, 0, "12 sun;");
        due(y.look(1), 12);
        pattern(y, 1, "12 sun;");
        due(y.look(0), 0);
        due(y.look(1), 24);
        pattern(y, 2, "12 fog;");
        due(y.look(1), 24);
        for (int pattern = 2; pattern < 6; pattern++) {
            pattern(y, pattern, "12 sun;");
        }
        due(y.look(1), 72);
        book(y, "0 sun;");
        due(y.look(0), 1);
        due(y.look(1), 72);
        // the fewest, of these the first: 1 rain among sun, rain seen at hour 3: one sky
        SkyTailor z = new SkyTailor();
        pattern(z, 0, "1 rain;11 sun;");
        due(z.look(0), 0);
        due(z.look(1), 11);
        book(z, "0 sun;");
        due(z.look(0), 1);
        due(z.look(1), 10);
        book(z, "3 rain;");
        due(z.look(0), 0);
        due(z.look(1), 1);
        book(z, "0 sun;1 sun;2 sun;3 sun;4 sun;5 sun;6 sun;7 sun;8 sun;9 sun;");
        due(z.look(0), 10);
        due(z.look(1), 1);
        // six kinds, each left alike
        SkyTailor w = new SkyTailor();
        pattern(w, 0, "2 sun;2 rain;2 grey;2 wind;2 frost;2 fog;");
        due(w.look(0), 0);
        due(w.look(1), 2);
        book(w, "0 fog;");
        due(w.look(0), 1);
        due(w.look(1), 1);
    }

    private static void tailorsEdges() {
        // nothing told: no pairs
        SkyTailor x = new SkyTailor();
        due(x.tailors(0), 0);
        due(x.tailors(1), -1);
        due(x.tailors(2), 0);
        // patterns without clients: all pairs rest, and get 0
        pattern(x, 5, "12 sun;");
        due(x.tailors(0), 1);
        due(x.tailors(1), 55);
        due(x.tailors(2), 0);
        for (int pattern = 0; pattern < 5; pattern++) {
            pattern(x, pattern, "12 sun;");
        }
        due(x.tailors(0), 36);
        due(x.tailors(1), 0);
        // six clients, who all find one better
        SkyTailor y = shopOf("client 0;".repeat(6) + "wants 0 0 11 fog 1;wants 1 0 11 fog 1;wants 2 0 11 fog 1;wants 3 0 11 fog 1;"
            + "wants 4 0 11 fog 1;wants 5 0 11 fog 1;");
        pattern(y, 0, "12 sun;");
        pattern(y, 5, "12 fog;");
        due(y.gets(0, 5), 0);
        due(y.gets(5, 0), 12);
        due(y.gets(0, 0), 6);
        due(y.tailors(0), 1);
        due(y.tailors(1), 55);
        due(y.tailors(2), 6);
        // by a pattern that is told anew
        pattern(y, 5, "11 fog;1 sun;");
        due(y.gets(5, 0), 0);
        due(y.tailors(1), 0);
        // alike for all: all four pairs
        pattern(y, 5, "12 rain;");
        due(y.tailors(0), 4);
        due(y.tailors(1), 0);
        due(y.tailors(2), 6);
        // suits that are worn are no matter
        due(y.told(9), 0);
    }

    private static void getsEdges() {
        SkyTailor x = shopOf("client 0;client 0;wants 0 0 11 sun 2;wants 1 0 11 fog 2;");
        pattern(x, 0, "12 sun;");
        pattern(x, 5, "12 fog;");
        pattern(x, 3, "6 sun;6 fog;");
        due(x.gets(0, 5), 2);
        due(x.gets(5, 0), 2);
        due(x.gets(0, 3), 4);
        due(x.gets(3, 0), 0);
        due(x.gets(3, 3), 2);
        for (int pattern : new int[] {1, 2, 4}) {
            noState(() -> x.gets(pattern, 0));
            noState(() -> x.gets(0, pattern));
            noState(() -> x.gets(pattern, pattern));
        }
        due(x.status(2), 9);
    }

    private static void aheadEdges() {
        SkyTailor x = shopOf("bolt sun 60;client 0;client 0;wants 0 0 11 sun 9;");
        pattern(x, 0, "12 sun;");
        law(x, "day - 59");
        work(x, "cut 0 0;");
        due(x.ahead(0, 0, 0), 0);
        due(x.ahead(0, 0, 1), 9);
        due(x.ahead(0, 59, 0), 0);
        due(x.ahead(0, 60, 0), 12);
        due(x.ahead(0, 60, 1), 0);
        due(x.ahead(0, 59, 1), 9);
        // without a suit 0
        due(x.ahead(1, 0, 0), 0);
        due(x.ahead(1, 60, 1), 0);
        // to day 60 at most: moths come no more behind it
        work(x, "again 20[day;];again 20[day;];again 19[day;];");
        due(x.told(4), 59);
        due(x.ahead(0, 0, 0), 0);
        due(x.ahead(0, 1, 0), 12);
        law(x, "(age - 59) * (hour - 10)");
        due(x.ahead(0, 1, 0), 1);
        due(x.ahead(0, 2, 0), 1);
        due(x.ahead(0, 60, 0), 1);
        due(x.ahead(0, 60, 1), -1);
        work(x, "day;");
        due(x.told(4), 60);
        due(x.client(0, 3), 1);
        law(x, "1");
        due(x.ahead(0, 0, 0), 1);
        due(x.ahead(0, 60, 0), 1);
        due(x.told(4), 60);
        due(x.client(0, 3), 1);
    }

    /** The numbers that are drawn: bits 16 to 30 of the seed, behind each step of it. */
    private static int[] drawn(int seed, int many) {
        int[] draws = new int[many];
        java.math.BigInteger whole = java.math.BigInteger.valueOf(seed);
        for (int i = 0; i < many; i++) {
            whole = whole.multiply(java.math.BigInteger.valueOf(1103515245)).add(java.math.BigInteger.valueOf(12345));
            whole = java.math.BigInteger.valueOf(whole.intValue());
            for (int bit = 30; bit >= 16; bit--) {
                draws[i] = 2 * draws[i] + (whole.testBit(bit) ? 1 : 0);
            }
        }
        return draws;
    }

    private static final int[] SEEDS = {0, 1, -1, 2, 16, 12345, 65535, 65536, 1 << 30, 1 << 31, Integer.MAX_VALUE, -12345, 99, 98, 97};

    private static void yearsEdges() {
        SkyTailor x = shopOf("bolt sun 1;bolt rain 60;bolt fog 2;");
        for (int seed : SEEDS) {
            int[] draws = drawn(seed, 2);
            // the first day, for each Q about its draw
            int by = draws[0] % 16;
            int bolt = draws[1] % 3;
            due(x.years(seed, by, 1, 0), 63);
            due(x.years(seed, by + 1, 1, 0), 62);
            due(x.years(seed, by, 1, 2), 0);
            due(x.years(seed, by + 1, 1, 2), bolt == 0 ? 1 : 0);
            // Q 0: never, Q 16: each day
            due(x.years(seed, 0, 60, 0), 63);
            int[] left = {1, 60, 2};
            int[] all = drawn(seed, 120);
            for (int day = 0; day < 60; day++) {
                int one = all[2 * day + 1] % 3;
                left[one] = Math.max(0, left[one] - 1);
                if (day == 0 || day == 9 || day == 59) {
                    due(x.years(seed, 16, day + 1, 0), left[0] + left[1] + left[2]);
                    due(x.years(seed, 16, day + 1, 2), (left[0] == 0 ? 1 : 0) + (left[1] == 0 ? 1 : 0) + (left[2] == 0 ? 1 : 0));
                }
            }
        }
        due(x.told(6), 63);
        // one bolt: it has 0 at least
        SkyTailor y = shopOf("bolt sun 59;client 0;client 0;");
        due(y.years(7, 16, 58, 0), 1);
        due(y.years(7, 16, 58, 2), 0);
        due(y.years(7, 16, 59, 0), 0);
        due(y.years(7, 16, 59, 2), 1);
        due(y.years(7, 16, 60, 0), 0);
        due(y.years(7, 16, 60, 2), 1);
        SkyTailor z = shopOf("bolt sun 60;bolt sun 60;client 0;client 0;");
        pattern(z, 0, "12 sun;");
        law(z, "(hour - 11) + client * (day - 1)");
        work(z, "cut 0 0;cut 1 0;");
        due(z.years(1, 0, 1, 1), 0);
        due(z.years(1, 16, 2, 1), 1);
        due(z.years(1, 16, 12, 1), 11);
        due(z.years(1, 16, 60, 1), 12);
        due(z.client(1, 3), 0);
        due(z.told(4), 0);
        // without bolts
        SkyTailor w = shopOf("client 0;");
        for (int what = 0; what < 3; what++) {
            due(w.years(3, 16, 60, what), 0);
        }
    }

    private static void spanEdges() {
        SkyTailor x = shopOf("bolt sun 13;bolt fog 60;client 0;order 0 0 1 1 1;order 0 5 1 1 1;");
        pattern(x, 0, "12 sun;");
        // seed, seed and 1, .. up to 20 of them; they wrap
        for (int seed : new int[] {0, -1, -10, 4000, Integer.MAX_VALUE, Integer.MAX_VALUE - 5, Integer.MIN_VALUE}) {
            for (int many : new int[] {1, 2, 20}) {
                int fewest = 999;
                int most = 0;
                int cuts = 0;
                for (int i = 0; i < many; i++) {
                    int hours = x.years(seed + i, 8, 3, 0);
                    fewest = Math.min(fewest, hours);
                    most = Math.max(most, hours);
                    int sun = 13;
                    int[] draws = drawn(seed + i, 6);
                    for (int day = 0, next = 0; day < 3; day++) {
                        if (draws[next++] % 16 < 8 && draws[next++] % 2 == 0) {
                            sun--;
                        }
                    }
                    cuts += sun >= 12 ? 1 : 0;
                }
                due(x.span(seed, many, 8, 3, 0, 0), fewest);
                due(x.span(seed, many, 8, 3, 1, 0), most);
                due(x.span(seed, many, 8, 3, 2, 0), cuts);
            }
        }
        // a pattern that is not told can't be cut; hours are told all the same
        due(x.span(1, 20, 0, 60, 2, 1), 0);
        due(x.span(1, 20, 0, 60, 0, 1), 73);
        due(x.span(1, 20, 0, 60, 1, 1), 73);
        due(x.span(1, 20, 0, 60, 2, 0), 20);
        due(x.span(1, 20, 16, 60, 2, 0), 0);
        due(x.told(6), 73);
        // none left at all; no bolts
        SkyTailor z = shopOf("bolt sun 1;bolt fog 1;client 0;order 0 0 1 1 1;");
        SkyTailor w = shopOf("client 0;order 0 0 1 1 1;");
        pattern(z, 0, "12 sun;");
        for (int what = 0; what < 3; what++) {
            due(z.span(5, 20, 16, 60, what, 0), 0);
            due(w.span(5, 20, 16, 60, what, 0), 0);
        }
        // no such order, without any; also for the hours
        SkyTailor y = shopOf("bolt sun 13;client 0;");
        for (int what = 0; what < 3; what++) {
            int one = what;
            noArgument(() -> y.span(1, 1, 0, 1, one, 0));
        }
        due(y.status(1), 3);
    }

    /** Asked, nothing stays changed: not by a year of moths, not by cloth that was tried, not by any row that is made. */
    private static void nothingChanges() {
        SkyTailor x = shopOf("bolt sun 30;bolt rain 20;client 1;client 1;wants 0 0 3 sun 5;wants 0 2 6 rain 2;"
            + "order 0 0 9 7 3;order 1 0 9 8 4;");
        pattern(x, 0, "6 sun;6 rain;");
        pattern(x, 4, "4 rain;8 sun;");
        law(x, "hour - 10");
        book(x, "0 sun;1 sun;");
        work(x, "cut 0 4;day;turn 1;");
        x.image();
        tell(x, "day;");
        String before = state(x);
        x.can(1, 4);
        x.ready(0);
        x.best(0);
        x.bestAt(1, 3);
        x.mend(0, 1);
        x.pieces(3);
        x.sewn(3, 1);
        x.words(1);
        x.offers(8, 0);
        x.look(0);
        x.tailors(2);
        x.gets(0, 4);
        x.ahead(0, 60, 0);
        x.years(1, 16, 60, 0);
        x.years(1, 16, 60, 1);
        x.span(1, 20, 16, 60, 2, 0);
        due(state(x), before);
        due(x.count(1), 20);
        due(x.fault(), -1);
        due(x.best(0), 5);
        due(x.undo(), 0);
        due(x.restore(), 0);
        due(state(x), before.replace("images 1", "images 0").replaceFirst("^((\\d+ ){8})1 ", "$10 "));
    }
}
