/** Promises 3, 6 and 17 to 37: what a larger shop left behind, or what stands beside a row, never shows in an answer. */
public final class LeftoversTest extends Checks {
    private static final String BIG = "client 3;".repeat(6) + "bolt sun 60;".repeat(9) + "bolt rain 60;"
        + "wants 0 0 11 sun 9;".repeat(12) + "wants 0 0 0 rain 9;" + "order 0 0 60 999 1;".repeat(8);
    private static final String SMALL = "client 3;client 3;bolt rain 12;";

    public static void main(String[] args) {
        smallerShop();
        boltsBehindTheLast();
        shopWithFault();
        wordsOfClients();
        bareOfClients();
        emptyBolts();
        turnBesideOthers();
        fullShop();
        piecesByKinds();
        firstLetters();
        end();
    }

    private static SkyTailor afterBig(String later) {
        SkyTailor x = shopOf(BIG);
        pattern(x, 0, "12 sun;");
        due(work(x, "cut 0 0;cut 1 0;cut 2 0;cut 5 0;day;"), 5);
        due(shop(x, later), x.told(1));
        return x;
    }

    private static void smallerShop() {
        SkyTailor x = afterBig(SMALL);
        due(x.told(0), 1);
        due(x.told(1), 2);
        due(x.told(2), 0);
        due(x.told(3), 0);
        due(x.told(6), 12);
        due(x.told(9), 0);
        noElement(() -> x.bolt(1, 0));
        noElement(() -> x.client(2, 0));
        noElement(() -> x.want(0, 0));
        noElement(() -> x.order(0, 0));
        due(x.client(0, 6), 0);
        due(x.best(0), 0);
        due(bestRow(x, 0), "000000000000");
        due(x.clashes(0), 0);
        due(x.words(3), 0);
        pattern(x, 0, "12 rain;");
        due(x.tries(0, 0), 0);
        due(x.gets(0, 0), 2);
        due(x.sewn(0, 0), 0);
        noArgument(() -> x.sewn(1, 0));
        noArgument(() -> x.pieces(1));
        for (int kind = 0; kind < 6; kind++) {
            due(x.cloth(kind, 0), kind == 1 ? 12 : 0);
            due(x.cloth(kind, 1), 0);
            due(x.cloth(kind, 2), 0);
        }
    }

    /** Bolt 0 of the small shop is of another kind than bolt 1 of the big one was. */
    private static void boltsBehindTheLast() {
        SkyTailor x = afterBig(SMALL);
        pattern(x, 0, "12 sun;");
        pattern(x, 1, "12 rain;");
        due(x.can(0, 0), false);
        due(work(x, "cut 0 0;cut 0 1;alter 0 0 sun;"), 1);
        due(x.told(6), 0);
        due(x.told(8), 2);
        due(x.years(0, 0, 1, 2), 1);
    }

    /** Of a shop with a fault nothing comes into the next one. */
    private static void shopWithFault() {
        SkyTailor x = new SkyTailor();
        due(shop(x, BIG + "bolt"), -7);
        due(shop(x, "client 3;bolt rain 12;wants 0 0 0 fog 1;order 0 0 1 5 1;"), 1);
        due(x.told(0), 1);
        due(x.told(6), 12);
        due(x.best(0), 1);
        due(bestRow(x, 0), "555555555555");
        due(x.sewn(1, 0), 5);
        due(shop(x, SMALL), 2);
        due(x.best(0), 0);
        due(x.can(0, 0), false);
    }

    /** Clients of two streets, and one client where six were of his street: no two wear anything unlike. */
    private static void wordsOfClients() {
        SkyTailor x = shopOf("client 0;client 4;bolt sun 12;bolt fog 12;");
        pattern(x, 0, "12 sun;");
        pattern(x, 1, "12 fog;");
        due(work(x, "cut 0 0;cut 1 1;"), 2);
        due(x.words(0), 0);
        due(x.words(4), 0);
        SkyTailor y = afterBig("client 3;bolt sun 12;");
        pattern(y, 0, "12 sun;");
        due(work(y, "cut 0 0;"), 1);
        due(y.words(3), 0);
        due(y.cloth(0, 1), 12);
        due(y.cloth(1, 1), 0);
    }

    /** Six hours on a bolt are not bare, though a bare hour is told by a 6 in a law. */
    private static void bareOfClients() {
        SkyTailor x = shopOf("bolt sun 6;".repeat(10) + "client 0;client 1;");
        due(x.years(1, 0, 1, 1), 0);
        due(x.years(1, 0, 6, 1), 0);
        SkyTailor y = afterBig("bolt sun 6;bolt sun 18;client 0;");
        pattern(y, 0, "12 sun;");
        law(y, "hour-9");
        due(work(y, "cut 0 0;"), 1);
        due(y.bolt(1, 1), 6);
        due(y.years(1, 0, 1, 1), 2);
    }

    /** A suit that was cut on day 0 by the last client is no empty bolt. */
    private static void emptyBolts() {
        SkyTailor x = shopOf("client 0;".repeat(6) + "bolt sun 60;bolt sun 12;");
        pattern(x, 0, "12 sun;");
        due(x.years(1, 0, 1, 2), 0);
        due(work(x, "cut 5 0;"), 1);
        due(x.years(1, 0, 1, 2), 1);
        due(work(x, "cut 0 0;cut 4 0;"), 2);
        due(x.years(1, 0, 1, 2), 1);
    }

    private static void turnBesideOthers() {
        SkyTailor x = shopOf("client 0;".repeat(6) + "bolt sun 60;".repeat(3) + "bolt fog 60;".repeat(6) + "bolt fog 7;");
        pattern(x, 0, "1 sun;11 fog;");
        due(work(x, "cut 0 0;cut 1 0;cut 2 0;cut 3 0;cut 4 0;cut 5 0;"), 6);
        int last = x.bolt(9, 1);
        for (int client = 0; client < 6; client++) {
            due(work(x, "turn " + client + ";"), 1);
            for (int other = 0; other < 6; other++) {
                due(suit(x, other), other <= client ? "555555555550" : "055555555555");
            }
            due(x.bolt(9, 1), last);
        }
    }

    /** With as many clients and bolts as there can be, no suit stands behind the last one, and no bolt. */
    private static void fullShop() {
        SkyTailor x = shopOf("client 0;".repeat(6) + "bolt fog 60;".repeat(10));
        pattern(x, 0, "12 fog;");
        due(work(x, "cut 0 0;"), 1);
        due(x.words(0), 0);
        due(x.cloth(0, 0), 0);
        due(x.cloth(0, 1), 0);
        due(x.cloth(5, 0), 588);
        due(x.cloth(5, 1), 12);
        due(work(x, "alter 0 1 sun;alter 0 11 sun;"), 0);
        due(x.told(8), 2);
        due(suit(x, 0), "555555555555");
        due(work(x, "cut 1 0;cut 2 0;cut 3 0;cut 4 0;cut 5 0;"), 5);
        due(x.words(0), 0);
        due(x.cloth(0, 1), 0);
        due(x.cloth(5, 1), 72);
    }

    /** Bolts of one kind are none of the next, though that has fewer and smaller ones. */
    private static void piecesByKinds() {
        SkyTailor x = shopOf("client 0;bolt sun 60;bolt sun 60;bolt sun 60;bolt rain 5;order 0 0 1 1 1;order 0 1 1 1 1;order 0 2 1 1 1;");
        pattern(x, 0, "6 sun;6 rain;");
        pattern(x, 1, "7 sun;5 rain;");
        pattern(x, 2, "3 rain;6 sun;3 rain;");
        due(x.pieces(1), -1);
        due(x.pieces(2), 2);
        due(x.pieces(4), -1);
        due(x.pieces(6), -1);
        SkyTailor y = shopOf("client 0;bolt sun 5;bolt rain 60;bolt rain 60;order 0 0 1 1 1;");
        pattern(y, 0, "6 sun;6 rain;");
        due(y.pieces(1), -1);
        due(shop(y, "client 0;bolt sun 5;bolt rain 60;order 0 0 1 1 1;"), 1);
        pattern(y, 0, "6 rain;6 sun;");
        due(y.pieces(1), -1);
    }

    /** A word with another letter ahead stands for nothing, though all behind that letter is so. */
    private static void firstLetters() {
        SkyTailor x = shopOf(SMALL + "order 0 0 1 0 1;");
        for (String text : new String[] {"colt sun 1;", "plient 1;", "sants 0 0 0 sun 1;", "border 0 0 1 0 1;", "beam 1;", "bands 1;"}) {
            due(shop(x, text), -9);
            due(x.fault(), 0);
        }
        for (String kind : new String[] {"fun", "pain", "prey", "kind", "grost", "dog"}) {
            due(shop(x, "bolt " + kind + " 1;"), -9);
            due(x.fault(), 5);
            due(pattern(x, 0, "12 " + kind + ";"), -9);
            due(x.fault(), 3);
            due(book(x, "0 " + kind + ";"), -9);
            due(x.fault(), 2);
            due(work(x, "alter 0 0 " + kind + ";"), -9);
            due(x.fault(), 10);
        }
        for (String text : new String[] {"put 0 0;", "blter 0 0 sun;", "burn 0;", "ttrip 0;", "bell 0;", "pay;", "bgain 1[];"}) {
            due(work(x, text), -9);
            due(x.fault(), 0);
        }
        for (String text : new String[] {"sour", "mind", "ege", "bay", "slient", "teams", "beast[1,1]", "host[1,1]"}) {
            due(law(x, text), -9);
            due(x.fault(), 0);
        }
        due(pattern(x, 0, "bgain 12[1 sun;];"), -9);
        due(x.fault(), 0);
    }
}
