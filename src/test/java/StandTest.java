/** Promises 6 and 9 to 19, as far as they tell how the shop stands: bolts, clients, wants, orders, suits. */
public final class StandTest extends Checks {
    private static final String SHOP = "bolt sun 12;bolt sun 5;bolt rain 7;bolt rain 7;bolt fog 3;client 2;client 2;client 4;"
        + "wants 0 0 3 sun 5;wants 0 2 5 rain 4;wants 1 0 11 rain 9;wants 0 8 9 sun 2;"
        + "order 0 0 3 50 10;order 1 1 5 30 9;order 2 2 60 999 24;seam 2;hands 6;";

    public static void main(String[] args) {
        told();
        cut();
        alter();
        turnAndStrip();
        sell();
        day();
        undo();
        cloth();
        canAndReady();
        end();
    }

    private static SkyTailor shop() {
        SkyTailor x = shopOf(SHOP);
        pattern(x, 0, "6 sun;6 rain;");
        pattern(x, 1, "again 3 [2 sun;2 rain;];");
        pattern(x, 2, "12 fog;");
        return x;
    }

    private static void told() {
        SkyTailor x = shop();
        int[] due = {5, 3, 4, 3, 0, 0, 34, 0, 0, 0};
        for (int what = 0; what < 10; what++) {
            due(x.told(what), due[what]);
        }
        noArgument(() -> x.told(-1));
        noArgument(() -> x.told(10));
        due(x.bolt(1, 0), 0);
        due(x.bolt(1, 1), 5);
        due(x.bolt(4, 0), 5);
        noElement(() -> x.bolt(5, 0));
        noElement(() -> x.bolt(-1, 7));
        noArgument(() -> x.bolt(0, 2));
        noArgument(() -> x.bolt(0, -1));
        due(x.client(2, 0), 4);
        due(x.client(0, 6), 11);
        due(x.client(1, 6), 4);
        due(x.client(2, 6), 0);
        for (int what = 1; what < 6; what++) {
            due(x.client(0, what), 0);
        }
        noElement(() -> x.client(3, 0));
        noElement(() -> x.client(-1, 9));
        noArgument(() -> x.client(0, 7));
        noArgument(() -> x.client(0, -1));
        int[] want = {0, 2, 5, 1, 4, 0};
        int[] order = {1, 1, 5, 30, 9, 0};
        for (int what = 0; what < 6; what++) {
            due(x.want(1, what), want[what]);
            due(x.order(1, what), order[what]);
        }
        noElement(() -> x.want(4, 0));
        noElement(() -> x.want(-1, 6));
        noArgument(() -> x.want(0, 6));
        noArgument(() -> x.want(0, -1));
        noElement(() -> x.order(3, 0));
        noElement(() -> x.order(-1, 6));
        noArgument(() -> x.order(0, 6));
        noArgument(() -> x.order(0, -1));
        noElement(() -> x.wears(3, 0));
        noElement(() -> x.wears(-1, 12));
        noArgument(() -> x.wears(0, 12));
        noArgument(() -> x.wears(0, -1));
        due(x.wears(0, 0), -1);
        due(x.sky(0, 5), 0);
        due(x.sky(0, 6), 1);
        due(x.sky(5, 0), -1);
        noElement(() -> x.sky(6, 12));
        noElement(() -> x.sky(-1, 0));
        noArgument(() -> x.sky(5, 12));
        noArgument(() -> x.sky(0, -1));
    }

    private static void bolts(SkyTailor x, int... left) {
        for (int bolt = 0; bolt < left.length; bolt++) {
            due(x.bolt(bolt, 1), left[bolt]);
        }
    }

    private static void cut() {
        SkyTailor x = shop();
        // the least that is enough, of these the first
        due(work(x, "cut 0 0;"), 1);
        bolts(x, 6, 5, 1, 7, 3);
        due(work(x, "cut 1 1;"), 1);
        bolts(x, 4, 1, 1, 1, 3);
        due(x.told(6), 10);
        due(x.told(9), 2);
        due(suit(x, 0), "000000111111");
        due(suit(x, 1), "001100110011");
        due(suit(x, 2), "............");
        due(x.client(0, 1), 1);
        due(x.client(0, 4), 1);
        due(x.client(0, 5), 2);
        due(x.client(1, 4), 5);
        due(x.client(1, 5), 6);
        due(x.client(2, 1), 0);
        due(x.want(0, 5), 1);
        due(x.want(1, 5), 0);
        due(x.want(2, 5), 0);
        // one that has a suit, a pattern that is not told, a run without a bolt: all other bolts stay
        due(work(x, "cut 0 1;cut 2 3;cut 2 2;cut 2 0;cut 2 1;"), 0);
        due(x.told(8), 5);
        bolts(x, 4, 1, 1, 1, 3);
        due(x.told(9), 2);
        // each run in one piece: two bolts of 5 and 7 make no run of 12
        SkyTailor y = shopOf("bolt sun 5;bolt sun 7;client 0;");
        pattern(y, 0, "12 sun;");
        pattern(y, 1, "6 sun;1 rain;5 sun;");
        due(work(y, "cut 0 0;"), 0);
        due(y.can(0, 1), false);
        bolts(y, 5, 7);
    }

    private static void alter() {
        SkyTailor x = shop();
        due(work(x, "alter 0 0 fog;cut 0 0;"), 1);
        due(x.told(8), 1);
        // the bolts are 6 5 1 7 3: an hour of rain comes off the one with 1
        due(work(x, "alter 0 5 rain;alter 0 0 sun;alter 0 11 fog;alter 0 0 rain;alter 0 1 wind;"), 3);
        due(suit(x, 0), "100001111115");
        bolts(x, 6, 5, 0, 6, 2);
        due(work(x, "alter 0 0 fog;alter 0 1 fog;alter 0 2 fog;"), 2);
        bolts(x, 6, 5, 0, 6, 0);
        due(suit(x, 0), "550001111115");
        due(x.client(0, 4), 3);
        due(x.client(0, 5), 4);
    }

    private static void turnAndStrip() {
        SkyTailor x = shop();
        due(work(x, "turn 0;strip 0;cut 0 0;alter 0 1 fog;turn 0;"), 3);
        due(suit(x, 0), "111111000050");
        due(x.told(8), 2);
        due(work(x, "strip 0;strip 0;turn 0;"), 1);
        due(x.told(9), 0);
        // its cloth is gone
        due(x.told(6), 21);
    }

    private static void sell() {
        SkyTailor x = shop();
        due(work(x, "sell 0;cut 0 0;turn 0;sell 0;turn 0;sell 0;sell 0;"), 4);
        due(x.told(5), 50);
        due(x.told(9), 0);
        due(x.order(0, 5), 1);
        due(x.order(1, 5), 0);
        // day 3 is in time for order 0, day 4 is too late
        SkyTailor y = shop();
        work(y, "cut 0 0;day;day;day;");
        due(y.ready(0), true);
        due(y.order(0, 5), 0);
        due(work(y, "day;sell 0;"), 1);
        due(y.order(0, 5), 2);
        due(y.told(5), 0);
        y.undo();
        due(work(y, "sell 0;day;"), 2);
        due(y.order(0, 5), 1);
        // a pattern that is told anew is what is compared; bare hours are like none
        SkyTailor z = shop();
        work(z, "cut 0 0;");
        pattern(z, 0, "6 rain;6 sun;");
        due(work(z, "sell 0;turn 0;"), 1);
        due(z.ready(0), true);
        law(z, "hour - 10");
        due(work(z, "day;sell 0;"), 1);
        due(z.ready(0), false);
    }

    private static void day() {
        SkyTailor x = shop();
        law(x, "(age - 2) * (hour - 10)");
        due(work(x, "cut 0 0;day;day;cut 1 1;day;day;"), 6);
        due(x.told(4), 4);
        due(x.client(0, 2), 4);
        due(x.client(1, 2), 2);
        // on day 1, when the age was 1, the hours ahead of 10; on day 3 the one behind it
        due(suit(x, 0), "..........1.");
        due(suit(x, 1), "..........11");
        due(suit(shopOnDayOne(), 0), "..........11");
        due(work(x, "again 20 [day;];again 20 [day;];again 20 [day;];"), 56);
        due(x.told(4), 60);
        due(x.told(8), 4);
        due(work(x, "day;"), 0);
        due(x.client(0, 2), 60);
    }

    private static SkyTailor shopOnDayOne() {
        SkyTailor x = shop();
        law(x, "(age - 2) * (hour - 10)");
        work(x, "cut 0 0;day;");
        return x;
    }

    private static void undo() {
        SkyTailor x = shop();
        due(x.undo(), -1);
        work(x, "cut 0 0;");
        work(x, "sell 0;day;turn 0;");
        work(x, "");
        work(x, "turn 0;");
        due(x.told(8), 1);
        due(x.undo(), 3);
        due(x.told(8), 0);
        due(x.undo(), 2);
        due(x.told(5), 50);
        due(x.undo(), 1);
        due(x.told(4), 0);
        due(x.told(5), 0);
        due(x.order(0, 5), 0);
        due(suit(x, 0), "000000111111");
        due(x.undo(), 0);
        due(x.told(6), 34);
        due(x.told(9), 0);
        work(x, "turn 0;");
        x.undo();
        due(x.undo(), -1);
        // a -1 leaves what was refused
        work(x, "turn 0;");
        work(x, "x");
        due(x.told(8), 1);
        due(x.restore(), -1);
        due(x.told(8), 1);
    }

    private static void cloth() {
        SkyTailor x = shop();
        due(x.cloth(0, 0), 17);
        due(x.cloth(1, 0), 14);
        due(x.cloth(2, 0), 0);
        due(x.cloth(0, 1), 0);
        due(x.cloth(0, 2), 12);
        due(x.cloth(5, 2), 12);
        work(x, "cut 0 0;cut 1 1;");
        due(x.cloth(0, 1), 12);
        due(x.cloth(1, 1), 12);
        due(x.cloth(0, 0), 5);
        work(x, "sell 0;");
        due(x.cloth(0, 2), 6);
        due(x.cloth(0, 1), 6);
        work(x, "again 6 [day;];");
        due(x.cloth(0, 2), 0);
        due(x.cloth(5, 2), 12);
        SkyTailor y = shopOf("client 0;order 0 4 9 9 9;");
        due(y.cloth(0, 2), 0);
        noArgument(() -> y.cloth(6, 0));
        noArgument(() -> y.cloth(-1, 0));
        noArgument(() -> y.cloth(0, 3));
        noArgument(() -> y.cloth(0, -1));
    }

    private static void canAndReady() {
        SkyTailor x = shop();
        due(x.can(0, 0), true);
        due(x.can(0, 1), true);
        due(x.can(0, 2), false);
        due(x.can(0, 3), false);
        noElement(() -> x.can(3, 0) ? 1 : 0);
        noElement(() -> x.can(-1, 0) ? 1 : 0);
        noElement(() -> x.can(0, 6) ? 1 : 0);
        noElement(() -> x.can(0, -1) ? 1 : 0);
        due(x.ready(0), false);
        bolts(x, 12, 5, 7, 7, 3);
        work(x, "cut 0 0;");
        due(x.can(0, 1), false);
        due(x.can(1, 1), true);
        due(x.ready(0), true);
        due(x.ready(1), false);
        noElement(() -> x.ready(3) ? 1 : 0);
        noElement(() -> x.ready(-1) ? 1 : 0);
        bolts(x, 6, 5, 1, 7, 3);
        work(x, "sell 0;");
        due(x.ready(0), false);
    }
}
