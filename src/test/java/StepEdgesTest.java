/** The edges of section 2 and of promises 6 and 9 to 19: cloth that is just enough, days, steps, the law, undoing. */
public final class StepEdgesTest extends Checks {
    private static final String ALL_DAYS = "again 20[day;];again 20[day;];again 20[day;];";

    public static void main(String[] args) {
        atFirst();
        cutEdges();
        alterEdges();
        turnEdges();
        stripEdges();
        sellEdges();
        dayEdges();
        lawEdges();
        lawWraps();
        seamsAndRuns();
        stepsBegun();
        refusedCount();
        undoEdges();
        ordersByDay();
        clothEdges();
        canEdges();
        readyEdges();
        end();
    }

    private static void atFirst() {
        SkyTailor x = shopOf("bolt sun 60;client 0;client 9;order 0 0 1 999 24;wants 0 0 11 sun 9;");
        due(x.told(4), 0);
        due(x.told(5), 0);
        due(x.told(8), 0);
        due(x.told(9), 0);
        due(x.order(0, 5), 0);
        due(x.want(0, 5), 0);
        due(x.count(2), 0);
        for (int client = 0; client < 2; client++) {
            due(x.client(client, 1), 0);
            due(x.fit(client), 0);
            due(suit(x, client), "............");
        }
    }

    private static void left(SkyTailor x, int... hours) {
        for (int bolt = 0; bolt < hours.length; bolt++) {
            due(x.bolt(bolt, 1), hours[bolt]);
        }
    }

    /** A shop with these bolts, whose client 0 is cut pattern 0. */
    private static SkyTailor cutOff(String bolts, String pattern, int done) {
        SkyTailor x = shopOf(bolts + "client 0;client 0;");
        pattern(x, 0, pattern);
        due(x.can(0, 0), done == 1);
        due(work(x, "cut 0 0;"), done);
        due(x.told(8), 1 - done);
        due(x.client(0, 1), done);
        return x;
    }

    private static void cutEdges() {
        // just enough, one hour less, one more
        left(cutOff("bolt sun 12;", "12 sun;", 1), 0);
        left(cutOff("bolt sun 11;", "12 sun;", 0), 11);
        left(cutOff("bolt sun 13;", "12 sun;", 1), 1);
        left(cutOff("bolt sun 60;", "12 sun;", 1), 48);
        left(cutOff("", "12 sun;", 0));
        left(cutOff("bolt rain 60;", "12 sun;", 0), 60);
        // each run in one piece, though there is cloth enough
        left(cutOff("bolt sun 11;bolt sun 11;bolt sun 1;", "12 sun;", 0), 11, 11, 1);
        // parts that stand beside one another are one run
        left(cutOff("bolt sun 6;bolt sun 6;", "6 sun;6 sun;", 0), 6, 6);
        left(cutOff("bolt sun 6;bolt sun 6;", "again 2[6 sun;];", 0), 6, 6);
        left(cutOff("bolt sun 6;bolt sun 5;bolt fog 1;", "6 sun;1 fog;5 sun;", 1), 0, 0, 0);
        // the least that is enough, wherever it stands; of alike ones the first
        left(cutOff("bolt sun 20;bolt sun 12;bolt sun 13;", "12 sun;", 1), 20, 0, 13);
        left(cutOff("bolt sun 11;bolt sun 20;bolt sun 13;", "12 sun;", 1), 11, 20, 1);
        left(cutOff("bolt sun 13;bolt sun 12;bolt sun 12;", "12 sun;", 1), 13, 0, 12);
        left(cutOff("bolt rain 12;bolt sun 14;bolt sun 14;", "12 sun;", 1), 12, 2, 14);
        // runs from hour 0 on, each off what the ones ahead left: 4 off the 5, then 5 off the 6; turned, 5 off the 5
        left(cutOff("bolt sun 5;bolt sun 6;bolt fog 3;", "4 sun;3 fog;5 sun;", 1), 1, 1, 0);
        left(cutOff("bolt sun 5;bolt sun 6;bolt fog 3;", "5 sun;3 fog;4 sun;", 1), 0, 2, 0);
        // so that runs may be refused that in another order could be cut: 3 off the 4, 3 off the 6, no 4 is left
        left(cutOff("bolt sun 6;bolt sun 4;bolt rain 2;", "3 sun;1 rain;3 sun;1 rain;4 sun;", 0), 6, 4, 2);
        left(cutOff("bolt sun 6;bolt sun 4;bolt rain 2;", "4 sun;1 rain;3 sun;1 rain;3 sun;", 1), 0, 0, 0);
        left(cutOff("bolt sun 5;bolt sun 5;bolt fog 3;", "1 sun;1 fog;5 sun;1 fog;4 sun;", 1), 0, 0, 1);
        // only the last run has no cloth: what the others would have taken stays
        left(cutOff("bolt sun 9;bolt rain 9;bolt fog 3;", "4 sun;4 rain;4 fog;", 0), 9, 9, 3);
        left(cutOff("bolt sun 9;bolt rain 9;bolt fog 4;", "4 sun;4 rain;4 fog;", 1), 5, 5, 0);
        left(cutOff("bolt sun 60;bolt fog 6;", "again 6[1 fog;1 sun;];", 1), 54, 0);
        left(cutOff("bolt sun 60;bolt fog 5;", "again 6[1 fog;1 sun;];", 0), 60, 5);
        // one who has a suit, though it is all bare; one who had one
        SkyTailor x = cutOff("bolt sun 60;", "12 sun;", 1);
        law(x, "1");
        due(work(x, "day;cut 0 0;"), 1);
        due(suit(x, 0), "............");
        due(x.client(0, 1), 1);
        due(x.can(0, 0), false);
        left(x, 48);
        due(work(x, "strip 0;cut 0 0;"), 2);
        left(x, 36);
        // patterns that are not told, the first and the last that can be
        due(work(x, "cut 1 1;cut 1 5;"), 0);
        due(x.told(8), 2);
        pattern(x, 5, "12 sun;");
        due(work(x, "cut 1 5;"), 1);
        left(x, 24);
    }

    private static void alterEdges() {
        SkyTailor x = cutOff("bolt sun 12;bolt rain 2;bolt rain 1;bolt rain 1;", "12 sun;", 1);
        // the first and the last hour; the least that is enough, of these the first; an empty one is none
        due(work(x, "alter 0 0 rain;"), 1);
        left(x, 0, 2, 0, 1);
        due(work(x, "alter 0 11 rain;"), 1);
        left(x, 0, 2, 0, 0);
        due(suit(x, 0), "100000000001");
        // it is so: no cloth is taken
        due(work(x, "alter 0 0 rain;alter 0 5 sun;"), 0);
        due(x.told(8), 2);
        left(x, 0, 2, 0, 0);
        due(work(x, "alter 0 5 rain;alter 0 6 rain;alter 0 7 rain;"), 2);
        left(x, 0, 0, 0, 0);
        due(suit(x, 0), "100001100001");
        // without cloth, of a kind that has no bolt, without a suit
        due(work(x, "alter 0 0 sun;alter 0 1 fog;alter 1 0 rain;alter 1 0 sun;"), 0);
        due(x.told(8), 4);
        due(suit(x, 0), "100001100001");
        due(x.client(1, 1), 0);
        // a bare hour becomes one of a kind again; what it was does not come back
        SkyTailor y = cutOff("bolt sun 13;", "12 sun;", 1);
        law(y, "hour - 10");
        due(work(y, "day;alter 0 11 sun;"), 2);
        due(suit(y, 0), "000000000000");
        left(y, 0);
        due(work(y, "day;alter 0 11 sun;"), 1);
        due(suit(y, 0), "00000000000.");
        due(y.told(8), 1);
        due(y.client(0, 2), 2);
    }

    private static void turnEdges() {
        SkyTailor x = cutOff("bolt sun 60;bolt fog 60;", "5 sun;7 fog;", 1);
        due(work(x, "turn 0;"), 1);
        due(suit(x, 0), "555555500000");
        left(x, 55, 53);
        due(work(x, "turn 0;turn 1;"), 1);
        due(suit(x, 0), "000005555555");
        law(x, "1 - hour");
        due(work(x, "day;turn 0;"), 2);
        due(suit(x, 0), "55555550000.");
        due(x.client(0, 2), 1);
        due(x.client(0, 3), 1);
        // one that is alike both ways is turned, too
        SkyTailor y = cutOff("bolt sun 60;bolt fog 60;", "1 sun;10 fog;1 sun;", 1);
        due(work(y, "turn 0;"), 1);
        due(y.told(8), 0);
        due(suit(y, 0), "055555555550");
    }

    private static void stripEdges() {
        SkyTailor x = cutOff("bolt sun 24;", "12 sun;", 1);
        due(work(x, "day;strip 1;"), 1);
        due(x.client(0, 2), 1);
        due(work(x, "strip 0;"), 1);
        for (int what = 1; what < 6; what++) {
            due(x.client(0, what), 0);
        }
        due(suit(x, 0), "............");
        due(x.told(9), 0);
        left(x, 12);
        due(work(x, "strip 0;alter 0 0 sun;turn 0;"), 0);
        due(x.told(8), 3);
        due(work(x, "day;cut 0 0;day;"), 3);
        // cut anew on day 2
        due(x.client(0, 2), 1);
        left(x, 0);
    }

    private static SkyTailor seller(String orders) {
        SkyTailor x = shopOf("bolt sun 60;bolt fog 60;client 0;client 0;" + orders);
        pattern(x, 0, "6 sun;6 fog;");
        pattern(x, 1, "12 sun;");
        return x;
    }

    private static void sellEdges() {
        // the day is no later than D: on day 1 it can be sold, on day 2 not
        SkyTailor x = seller("order 0 0 1 0 1;order 0 0 60 999 1;");
        work(x, "cut 0 0;day;");
        due(x.ready(0), true);
        due(work(x, "sell 0;"), 1);
        due(x.told(5), 0);
        due(x.order(0, 5), 1);
        due(x.client(0, 1), 0);
        x.undo();
        due(work(x, "day;sell 0;"), 1);
        due(x.told(8), 1);
        due(x.order(0, 5), 2);
        due(x.client(0, 1), 1);
        // on day 60, by day 60
        work(x, ALL_DAYS);
        due(x.told(4), 60);
        due(x.ready(1), true);
        due(work(x, "sell 1;"), 1);
        due(x.told(5), 999);
        due(x.order(1, 5), 1);
        due(work(x, "sell 1;cut 0 0;sell 1;"), 1);
        due(x.told(8), 2);
        due(x.told(5), 999);
        // just like its pattern: an hour that is altered, or bare, or turned; another client's suit
        SkyTailor y = seller("order 0 0 60 5 1;order 1 1 60 6 1;order 1 2 60 7 1;");
        work(y, "cut 0 1;cut 1 0;");
        due(work(y, "sell 0;sell 1;"), 0);
        due(y.told(8), 2);
        due(work(y, "strip 0;strip 1;cut 0 0;alter 0 11 sun;sell 0;"), 4);
        due(work(y, "alter 0 11 fog;sell 0;"), 2);
        due(y.told(5), 5);
        due(work(y, "cut 1 1;"), 1);
        law(y, "1 - hour");
        due(work(y, "day;sell 1;"), 1);
        due(y.told(8), 1);
        due(work(y, "alter 1 0 sun;sell 1;"), 2);
        due(y.told(5), 11);
        // of a pattern that is not told: not even without a suit
        due(work(y, "sell 2;"), 0);
        due(y.order(2, 5), 0);
        pattern(y, 2, "12 sun;");
        due(work(y, "sell 2;"), 0);
        due(work(y, "cut 1 2;sell 2;"), 2);
        due(y.told(5), 18);
        // all orders at most, for the most pence
        SkyTailor z = shopOf("bolt sun 60;bolt sun 60;client 0;" + "order 0 1 1 999 1;".repeat(8));
        pattern(z, 1, "12 sun;");
        for (int order = 0; order < 8; order++) {
            due(work(z, "cut 0 1;sell " + order + ";"), 2);
            due(z.told(5), 999 * (order + 1));
            due(z.order(order, 5), 1);
            due(z.order(7, 5), order == 7 ? 1 : 0);
        }
    }

    private static void dayEdges() {
        SkyTailor x = cutOff("bolt sun 60;", "12 sun;", 1);
        law(x, "day - 60");
        due(work(x, "again 20[day;day;];again 19[day;];"), 59);
        due(x.told(4), 59);
        due(x.client(0, 2), 59);
        law(x, "day - 59");
        due(x.client(0, 3), 0);
        due(work(x, "day;"), 1);
        due(x.told(4), 60);
        due(x.client(0, 3), 12);
        // refused on day 60: the moths do not come either
        due(work(x, "alter 0 0 sun;day;day;"), 1);
        due(x.told(8), 2);
        due(x.told(4), 60);
        due(suit(x, 0), "0...........");
        due(x.client(0, 2), 60);
        // a day without suits, without a law
        SkyTailor y = new SkyTailor();
        due(work(y, "day;"), 1);
        due(y.told(4), 1);
        SkyTailor z = cutOff("bolt sun 60;", "12 sun;", 1);
        due(work(z, ALL_DAYS), 60);
        due(suit(z, 0), "000000000000");
    }

    private static String eaten(String law) {
        SkyTailor x = cutOff("bolt sun 60;bolt rain 60;bolt fog 60;", "4 sun;4 rain;4 fog;", 1);
        due(law(x, law), 1);
        work(x, "day;");
        return suit(x, 0);
    }

    private static void lawEdges() {
        String whole = "000011115555";
        String none = "............";
        // above 0: not 0, not below
        due(eaten("0"), whole);
        due(eaten("1"), none);
        due(eaten("0-1"), whole);
        due(eaten("999"), none);
        due(eaten("0 - 999"), whole);
        due(eaten("hour"), "0...........");
        due(eaten("11 - hour"), "...........5");
        due(eaten("kind"), "0000........");
        due(eaten("kind - 1"), "00001111....");
        due(eaten("age"), none);
        due(eaten("age - 1"), whole);
        due(eaten("day"), none);
        due(eaten("day - 1"), whole);
        due(eaten("client"), whole);
        due(eaten("client + 1"), none);
        due(eaten("seams - 1"), none);
        due(eaten("seams - 2"), whole);
        // by 0 both are 0
        due(eaten("5 / 0"), whole);
        due(eaten("5 % 0"), whole);
        due(eaten("1 + 5 / 0"), none);
        due(eaten("1 + 5 % 0"), none);
        due(eaten("hour / (hour - hour)"), whole);
        due(eaten("8 / (hour - 4) - 1"), "00001....555");
        due(eaten("8 % (hour - 4)"), "0.00111.5...");
        // / cuts toward 0, % has the sign of what is divided
        due(eaten("(0 - 1) / 2 + 1"), none);
        due(eaten("(0 - 3) / 2 + 1"), whole);
        due(eaten("(0 - 3) / 2 + 2"), none);
        due(eaten("3 / (0 - 2) + 2"), none);
        due(eaten("3 / (0 - 2) + 1"), whole);
        due(eaten("(0 - 5) % 3 + 2"), whole);
        due(eaten("(0 - 5) % 3 + 3"), none);
        due(eaten("5 % (0 - 3) - 1"), none);
        due(eaten("5 % (0 - 3) - 2"), whole);
        // from the left on; * / % ahead of + -
        due(eaten("3 - 2 - 1"), whole);
        due(eaten("3 - (2 - 1) - 1"), none);
        due(eaten("8 / 2 / 2 - 1"), none);
        due(eaten("8 / (2 / 2) - 8"), whole);
        due(eaten("7 % 4 * 2 - 5"), none);
        due(eaten("7 % (4 * 2) - 7"), whole);
        due(eaten("2 * 3 % 4 - 1"), none);
        due(eaten("2 * 3 % 4 - 2"), whole);
        due(eaten("1 + 2 * 3 - 7"), whole);
        due(eaten("least[3, 2] - 1"), none);
        due(eaten("least[3, 2] - 2"), whole);
        due(eaten("least[2, 3] - 2"), whole);
        due(eaten("most[3, 2] - 2"), none);
        due(eaten("most[2, 3] - 3"), whole);
        due(eaten("least[0 - 1, 1] + 1"), whole);
        due(eaten("most[0 - 1, 0]"), whole);
        bareKind();
        allStandStill();
    }

    /** A bare hour's kind is 6; it stays bare, whatever the law says of it. */
    private static void bareKind() {
        SkyTailor x = cutOff("bolt sun 60;bolt fog 60;", "6 sun;6 fog;", 1);
        law(x, "1 - hour");
        work(x, "day;");
        due(suit(x, 0), ".00000555555");
        due(x.wears(0, 0), -1);
        law(x, "(kind - 5) * 1000");
        work(x, "day;alter 0 0 sun;");
        due(suit(x, 0), "000000555555");
        work(x, "turn 0;");
        law(x, "hour - 10");
        work(x, "day;");
        due(suit(x, 0), "55555500000.");
        // seams - 2 is above 0 alone, while the bare hour is unlike the two beside it
        law(x, "least[seams - 1, hour - 4]");
        due(x.client(0, 4), 2);
        work(x, "day;");
        due(suit(x, 0), "55555.......");
    }

    /** Of each suit as it stands: neither an hour nor a suit that becomes bare changes what the others are measured by. */
    private static void allStandStill() {
        SkyTailor x = shopOf("bolt sun 60;bolt fog 60;client 0;client 0;");
        pattern(x, 0, "again 6[1 sun;1 fog;];");
        work(x, "cut 0 0;day;cut 1 0;");
        law(x, "seams - 10");
        due(x.ahead(0, 1, 0), 12);
        work(x, "day;");
        due(suit(x, 0), "............");
        due(suit(x, 1), "............");
        due(x.client(0, 4), 0);
        work(x, "strip 0;strip 1;cut 0 0;day;cut 1 0;");
        // each by its own age and its own client
        law(x, "age - 1");
        work(x, "day;");
        due(suit(x, 0), "............");
        due(suit(x, 1), "050505050505");
        law(x, "client * (hour - 5)");
        work(x, "day;");
        due(suit(x, 1), "050505......");
    }

    /** Values are whole numbers of 32 bits that wrap. */
    private static void lawWraps() {
        String whole = "000011115555";
        String none = "............";
        // 2 to the 31st is the least number; one less the greatest
        String half = "256*256*256*128";
        due(eaten(half), whole);
        due(eaten(half + " - 1"), none);
        due(eaten("0 - " + half), whole);
        due(eaten("0 - " + half + " - 1"), none);
        due(eaten("(" + half + " - 1) + 1"), whole);
        due(eaten("(" + half + " - 1) * 2 + 3"), none);
        due(eaten("(" + half + " - 1) * 2 + 2"), whole);
        due(eaten(half + " * 2 + 1"), none);
        due(eaten(half + " * 2"), whole);
        due(eaten("256*256*256*256"), whole);
        due(eaten("256*256*256*256 + 1"), none);
        // the least number by -1 is itself, and leaves 0
        due(eaten("(" + half + ") / (0 - 1)"), whole);
        due(eaten("(" + half + ") / (0 - 1) - 1"), none);
        due(eaten("(" + half + ") % (0 - 1)"), whole);
        due(eaten("(" + half + ") % (0 - 1) + 1"), none);
        due(eaten("least[" + half + ", 1] + 1"), whole);
        due(eaten("most[" + half + ", 0 - 1] + 2"), none);
        due(eaten("least[" + half + " - 1, 5] - 4"), none);
        due(eaten("most[" + half + " - 1, 5] - 5"), none);
        // 999 * 999 * 999 is below 2 to the 31st, by 3 and by 5 not
        due(eaten("999*999*999*2"), none);
        due(eaten("999*999*999*3"), whole);
        due(eaten("999*999*999*5"), none);
    }

    private static void seamsAndRuns() {
        String[][] rows = {{"12 sun;", "0", "1"}, {"11 sun;1 fog;", "1", "2"}, {"1 fog;11 sun;", "1", "2"},
            {"again 6[1 sun;1 fog;];", "11", "12"}, {"again 3[2 sun;2 fog;];", "5", "6"}};
        for (String[] row : rows) {
            SkyTailor x = cutOff("bolt sun 60;bolt fog 60;", row[0], 1);
            due(x.client(0, 4), Integer.parseInt(row[1]));
            due(x.client(0, 5), Integer.parseInt(row[2]));
            due(pattern(x, 1, row[0]), Integer.parseInt(row[2]));
        }
        // bare is like bare alone, and in no run
        SkyTailor y = cutOff("bolt sun 60;", "12 sun;", 1);
        law(y, "(hour - 3) * (6 - hour)");
        work(y, "day;");
        due(suit(y, 0), "0000..000000");
        due(y.client(0, 3), 2);
        due(y.client(0, 4), 2);
        due(y.client(0, 5), 2);
        law(y, "1");
        work(y, "day;");
        due(y.client(0, 3), 12);
        due(y.client(0, 4), 0);
        due(y.client(0, 5), 0);
        law(y, "0");
        work(y, "alter 0 0 sun;alter 0 11 sun;");
        due(y.client(0, 4), 2);
        due(y.client(0, 5), 2);
    }

    /** 200 steps are begun at most, agains and refused ones, too; what would come behind is left out. */
    private static void stepsBegun() {
        SkyTailor x = shopOf("client 0;");
        // 1 again and 9 rounds of 20 and 1: 190; and so on
        due(work(x, "again 9[again 20[day;];];again 9[turn 0;];"), 60);
        due(x.told(8), 120 + 9);
        x.undo();
        // 199 are begun, and the 200th; not a 201st
        due(work(x, "again 9[again 20[turn 0;];];again 8[turn 0;];day;"), 1);
        due(x.told(8), 188);
        x.undo();
        due(work(x, "again 9[again 20[turn 0;];];again 9[turn 0;];day;"), 0);
        due(x.told(8), 189);
        x.undo();
        due(work(x, "again 9[again 20[turn 0;];];again 7[turn 0;];day;day;"), 2);
        x.undo();
        due(work(x, "again 9[again 20[turn 0;];];again 8[turn 0;];day;day;"), 1);
        x.undo();
        due(work(x, "again 9[again 20[turn 0;];];again 20[turn 0;];day;day;"), 0);
        due(x.told(8), 189);
        x.undo();
        // an again counts each time it is come to, though it is of no steps or told 0 times
        due(work(x, "again 9[again 20[again 0[day;];];];again 8[again 20[];];day;day;"), 1);
        due(x.told(8), 0);
        x.undo();
        due(work(x, "again 9[again 20[again 0[day;];];];again 9[again 20[];];day;day;"), 0);
        x.undo();
        due(work(x, "again 20[];day;"), 1);
        x.undo();
        due(work(x, "again 0[day;];day;"), 1);
        x.undo();
        due(work(x, "again 1[day;];"), 1);
        x.undo();
        due(work(x, "again 20[day;];"), 20);
        x.undo();
        // an again that is the 200th begins nothing in it
        due(work(x, "again 9[again 20[turn 0;];];again 8[turn 0;];again 1[day;];day;"), 0);
        due(x.told(8), 188);
        x.undo();
        due(work(x, "again 9[again 20[turn 0;];];again 7[turn 0;];again 2[day;];day;"), 1);
        x.undo();
        // steps in order, those of an again as often as told
        due(work(x, "again 2[day;again 3[day;];];again 0[day;day;];"), 8);
        due(x.told(4), 8);
        // each work begins anew
        due(work(x, "again 20[again 20[turn 0;];];"), 0);
        due(work(x, "again 20[again 20[turn 0;];];"), 0);
        due(x.told(8), 189);
    }

    private static void refusedCount() {
        SkyTailor x = shopOf("client 0;bolt sun 60;");
        pattern(x, 0, "12 sun;");
        due(x.told(8), 0);
        due(work(x, "turn 0;turn 0;"), 0);
        due(x.told(8), 2);
        // faults, -1, refused calls leave it
        due(work(x, "turn 0;turn"), -9);
        due(law(x, ""), -9);
        due(shop(x, "x"), -9);
        noArgument(() -> x.work(1));
        due(x.restore(), -1);
        due(x.told(8), 2);
        due(x.image(), 1);
        due(x.told(8), 2);
        pattern(x, 1, "12 sun;");
        law(x, "1");
        book(x, "");
        due(x.told(8), 2);
        // a work of no steps has refused none
        due(work(x, ""), 0);
        due(x.told(8), 0);
        work(x, "strip 0;");
        due(x.told(8), 1);
        due(x.undo(), 2);
        due(x.told(8), 0);
        work(x, "strip 0;");
        due(x.restore(), 0);
        due(x.told(8), 0);
        work(x, "strip 0;");
        due(shop(x, ""), 0);
        due(x.told(8), 0);
        due(x.undo(), -1);
        due(x.told(8), 0);
        // -1 of an undo leaves it: what the latest work had refused can't be seen without one to undo
        for (int i = 0; i < 16; i++) {
            work(x, "again 0[];");
        }
        due(x.told(8), 0);
        due(work(x, "day;"), -20);
        due(x.told(8), 0);
        for (int i = 15; i >= 0; i--) {
            due(x.undo(), i);
        }
        due(x.undo(), -1);
    }

    private static void undoEdges() {
        SkyTailor x = shopOf("client 0;client 1;bolt sun 60;bolt fog 60;order 0 0 9 7 1;");
        pattern(x, 0, "12 sun;");
        String[] works = {"", "turn 0;", "cut 0 0;", "alter 0 3 fog;", "turn 0;", "day;", "cut 1 0;strip 1;", "again 0[day;];",
            "alter 0 8 sun;", "sell 0;", "cut 0 0;cut 1 0;day;", "strip 0;", "turn 1;turn 1;", "sell 0;", "day;day;", "strip 1;"};
        String[] states = new String[16];
        for (int i = 0; i < 16; i++) {
            due(x.count(2), i);
            states[i] = standing(x);
            due(work(x, works[i]) >= 0, true);
        }
        due(x.count(2), 16);
        due(work(x, ""), -20);
        for (int i = 15; i >= 0; i--) {
            due(x.undo(), i);
            due(standing(x), states[i]);
            due(x.told(8), 0);
        }
        due(x.undo(), -1);
        due(standing(x), states[0]);
        // a work with a fault is none that could be undone
        due(work(x, "day;x"), -9);
        due(x.count(2), 0);
        due(x.undo(), -1);
        // undone, and done once more
        due(work(x, "day;"), 1);
        due(x.undo(), 0);
        due(work(x, "day;day;"), 2);
        due(x.told(4), 2);
    }

    /** In a few calls what those works change. */
    private static String standing(SkyTailor x) {
        StringBuilder all = new StringBuilder();
        for (int what : new int[] {4, 5, 9}) {
            all.append(x.told(what)).append(' ');
        }
        return all.append(x.wears(0, 3)).append(x.wears(0, 8)).append(x.client(0, 2)).append(x.client(1, 2))
            .append(x.order(0, 5)).append(' ').append(x.bolt(0, 1)).append(' ').append(x.bolt(1, 1)).toString();
    }

    private static void ordersByDay() {
        SkyTailor x = shopOf("client 0;bolt sun 60;order 0 0 1 3 1;order 0 0 2 4 1;order 0 0 60 5 1;order 0 0 1 6 1;");
        pattern(x, 0, "12 sun;");
        work(x, "cut 0 0;sell 3;");
        int[][] due = {{0, 0, 0, 1}, {0, 0, 0, 1}, {2, 0, 0, 1}, {2, 2, 0, 1}};
        for (int day = 0; day < 4; day++) {
            for (int order = 0; order < 4; order++) {
                due(x.order(order, 5), due[day][order]);
            }
            work(x, "day;");
        }
        work(x, ALL_DAYS);
        due(x.told(4), 60);
        due(x.order(2, 5), 0);
        due(x.order(3, 5), 1);
    }

    private static void clothEdges() {
        SkyTailor x = shopOf("bolt sun 60;bolt sun 1;bolt fog 60;client 0;client 0;order 0 0 1 1 1;order 1 0 2 1 1;order 1 1 3 1 1;"
            + "order 1 5 9 1 1;");
        pattern(x, 0, "5 sun;7 fog;");
        pattern(x, 1, "12 sun;");
        pattern(x, 2, "12 rain;");
        due(x.cloth(0, 0), 61);
        due(x.cloth(5, 0), 60);
        due(x.cloth(1, 0), 0);
        due(x.cloth(0, 2), 5 + 5 + 12);
        due(x.cloth(5, 2), 7 + 7);
        // patterns that no order is of do not count
        due(x.cloth(1, 2), 0);
        pattern(x, 5, "12 fog;");
        due(x.cloth(5, 2), 26);
        work(x, "cut 0 0;cut 1 1;");
        due(x.cloth(0, 1), 17);
        due(x.cloth(5, 1), 7);
        due(x.cloth(0, 0), 44);
        law(x, "1 - hour");
        work(x, "day;");
        // bare hours are of no kind; on day 1 all are open, on day 2 one is too late
        due(x.cloth(0, 1), 15);
        due(x.cloth(0, 2), 22);
        work(x, "day;");
        due(x.cloth(0, 2), 17);
        work(x, "day;");
        due(x.cloth(0, 2), 12);
        work(x, "alter 1 0 sun;sell 2;");
        due(x.cloth(0, 2), 0);
        due(x.cloth(0, 1), 4);
    }

    private static void canEdges() {
        SkyTailor x = shopOf("bolt sun 12;client 0;client 0;client 0;client 0;client 0;client 0;");
        pattern(x, 5, "12 sun;");
        for (int client = 0; client < 6; client++) {
            for (int pattern = 0; pattern < 6; pattern++) {
                due(x.can(client, pattern), pattern == 5);
            }
        }
        due(x.told(6), 12);
        due(work(x, "cut 5 5;"), 1);
        due(x.can(0, 5), false);
        due(x.can(5, 5), false);
        // asked of a refused cut, nothing stays changed
        SkyTailor y = shopOf("bolt sun 6;bolt fog 5;client 0;");
        pattern(y, 0, "6 sun;6 fog;");
        due(y.can(0, 0), false);
        due(y.told(6), 11);
        due(y.bolt(0, 1), 6);
    }

    private static void readyEdges() {
        SkyTailor x = seller("order 0 0 1 5 1;order 1 0 1 5 1;order 0 2 1 5 1;");
        due(x.ready(0), false);
        work(x, "cut 0 0;");
        due(x.ready(0), true);
        due(x.ready(1), false);
        due(x.ready(2), false);
        due(x.told(5), 0);
        due(x.client(0, 1), 1);
        due(x.order(0, 5), 0);
        work(x, "day;");
        due(x.ready(0), true);
        work(x, "day;");
        due(x.ready(0), false);
        x.undo();
        due(x.ready(0), true);
        work(x, "turn 0;");
        due(x.ready(0), false);
        work(x, "turn 0;sell 0;");
        due(x.ready(0), false);
    }
}
