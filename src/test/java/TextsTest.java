/** Promises 1 to 8: a new object, the tape, and what the texts tell or where they fail. */
public final class TextsTest extends Checks {
    private static final String CLIENT = "client 1;";

    public static void main(String[] args) {
        newObject();
        feed();
        shop();
        shopFaults();
        shopLimits();
        shopForgets();
        pattern();
        patternFaults();
        law();
        lawFaults();
        work();
        workFaults();
        workLimits();
        book();
        fault();
        end();
    }

    private static void newObject() {
        SkyTailor x = new SkyTailor();
        for (int what = 0; what < 10; what++) {
            due(x.told(what), 0);
        }
        for (int what = 0; what < 3; what++) {
            due(x.count(what), 0);
            due(x.status(what), 0);
        }
        due(x.fault(), -1);
        due(SkyTailor.NONE, -1);
        noElement(() -> x.client(0, 0));
        noElement(() -> x.bolt(0, 0));
        noElement(() -> x.want(0, 0));
        noElement(() -> x.order(0, 0));
        due(x.sky(0, 0), -1);
        // a new shop's clauses that were not told: a seam is 1
        due(shop(x, "client 1;"), 1);
        pattern(x, 0, "6 sun;6 fog;");
        due(x.tries(0, 0), -1);
    }

    private static void feed() {
        SkyTailor x = new SkyTailor();
        for (int i = 1; i <= 30; i++) {
            due(x.feed(0x20202020, 0x20202020, 0x20202020, 0x20202020, 0x20202020), 20 * i);
        }
        due(x.feed(1, 2, 3, 4, 5), -1);
        due(x.count(1), 600);
        due(x.shop(600), 0);
        due(x.count(1), 0);
        // the highest byte of each number comes first
        due(x.feed('s' << 24 | 'e' << 16 | 'a' << 8 | 'm', ' ' << 24 | '7' << 16 | ';' << 8 | ' ', 0, -1, -128), 20);
        due(x.shop(8), 0);
        due(x.feed(0x80ffff80, 0, 0, 0, 0), 20);
        due(x.shop(4), -9);
        due(x.fault(), 0);
    }

    private static void shop() {
        SkyTailor x = new SkyTailor();
        due(shop(x, ""), 0);
        due(shop(x, "   "), 0);
        due(shop(x, "  bolt  sun  007 ;client2;wants0 3 3 fog 9 ; order 0 5 60 0 24 ;hands 24;seam 0;  "), 1);
        due(x.fault(), -1);
        due(x.bolt(0, 1), 7);
        due(x.client(0, 0), 2);
        due(shop(x, "client 0;client 9;wants 1 0 11 sun 1;wants 0 11 11 sun 9;order 1 0 1 0 1;order 0 5 60 999 24;"), 2);
        due(x.client(1, 0), 9);
        due(x.want(0, 2), 11);
        due(x.want(1, 4), 9);
        due(x.order(1, 3), 999);
        due(shop(x, "bolt sun 7;client2;wants0 3 3 fog 9 ; order 0 5 60 0 24 ;"), 1);
        due(x.want(0, 1), 3);
        due(x.want(0, 2), 3);
        due(x.want(0, 3), 5);
        due(x.order(0, 4), 24);
        String kinds = "bolt sun 1;bolt rain 1;bolt grey 1;bolt wind 1;bolt frost 1;bolt fog 60;";
        due(shop(x, kinds), 0);
        for (int kind = 0; kind < 6; kind++) {
            due(x.bolt(kind, 0), kind);
        }
        due(x.bolt(5, 1), 60);
        // the last seam and the last hands count
        shop(x, "seam 9;hands 1;client 0;seam 3;hands 5;order 0 0 1 1 5;order 0 0 1 2 6;");
        pattern(x, 0, "6 sun;6 fog;");
        due(x.tries(0, 0), -3);
        due(x.sewn(3, 1), 2);
        noArgument(() -> x.shop(-1));
        noArgument(() -> x.shop(1));
        tell(x, "client 1;");
        noArgument(() -> x.shop(21));
        due(x.count(1), 20);
        due(x.shop(9), 1);
    }

    private static void badShop(String text, int answer, int place) {
        SkyTailor x = new SkyTailor();
        shop(x, "client 7;bolt fog 3;");
        due(shop(x, text), answer);
        due(x.fault(), place);
        due(x.count(1), 0);
        due(x.client(0, 0), 7);
        due(x.told(6), 3);
    }

    private static void shopFaults() {
        badShop("Bolt sun 3;", -9, 0);
        badShop("bol sun 3;", -9, 0);
        badShop(" boltsun 3;", -9, 1);
        badShop("bolt Sun 3;", -9, 5);
        badShop("bolt sunn 3;", -9, 5);
        badShop("bolt suna 3;", -9, 5);
        badShop("bolt sunz 3;", -9, 5);
        badShop("bolt su 3;", -9, 5);
        badShop("bolt sun{3;", -9, 8);
        badShop("bolt sun`3;", -9, 8);
        badShop("bolt sun /3;", -9, 9);
        badShop("bolt sun :3;", -9, 9);
        badShop("bolt sun x;", -9, 9);
        badShop("bolt sun -1;", -9, 9);
        badShop("bolt sun 0;", -8, 9);
        badShop("bolt sun  61;", -8, 10);
        badShop("bolt sun 99999999999999999999;", -8, 9);
        badShop("bolt sun 4294967297;", -8, 9);
        badShop("bolt sun 3", -9, 10);
        badShop("bolt sun 3  ", -9, 12);
        badShop("bolt sun", -9, 8);
        badShop("bolt ", -9, 5);
        badShop("bolt sun 3 4;", -9, 11);
        badShop("bolt sun 3;;", -9, 11);
        badShop("bolt\tsun 3;", -9, 4);
        badShop("client 10;", -8, 7);
        badShop("wants 0 0 0 sun 1;", -8, 6);
        badShop(CLIENT + "wants 1 0 0 sun 1;", -8, 15);
        badShop(CLIENT + "wants 0 12 12 sun 1;", -8, 17);
        badShop(CLIENT + "wants 0 5 12 sun 1;", -8, 19);
        badShop(CLIENT + "wants 0 5 4 sun 1;", -8, 19);
        badShop(CLIENT + "wants 0 5 5 sun 0;", -8, 25);
        badShop(CLIENT + "wants 0 5 5 sun 10;", -8, 25);
        badShop("order 0 0 1 1 1;client 1;", -8, 6);
        badShop(CLIENT + "order 0 6 1 1 1;", -8, 17);
        badShop(CLIENT + "order 0 5 0 1 1;", -8, 19);
        badShop(CLIENT + "order 0 5 61 1 1;", -8, 19);
        badShop(CLIENT + "order 0 5 1 1000 1;", -8, 21);
        badShop(CLIENT + "order 0 5 1 1 0;", -8, 23);
        badShop(CLIENT + "order 0 5 1 1 25;", -8, 23);
        badShop("seam 10;", -8, 5);
        badShop("hands 0;", -8, 6);
        badShop("hands 25;", -8, 6);
    }

    private static void shopLimits() {
        due(shop(new SkyTailor(), "bolt fog 1;".repeat(10)), 0);
        badShop("bolt fog 1;".repeat(10) + " bolt fog 1;", -7, 111);
        badShop("bolt fog 1;".repeat(10) + "bolt", -7, 110);
        badShop("bolt fog 1;".repeat(10) + "bolx", -9, 110);
        due(shop(new SkyTailor(), "client 1;".repeat(6)), 6);
        badShop("client 1;".repeat(6) + "client 11;", -7, 54);
        due(shop(new SkyTailor(), CLIENT + "wants 0 0 0 sun 1;".repeat(16)), 1);
        badShop(CLIENT + "wants 0 0 0 sun 1;".repeat(17), -7, 9 + 16 * 18);
        due(shop(new SkyTailor(), CLIENT + "order 0 0 1 1 1;".repeat(8)), 1);
        badShop(CLIENT + "order 0 0 1 1 1;".repeat(9), -7, 9 + 8 * 16);
        due(shop(new SkyTailor(), "seam 1;".repeat(60)), 0);
        badShop("seam 1;".repeat(60) + " hands 1;", -7, 421);
        badShop("seam 1;".repeat(60) + "hand 1;", -9, 420);
        due(shop(new SkyTailor(), "seam 1;".repeat(60) + " "), 0);
    }

    private static void shopForgets() {
        SkyTailor x = shopOf("client 1;bolt sun 60;order 0 0 9 5 1;");
        pattern(x, 0, "12 sun;");
        law(x, "1");
        book(x, "3 sun;");
        work(x, "cut 0 0;cut 0 0;sell 0;cut 0 0;day;");
        x.image();
        due(x.told(8), 1);
        due(shop(x, "client 1;bolt sun 60;order 0 0 9 5 1;x"), -9);
        due(x.told(8), 1);
        due(x.told(5), 5);
        due(x.count(0), 1);
        due(x.count(2), 1);
        due(shop(x, "client 1;bolt sun 60;order 0 0 9 5 1;"), 1);
        for (int what : new int[] {4, 5, 7, 8, 9}) {
            due(x.told(what), 0);
        }
        due(x.told(6), 60);
        due(x.order(0, 5), 0);
        due(x.count(0), 0);
        due(x.count(2), 0);
        due(x.sky(0, 0), -1);
        pattern(x, 0, "6 sun;6 fog;");
        due(x.skies(0), 4095);
        pattern(x, 0, "12 sun;");
        work(x, "cut 0 0;day;");
        due(suit(x, 0), "000000000000");
    }

    private static void goodPattern(String text, int runs, String row) {
        SkyTailor x = new SkyTailor();
        due(pattern(x, 4, text), runs);
        due(x.fault(), -1);
        StringBuilder made = new StringBuilder();
        for (int hour = 0; hour < 12; hour++) {
            made.append(x.sky(4, hour));
        }
        due(made.toString(), row);
    }

    private static void pattern() {
        goodPattern("12 sun;", 1, "000000000000");
        goodPattern("1 sun;11rain;", 2, "011111111111");
        goodPattern("4 sun;2 sun;6 grey;", 2, "000000222222");
        goodPattern("again 12 [1 fog;];", 1, "555555555555");
        goodPattern(" again 6[1 frost ; 1 wind;] ; ", 12, "434343434343");
        goodPattern("again 0 [];12 wind;again 12 [again 0 [12 sun;];];", 1, "333333333333");
        goodPattern("again 2 [again 3 [1 sun;];again 1 [3 rain;];];", 4, "000111000111");
        goodPattern("again 1[again 1[again 1[again 1[again 1[again 2[4 wind;2 fog;];];];];];];", 4, "333355333355");
        goodPattern("again 2[1 sun;2 fog;];again 1[6 grey;];", 5, "055055222222");
        SkyTailor x = new SkyTailor();
        noElement(() -> x.pattern(6, 0));
        noElement(() -> x.pattern(-1, 1000));
        noArgument(() -> x.pattern(5, -1));
        noArgument(() -> x.pattern(5, 1));
        tell(x, "12 sun;".repeat(20));
        noArgument(() -> x.pattern(0, 101));
        due(x.count(1), 140);
        due(x.pattern(0, 7), 1);
        due(x.count(1), 0);
        tell(x, "12 sun;" + " ".repeat(93));
        due(x.pattern(1, 100), 1);
    }

    private static void badPattern(String text, int answer, int place) {
        SkyTailor x = new SkyTailor();
        pattern(x, 2, "12 grey;");
        due(pattern(x, 2, text), answer);
        due(x.fault(), place);
        due(x.count(1), 0);
        due(x.sky(2, 11), 2);
    }

    private static void patternFaults() {
        badPattern("", -6, 0);
        badPattern("  ", -6, 2);
        badPattern("11 sun; ", -6, 8);
        badPattern("again 3 [3 sun;];", -6, 17);
        badPattern("0 sun;", -8, 0);
        badPattern("13 sun;", -8, 0);
        badPattern("11 sun;13 sun;", -8, 7);
        badPattern("11 sun; 2 x;", -6, 8);
        badPattern("12 sun;1 fog;", -6, 7);
        badPattern("12 snow;", -9, 3);
        badPattern("12;", -9, 2);
        badPattern("12 sun", -9, 6);
        badPattern("sun 12;", -9, 0);
        badPattern("agains 1 [];", -9, 0);
        badPattern("];", -9, 0);
        badPattern("again 1 [12 sun;]]", -9, 17);
        badPattern("again 1 12 sun;];", -9, 8);
        badPattern("again 1 [12 sun;", -9, 16);
        badPattern("again 1 [12 sun;];" + "x", -9, 18);
        badPattern("again 13 [];", -8, 6);
        badPattern("again [];", -9, 6);
        // too many by an again: at its word, but seen only behind its ]
        badPattern("1 fog; again 4 [3 sun;]", -6, 7);
        badPattern("1 fog;again 4 [3 sun;;", -9, 21);
        badPattern("again 3 [5 sun;13 fog;];", -8, 15);
        badPattern("again 3 [5 sun;8 fog;];", -6, 15);
        badPattern("again 0 [12 sun;1 fog;];12 sun;", -6, 16);
        badPattern("again 12 [1 sun;1 fog;];", -6, 0);
        badPattern("again 1 [1 fog;again 12 [1 sun;];];", -6, 15);
        badPattern("again 2 [1 fog;again 6 [1 sun;];];", -6, 0);
        String six = "again 1[".repeat(6);
        badPattern(six + " again 1[12 sun;", -7, 49);
        badPattern(six + "agai", -9, 48);
        badPattern(six + "12 sun;" + "];".repeat(5), -9, 65);
    }

    /** The hours that a law makes bare on day 1, of a suit of client 1: 3 sun, 3 rain, 6 fog. */
    private static String eaten(String law) {
        SkyTailor x = shopOf("client 0;client 0;bolt sun 9;bolt rain 9;bolt fog 9;");
        pattern(x, 0, "3 sun;3 rain;6 fog;");
        due(law(x, law), 1);
        due(x.fault(), -1);
        work(x, "cut 1 0;day;");
        return suit(x, 1);
    }

    private static void law() {
        String all = "............";
        String whole = "000111555555";
        due(eaten("0"), whole);
        due(eaten("1"), all);
        due(eaten("hour-9"), "0001115555..");
        due(eaten("kind"), "000.........");
        due(eaten("kind / 5"), "000111......");
        due(eaten("client"), all);
        due(eaten("age"), all);
        due(eaten("day - 1"), whole);
        due(eaten("3-seams"), all);
        due(eaten("2 - seams"), whole);
        due(eaten("least [hour, 5] - 4"), "00011.......");
        due(eaten("most[hour,5]-5"), "000111......");
        due(eaten("10-hour-9"), ".00111555555");
        due(eaten("2 + 3 * hour - 30"), "0001115555..");
        due(eaten("(2+3)*hour - 50"), "00011155555.");
        due(eaten("hour % 3"), "0..1..5..5..");
        due(eaten("0 - (0 - hour) % 3"), "0..1..5..5..");
        due(eaten("hour / 4 - 1"), "00011155....");
        due(eaten("(0-7)/2 + 4"), all);
        due(eaten("(0-7)/2 + 3"), whole);
        due(eaten("1 + hour / 0"), all);
        due(eaten("hour % 0"), whole);
        due(eaten("999*999*999*4"), whole);
        due(eaten("999*999*999*3"), whole);
        due(eaten("999*999*999*2"), all);
        due(eaten("((((((1))))))"), all);
        due(eaten("least[most[least[most[least[most[1,0],1],1],0],1],1]"), all);
        due(eaten(" ( hour ) - 007 "), "00011155....");
        SkyTailor x = new SkyTailor();
        noArgument(() -> x.law(-1));
        noArgument(() -> x.law(1));
        tell(x, "1" + " ".repeat(159));
        noArgument(() -> x.law(151));
        due(x.count(1), 160);
        due(x.law(150), 1);
        due(x.count(1), 0);
        seamsStandStill();
    }

    /** All hours of a suit are looked at ahead of any that becomes bare. */
    private static void seamsStandStill() {
        SkyTailor x = shopOf("client 0;bolt sun 60;bolt fog 60;");
        pattern(x, 0, "again 6 [1 sun;1 fog;];");
        law(x, "(seams - 10) * (1 - hour % 2)");
        work(x, "cut 0 0;day;");
        due(suit(x, 0), ".5.5.5.5.5.5");
        law(x, "kind - 5");
        work(x, "alter 0 0 sun;day;");
        due(suit(x, 0), "05.5.5.5.5.5");
        due(x.client(0, 3), 5);
    }

    private static void badLaw(String text, int answer, int place) {
        SkyTailor x = shopOf("client 0;bolt sun 60;");
        pattern(x, 0, "12 sun;");
        law(x, "1");
        due(law(x, text), answer);
        due(x.fault(), place);
        due(x.count(1), 0);
        work(x, "cut 0 0;day;");
        due(x.client(0, 3), 12);
    }

    private static void lawFaults() {
        badLaw("", -9, 0);
        badLaw("   ", -9, 3);
        badLaw("kinds", -9, 0);
        badLaw("1000", -8, 0);
        badLaw("1+", -9, 2);
        badLaw("1 2", -9, 2);
        badLaw("1 ;", -9, 2);
        badLaw("-1", -9, 0);
        badLaw("1 - - 1", -9, 4);
        badLaw("(1", -9, 2);
        badLaw("(1]", -9, 2);
        badLaw("1)", -9, 1);
        badLaw("least [1]", -9, 8);
        badLaw("least (1,2)", -9, 6);
        badLaw("most [1,2", -9, 9);
        badLaw("most [1,2,3]", -9, 9);
        badLaw("1 + hour 2", -9, 9);
        badLaw("((((((  (1", -7, 8);
        badLaw("least[(least[(least[(1),0],0],0", -9, 26);
        badLaw("least[(least[(least[(most[", -7, 21);
        badLaw("((((((leas", -9, 6);
        badLaw("((((((hour))))))+((((((least[", -7, 23);
    }

    private static void work() {
        SkyTailor x = shopOf("client 0;bolt sun 60;bolt rain 60;");
        pattern(x, 0, "6 sun;6 rain;");
        due(work(x, ""), 0);
        due(work(x, "  "), 0);
        due(x.count(2), 2);
        due(work(x, " cut 0 0 ;again 3 [turn 0;alter 0 0 sun;]; day;strip0;day;cut 0 5;turn 0;"), 8);
        due(x.told(8), 4);
        due(x.told(4), 2);
        noArgument(() -> x.work(-1));
        noArgument(() -> x.work(1));
        tell(x, "day;".repeat(55));
        noArgument(() -> x.work(201));
        due(x.count(1), 220);
        due(x.count(2), 3);
        due(x.work(200), 50);
        due(x.count(1), 0);
        due(x.told(4), 52);
    }

    private static void badWork(String text, int answer, int place) {
        SkyTailor x = shopOf("client 0;client 0;bolt sun 60;order 0 0 9 9 9;");
        pattern(x, 0, "12 sun;");
        work(x, "turn 0;");
        due(work(x, text), answer);
        due(x.fault(), place);
        due(x.count(1), 0);
        due(x.count(2), 1);
        due(x.told(9), 0);
        due(x.told(4), 0);
        due(x.told(8), 1);
    }

    private static void workFaults() {
        badWork("day;cut 2 0;", -8, 8);
        badWork("day;cut 0 6;", -8, 10);
        badWork("cut 0 0;alter 2 0 sun;", -8, 14);
        badWork("alter 0 12 sun;", -8, 8);
        badWork("alter 0 11 snow;", -9, 11);
        badWork("turn 2;", -8, 5);
        badWork("strip 2;", -8, 6);
        badWork("sell 1;", -8, 5);
        badWork("day 1;", -9, 4);
        badWork("day", -9, 3);
        badWork("day;days;", -9, 4);
        badWork("again 21 [day;];", -8, 6);
        badWork("again 20 [day;]", -9, 15);
        badWork("again 20 [day];", -9, 13);
        badWork("again 20 [day;", -9, 14);
        badWork("again 20 day;", -9, 9);
        badWork("day;];", -9, 4);
        badWork("again 0[".repeat(6) + "again", -7, 48);
        badWork("again 0[".repeat(6) + "agan", -9, 48);
        SkyTailor x = new SkyTailor();
        due(work(x, "turn 0;"), -8);
        due(work(x, "sell 0;"), -8);
        due(x.fault(), 5);
    }

    private static void workLimits() {
        SkyTailor x = shopOf("client 0;bolt sun 60;");
        pattern(x, 0, "12 sun;");
        work(x, "cut 0 0;");
        // 200 begun: an again each time it is come to, refused ones too
        due(work(x, "again 20 [again 20 [turn 0;];];"), 189);
        due(work(x, "again 10 [again 19 [cut 0 0;];];turn 0;"), 0);
        due(x.told(8), 189);
        due(work(x, "again 10 [again 18 [turn 0;];];turn 0;"), 181);
        due(work(x, "again 9 [again 20 [turn 0;];];turn 0;strip 0;"), 182);
        due(x.client(0, 1), 0);
        due(work(x, "again 20[again 20[again 20[again 20[again 20[again 20[];];];];];];"), 0);
        due(work(x, "again 20[again 9[];];day;"), 1);
        due(work(x, "again 20[again 9[];again 9[];again 9[];again 9[];again 9[];again 9[];again 9[];again 9[];again 9[];];day;"), 1);
        due(work(x, "again 20[again 9[];again 9[];again 9[];again 9[];again 9[];again 9[];again 9[];again 9[];again 9[];day;];"
            + "day;"), 19);
        due(work(x, "again 1[".repeat(6) + "day;" + "];".repeat(6)), 1);
        due(work(x, "again 2[".repeat(6) + "day;" + "];".repeat(6)), 38);
        for (int i = x.count(2); i < 16; i++) {
            due(work(x, ""), 0);
        }
        due(work(x, "bad"), -20);
        due(x.fault(), -1);
        due(x.count(1), 0);
        due(x.count(2), 16);
        noArgument(() -> x.work(1));
        due(x.undo(), 15);
        due(work(x, "bad"), -9);
        due(work(x, "turn 0;"), 0);
        due(x.told(8), 1);
        due(work(x, "day;"), -20);
        due(x.told(8), 1);
    }

    private static void badBook(String text, int answer, int place) {
        SkyTailor x = new SkyTailor();
        pattern(x, 0, "6 sun;6 fog;");
        book(x, "0 sun;1 fog;");
        due(book(x, text), answer);
        due(x.fault(), place);
        due(x.count(1), 0);
        due(x.told(7), 2);
        due(x.skies(0), 1 << 7);
    }

    private static void book() {
        SkyTailor x = new SkyTailor();
        due(book(x, ""), 0);
        due(book(x, "0 sun ; 11 fog;  "), 2);
        due(x.told(7), 2);
        String lines = "0sun;1sun;2sun;3sun;4sun;5sun;6sun;7sun;8sun;9sun;10sun;11sun;";
        due(book(x, lines), 12);
        due(x.told(7), 12);
        due(book(x, ""), 0);
        due(x.told(7), 0);
        badBook("12 sun;", -8, 0);
        badBook("1 sun; 1 fog;", -8, 7);
        badBook("1 snow;", -9, 2);
        badBook("1 sun", -9, 5);
        badBook("sun 1;", -9, 0);
        badBook("1;", -9, 1);
        badBook(lines + "3 sun;", -8, 62);
        badBook(lines + "sun;", -9, 62);
        noArgument(() -> x.book(-1));
        noArgument(() -> x.book(1));
        tell(x, " ".repeat(120));
        noArgument(() -> x.book(101));
        due(x.count(1), 120);
        due(x.book(100), 0);
        due(x.count(1), 0);
    }

    private static void fault() {
        SkyTailor x = new SkyTailor();
        due(law(x, "hour +"), -9);
        due(x.fault(), 6);
        // a refused text is no text
        noArgument(() -> x.law(7));
        noElement(() -> x.pattern(9, 0));
        due(x.fault(), 6);
        due(book(x, "  x"), -9);
        due(x.fault(), 2);
        due(work(x, "x"), -9);
        due(x.fault(), 0);
        x.undo();
        x.image();
        x.restore();
        due(x.fault(), 0);
        due(book(x, ""), 0);
        due(x.fault(), -1);
    }
}
