/** Promises 39 to 42: images, and how often calls were refused. */
public final class ImagesTest extends Checks {
    public static void main(String[] args) {
        images();
        whatImagesKeep();
        fullImages();
        edges();
        status();
        count();
        end();
    }

    private static SkyTailor shop() {
        SkyTailor x = shopOf("bolt sun 60;bolt rain 20;client 1;client 2;order 0 0 9 7 1;");
        pattern(x, 0, "12 sun;");
        return x;
    }

    private static void images() {
        SkyTailor x = shop();
        due(x.restore(), -1);
        due(x.image(), 1);
        work(x, "cut 0 0;day;");
        due(x.image(), 2);
        work(x, "sell 0;cut 1 0;day;turn 0;");
        due(x.told(8), 1);
        due(x.image(), 3);
        due(x.image(), -1);
        due(x.count(0), 3);
        work(x, "alter 1 0 rain;strip 1;");
        due(x.restore(), 2);
        due(x.told(8), 0);
        due(x.told(4), 2);
        due(x.told(5), 7);
        due(x.told(6), 56);
        due(x.told(9), 1);
        due(x.order(0, 5), 1);
        due(x.client(1, 2), 1);
        due(x.count(2), 2);
        // works that the image kept can be undone
        due(x.undo(), 1);
        due(x.told(4), 1);
        due(x.order(0, 5), 0);
        due(suit(x, 0), "000000000000");
        due(x.restore(), 1);
        due(x.count(2), 1);
        due(x.undo(), 0);
        due(x.told(6), 80);
        due(x.undo(), -1);
        work(x, "day;day;");
        due(x.restore(), 0);
        due(x.told(4), 0);
        due(x.count(2), 0);
        due(x.restore(), -1);
    }

    private static void whatImagesKeep() {
        SkyTailor x = shop();
        work(x, "cut 0 0;");
        book(x, "0 sun;");
        x.image();
        // the law, patterns, the book, the latest fault and the tape stay as they are
        law(x, "1");
        pattern(x, 0, "12 rain;");
        pattern(x, 1, "12 fog;");
        book(x, "0 sun;1 rain;");
        work(x, "day;x");
        work(x, "strip 0;turn 0;");
        work(x, "day;x");
        tell(x, "day;");
        due(x.restore(), 0);
        due(x.count(1), 20);
        due(x.fault(), 4);
        due(x.told(7), 2);
        due(x.sky(0, 0), 1);
        due(x.sky(1, 0), 5);
        due(x.told(8), 0);
        due(x.work(4), 1);
        due(x.client(0, 3), 12);
        // undo leaves them, too
        pattern(x, 0, "12 grey;");
        due(x.undo(), 1);
        due(x.sky(0, 0), 2);
        due(x.told(7), 2);
        // 16 works in an image
        for (int i = x.count(2); i < 16; i++) {
            work(x, "day;");
        }
        x.image();
        due(x.undo(), 15);
        work(x, "turn 0;");
        due(x.restore(), 0);
        due(x.count(2), 16);
        due(work(x, "day;"), -20);
        for (int left = 15; left >= 0; left--) {
            due(x.undo(), left);
        }
        due(x.told(6), 80);
    }

    /** Works and images that stand beside one another do not touch one another. */
    private static void fullImages() {
        SkyTailor x = shop();
        for (int i = 0; i < 16; i++) {
            work(x, "day;");
        }
        x.image();
        for (int i = 0; i < 16; i++) {
            x.undo();
        }
        for (int i = 0; i < 16; i++) {
            work(x, "day;day;");
        }
        x.image();
        for (int i = 0; i < 16; i++) {
            x.undo();
        }
        for (int i = 0; i < 16; i++) {
            work(x, "day;day;day;");
        }
        x.image();
        due(x.undo(), 15);
        for (int days = 3; days > 0; days--) {
            due(x.restore(), days - 1);
            due(x.told(4), 16 * days);
            for (int left = 15; left >= 0; left--) {
                due(x.undo(), left);
                due(x.told(4), days * left);
            }
            work(x, "cut 0 0;");
        }
    }

    /** A fourth image is none: the third is still the latest. Without one, restore leaves all. */
    private static void edges() {
        SkyTailor x = shop();
        due(x.image(), 1);
        due(x.restore(), 0);
        due(x.restore(), -1);
        for (int i = 1; i <= 3; i++) {
            work(x, "day;");
            due(x.image(), i);
            due(x.count(0), i);
        }
        work(x, "day;cut 0 0;");
        String before = state(x);
        due(x.image(), -1);
        due(x.image(), -1);
        due(state(x), before);
        due(x.restore(), 2);
        due(x.told(4), 3);
        due(x.count(2), 3);
        // there is room for one again
        work(x, "day;day;");
        due(x.image(), 3);
        due(x.image(), -1);
        for (int i = 2; i >= 0; i--) {
            due(x.restore(), i);
            due(x.told(4), i == 2 ? 5 : i + 1);
            due(x.told(8), 0);
        }
        String last = state(x);
        work(x, "turn 0;");
        due(x.told(8), 1);
        due(x.restore(), -1);
        due(x.told(8), 1);
        due(x.undo(), 1);
        due(state(x), last);
        // a shop with a fault keeps them, one without has none
        x.image();
        due(shop(x, "client 1"), -9);
        due(x.count(0), 1);
        due(shop(x, "client 1;"), 1);
        due(x.count(0), 0);
        due(x.restore(), -1);
        due(x.undo(), -1);
        due(new SkyTailor().image(), 1);
        due(new SkyTailor().restore(), -1);
    }

    private static void status() {
        SkyTailor x = shop();
        noElement(() -> x.bolt(9, 9));
        noElement(() -> x.tries(0, 6));
        noArgument(() -> x.told(10));
        noArgument(() -> x.mend(0, 1));
        noArgument(() -> x.pieces(2));
        noState(() -> x.tries(0, 1));
        due(x.status(0), 2);
        due(x.status(1), 3);
        due(x.status(2), 1);
        due(x.status(3), -1);
        due(x.status(-1), -1);
        // neither images nor a shop keep it; faults, -1 and -20 are no refusals
        x.image();
        noState(() -> x.gets(0, 1));
        x.restore();
        x.restore();
        x.undo();
        law(x, "");
        shop(x, "client 3;");
        due(x.status(0), 2);
        due(x.status(1), 3);
        due(x.status(2), 2);
    }

    private static void count() {
        SkyTailor x = shop();
        due(x.count(3), -1);
        due(x.count(-1), -1);
        x.feed(1, 2, 3, 4, 5);
        x.image();
        due(x.count(0), 1);
        due(x.count(1), 20);
        due(x.count(2), 0);
        x.work(0);
        due(x.count(1), 0);
        due(x.count(2), 1);
    }
}
