import java.util.ArrayList;
import java.util.List;

/** The edges of the five kinds of text: each number, word and sign, texts that end too early, the longest ones, faults. */
public final class TextEdgesTest extends Checks {
    private static final String SHOP = "shop";
    private static final String PATTERN = "pattern";
    private static final String LAW = "law";
    private static final String WORK = "work";
    private static final String BOOK = "book";
    private static final String KINDS = "sun rain grey wind frost fog";

    public static void main(String[] args) {
        tape();
        numbers();
        numbersOfPatterns();
        words();
        textsCutShort();
        foreignBytes();
        blanks();
        lengths();
        emptyTexts();
        tooMany();
        openAtOneTime();
        patternHours();
        firstFault();
        faultsLeaveAll();
        textsByThemselves();
        latestFault();
        end();
    }

    /** A shop in which each text below can be read, and all that is left by a fault can be seen. */
    private static SkyTailor shop() {
        SkyTailor x = shopOf("bolt sun 30;bolt rain 20;client 1;client 2;client 3;order 0 0 9 7 3;order 1 3 9 8 4;");
        pattern(x, 0, "6 sun;6 rain;");
        law(x, "hour - 10");
        book(x, "0 sun;1 sun;");
        work(x, "cut 0 0;day;turn 2;");
        x.image();
        return x;
    }

    private static int read(SkyTailor x, String kind, int n) {
        switch (kind) {
            case SHOP:
                return x.shop(n);
            case PATTERN:
                return x.pattern(0, n);
            case LAW:
                return x.law(n);
            case WORK:
                return x.work(n);
            default:
                return x.book(n);
        }
    }

    private static int read(SkyTailor x, String kind, String text) {
        return read(x, kind, tell(x, text));
    }

    private static void good(String kind, String text) {
        SkyTailor x = shop();
        int answer = read(x, kind, text);
        if (answer < 0) {
            System.out.println(kind + " " + text);
        }
        due(answer >= 0, true);
        due(x.fault(), -1);
        due(x.count(1), 0);
    }

    /** A text with a fault; all but the tape stays. */
    private static void bad(String kind, String text, int fault, int place) {
        SkyTailor x = shop();
        int answer = read(x, kind, text);
        if (answer != fault - 10 || x.fault() != place) {
            System.out.println(kind + " " + text);
        }
        due(answer, fault - 10);
        due(x.fault(), place);
        due(x.count(1), 0);
        due(state(x), state(shop()));
    }

    private static void tape() {
        SkyTailor x = new SkyTailor();
        // the bytes come as told, of each number the highest first, and stay in their order
        tell(x, "client 1;client 2;client 3;");
        due(x.count(1), 40);
        due(x.shop(18), 2);
        due(x.count(1), 0);
        due(x.feed(0x636c6965, 0x6e742037, 0x3b20636c, 0x69656e74, 0x2039203b), 20);
        due(x.shop(20), 2);
        due(x.client(0, 0), 7);
        due(x.client(1, 0), 9);
        // up to 600; a 31st time does nothing
        String text = "client 5;" + " ".repeat(590) + "x";
        for (int i = 1; i < 30; i++) {
            due(x.feed(0x20202020, 0x20202020, 0x20202020, 0x20202020, 0x20202020), 20 * i);
        }
        due(x.feed(0x20202020, 0x20202020, 0x2020636c, 0x69656e74, 0x20362020), 600);
        due(x.feed(0x78787878, 0x78787878, 0x78787878, 0x78787878, 0x78787878), -1);
        due(x.feed(0, 0, 0, 0, 0), -1);
        due(x.count(1), 600);
        due(x.shop(600), -9);
        due(x.fault(), 600);
        due(x.count(1), 0);
        due(x.shop(0), 0);
        due(tell(x, text), 600);
        due(x.count(1), 600);
        due(x.shop(599), 1);
        due(x.count(1), 0);
        tell(x, text);
        due(x.shop(600), -9);
        due(x.fault(), 599);
        // bytes above 127 and 0 are no blanks, digits, letters
        for (int sign = 0; sign < 256; sign++) {
            SkyTailor y = new SkyTailor();
            y.feed('s' << 24 | 'e' << 16 | 'a' << 8 | 'm', sign << 24 | '7' << 16 | ';' << 8 | ' ', 0, 0, 0);
            boolean blank = sign == ' ';
            boolean digit = sign == '0';
            boolean letter = sign >= 'a' && sign <= 'z';
            boolean number = sign >= '1' && sign <= '9';
            due(y.shop(8), blank || digit ? 0 : number ? -8 : -9);
            due(y.fault(), blank || digit ? -1 : letter ? 0 : 4);
        }
    }

    /** A number at a place of a text: the least and the greatest, and what is beyond them. */
    private static void number(String kind, String ahead, String behind, int least, int greatest) {
        int place = ahead.length();
        good(kind, ahead + least + behind);
        good(kind, ahead + greatest + behind);
        good(kind, ahead + "000000" + least + behind);
        good(kind, ahead + "   " + greatest + "  " + behind);
        if (least > 0) {
            bad(kind, ahead + (least - 1) + behind, 2, place);
            bad(kind, ahead + "0" + behind, 2, place);
        }
        bad(kind, ahead + (greatest + 1) + behind, 2, place);
        bad(kind, ahead + " " + (greatest + 1) + behind, 2, place + 1);
        bad(kind, ahead + (greatest + 1) + "0000" + behind, 2, place);
        // 32 and 64 bits do not wrap
        bad(kind, ahead + (4294967296L + greatest) + behind, 2, place);
        bad(kind, ahead + (2147483648L + greatest) + behind, 2, place);
        bad(kind, ahead + "184467440737095516" + (16 + greatest) + behind, 2, place);
        bad(kind, ahead + "99999999999999999999999999" + behind, 2, place);
        // no number, no sign of it, no other digits
        String next = behind.stripLeading();
        if (next.isEmpty() || !isDigit(next.charAt(0))) {
            bad(kind, ahead + " " + behind, 1, place + 1 + behind.length() - next.length());
        }
        bad(kind, ahead + "-1" + behind, 1, place);
        bad(kind, ahead + "+1" + behind, 1, place);
        bad(kind, ahead + "/" + behind, 1, place);
        bad(kind, ahead + ":" + behind, 1, place);
        bad(kind, ahead + (char) 0xb2 + behind, 1, place);
        endsEarly(kind, ahead);
    }

    /** Where a word or a number is due, the text ends: unless it could as well be all. */
    private static void endsEarly(String kind, String text) {
        if (kind.equals(LAW) || !isDone(text)) {
            bad(kind, text, 1, text.length());
        }
    }

    private static void numbers() {
        String clients = "client 0;".repeat(6);
        number(SHOP, "bolt fog ", ";", 1, 60);
        number(SHOP, "client ", ";", 0, 9);
        number(SHOP, clients + "wants ", " 0 0 sun 1;", 0, 5);
        number(SHOP, "client 0;wants ", " 0 0 sun 1;client 0;", 0, 0);
        number(SHOP, "client 0;wants 0 ", " 11 sun 1;", 0, 11);
        number(SHOP, "client 0;wants 0 0 ", " sun 1;", 0, 11);
        // T is no less than F
        for (int first = 1; first < 12; first++) {
            number(SHOP, "client 0;wants 0 " + first + " ", " sun 1;", first, 11);
        }
        number(SHOP, "client 0;wants 0 0 0 sun ", ";", 1, 9);
        number(SHOP, clients + "order ", " 0 1 0 1;", 0, 5);
        number(SHOP, "client 0;order ", " 0 1 0 1;client 0;", 0, 0);
        number(SHOP, "client 0;order 0 ", " 1 0 1;", 0, 5);
        number(SHOP, "client 0;order 0 0 ", " 0 1;", 1, 60);
        number(SHOP, "client 0;order 0 0 1 ", " 1;", 0, 999);
        number(SHOP, "client 0;order 0 0 1 0 ", ";", 1, 24);
        number(SHOP, "seam ", ";", 0, 9);
        number(SHOP, "hands ", ";", 1, 24);
        // without a client ahead there is none, one behind is not told yet
        bad(SHOP, "wants 0 0 0 sun 1;", 2, 6);
        bad(SHOP, "order 0 0 1 0 1;", 2, 6);
        bad(SHOP, "wants 0 0 0 sun 1;client 0;", 2, 6);
        bad(SHOP, "bolt sun 9;order 0 0 1 0 1;client 0;", 2, 17);
        number(LAW, "hour + ", " - 1", 0, 999);
        number(LAW, "", "", 0, 999);
        number(LAW, "least[", ",1]", 0, 999);
        number(WORK, "cut ", " 0;", 0, 2);
        number(WORK, "day;cut 0 ", ";", 0, 5);
        number(WORK, "alter ", " 0 sun;", 0, 2);
        number(WORK, "alter 0 ", " sun;", 0, 11);
        number(WORK, "turn ", ";", 0, 2);
        number(WORK, "strip ", ";", 0, 2);
        number(WORK, "sell ", ";", 0, 1);
        number(WORK, "again ", "[day;];", 0, 20);
        number(BOOK, "", " sun;", 0, 11);
        number(BOOK, "3 sun;", " sun;", 4, 11, 0);
        // no H twice
        for (int hour = 0; hour < 12; hour++) {
            bad(BOOK, hour + " sun; " + hour + " sun;", 2, (hour + " sun; ").length());
            bad(BOOK, hour + " sun;0" + hour + " fog;", 2, (hour + " sun;").length());
        }
    }

    /** Likewise, of a number that may be 0, too, though not all that are less than the least here. */
    private static void number(String kind, String ahead, String behind, int one, int greatest, int least) {
        good(kind, ahead + one + behind);
        good(kind, ahead + least + behind);
        good(kind, ahead + greatest + behind);
        bad(kind, ahead + (greatest + 1) + behind, 2, ahead.length());
    }

    private static void numbersOfPatterns() {
        for (int many = 1; many <= 11; many++) {
            good(PATTERN, many + " sun;" + (12 - many) + " sun;");
            bad(PATTERN, many + " sun;", 4, (many + " sun;").length());
        }
        good(PATTERN, "12 sun;");
        good(PATTERN, "0012 sun;");
        bad(PATTERN, "0 sun;12 sun;", 2, 0);
        bad(PATTERN, "00 sun;12 sun;", 2, 0);
        bad(PATTERN, "13 sun;", 2, 0);
        bad(PATTERN, "12 sun; 13 sun;", 2, 8);
        bad(PATTERN, "12 sun; 0 sun;", 2, 8);
        bad(PATTERN, "4294967308 sun;", 2, 0);
        bad(PATTERN, "-12 sun;", 1, 0);
        int[] wholes = {1, 2, 3, 4, 6, 12};
        for (int times : wholes) {
            good(PATTERN, "again " + times + "[" + 12 / times + " fog;];");
        }
        for (int times = 0; times <= 12; times++) {
            good(PATTERN, "again " + times + "[];12 sun;");
        }
        good(PATTERN, "again 0[12 sun;];12 sun;");
        bad(PATTERN, "again 13[];12 sun;", 2, 6);
        bad(PATTERN, "again  13[1 sun;];", 2, 7);
        bad(PATTERN, "again 4294967297[12 sun;];", 2, 6);
        bad(PATTERN, "again -1[12 sun;];", 1, 6);
        bad(PATTERN, "again[12 sun;];", 1, 5);
    }

    /** A word at a place: each of its list, and what is like one, but none. */
    private static void word(String kind, String ahead, String behind, String list) {
        int place = ahead.length();
        for (String one : list.split(" ")) {
            good(kind, ahead + one + behind);
            good(kind, ahead + "  " + one + behind);
            bad(kind, ahead + one + "s" + behind, 1, place);
            bad(kind, ahead + "a" + one + behind, 1, place);
            bad(kind, ahead + one.substring(0, one.length() - 1) + behind, 1, place);
            bad(kind, ahead + one.substring(1) + behind, 1, place);
            bad(kind, ahead + one.toUpperCase() + behind, 1, place);
            bad(kind, ahead + one.substring(0, 1).toUpperCase() + one.substring(1) + behind, 1, place);
            bad(kind, ahead + one.substring(0, 2) + "`" + one.substring(2) + behind, 1, place);
            bad(kind, ahead + one.substring(0, 2) + " " + one.substring(2) + behind, 1, place);
            bad(kind, ahead + one + one + behind, 1, place);
        }
        bad(kind, ahead + "kinds" + behind, 1, place);
        bad(kind, ahead + "none" + behind, 1, place);
        bad(kind, ahead + "bare" + behind, 1, place);
        endsEarly(kind, ahead);
    }

    private static void words() {
        word(SHOP, "bolt ", " 1;", KINDS);
        word(SHOP, "client 0;wants 0 0 0 ", " 1;", KINDS);
        word(PATTERN, "12 ", ";", KINDS);
        word(PATTERN, "again 3[2 sun;2", ";];", KINDS);
        word(WORK, "alter 0 0 ", ";", KINDS);
        word(BOOK, "0 ", ";", KINDS);
        word(WORK, "", " 0;", "turn strip sell");
        word(WORK, "day;", ";", "day");
        word(WORK, "again 2[", ";];", "day");
        word(WORK, "", " 0 0;", "cut");
        word(WORK, "", " 0 0 sun;", "alter");
        word(WORK, "", " 2[turn 0;];", "again");
        word(SHOP, "", " 1;", "client seam hands");
        word(SHOP, "client 0;", " sun 1;", "bolt");
        word(SHOP, "client 0;", " 0 0 0 sun 1;", "wants");
        word(SHOP, "client 0;", " 0 0 1 0 1;", "order");
        word(PATTERN, "", " 2[6 sun;];", "again");
        for (String one : new String[] {"hour", "kind", "age", "day", "client", "seams"}) {
            good(LAW, one);
            good(LAW, "1 - " + one + "*2");
            bad(LAW, "1 + " + one + "s", 1, 4);
            bad(LAW, "1 + " + one.substring(1), 1, 4);
            bad(LAW, "1 + " + one.substring(0, one.length() - 1), 1, 4);
            bad(LAW, one + " " + one, 1, one.length() + 1);
        }
        word(LAW, "1 + ", " [ 1 , 2 ]", "least most");
        // words of one list are none of another
        bad(SHOP, "sun 1;", 1, 0);
        bad(SHOP, "day;", 1, 0);
        bad(SHOP, "again 2[seam 1;];", 1, 0);
        bad(PATTERN, "12 hour;", 1, 3);
        bad(PATTERN, "day 12;", 1, 0);
        bad(LAW, "sun", 1, 0);
        bad(LAW, "again 2[1]", 1, 0);
        bad(WORK, "wants 0;", 1, 0);
        bad(WORK, "3 sun;", 1, 0);
        bad(BOOK, "again 2[1 sun;];", 1, 0);
        bad(BOOK, "sun;", 1, 0);
    }

    /** The beginnings of the words, numbers and signs of a text. */
    private static List<Integer> tokens(String text) {
        List<Integer> begin = new ArrayList<>();
        for (int i = 0; i < text.length(); i++) {
            char sign = text.charAt(i);
            boolean same = i > 0 && (isLetter(sign) && isLetter(text.charAt(i - 1)) || isDigit(sign) && isDigit(text.charAt(i - 1)));
            begin.add(sign == ' ' ? -1 : same ? begin.get(i - 1) : i);
        }
        return begin;
    }

    private static boolean isLetter(char sign) {
        return sign >= 'a' && sign <= 'z';
    }

    private static boolean isDigit(char sign) {
        return sign >= '0' && sign <= '9';
    }

    private static final String[][] TEXTS = {
        {SHOP, "  bolt sun 11 ;client 1;wants 0 1 11 frost 1;order 0 1 10 100 10 ;seam 1;hands 11; "},
        {PATTERN, "1 sun;again 3[ 1 rain;again 1 [2 fog; ] ; ];1 grey ;1 wind;"},
        {PATTERN, "again 12[again 0 [10 sun;];1 rain;]; "},
        {LAW, " ( 10 - least [hour,12] ) * 3 / most[ kind , age%2 ] + seams - client*day "},
        {WORK, "cut 0 10;alter 1 11 frost ;again 11[ turn 0;day;again 1 [strip 1;sell 1;];] ; day;"},
        {BOOK, " 10 sun;0 rain; 2 frost ;11 fog;  "},
    };

    /** Each text cut short behind each of its bytes: a fault at the length, or at a word that has become none. */
    private static void textsCutShort() {
        for (String[] one : TEXTS) {
            String kind = one[0];
            String text = kind.equals(WORK) ? one[1].replace("cut 0 10", "cut 0 5") : one[1];
            List<Integer> begin = tokens(text);
            good(kind, text);
            for (int n = 0; n < text.length(); n++) {
                String cut = text.substring(0, n);
                boolean inWord = n > 0 && isLetter(text.charAt(n)) && isLetter(text.charAt(n - 1));
                if (inWord) {
                    bad(kind, cut, 1, begin.get(n - 1));
                } else if (kind.equals(LAW) ? isWhole(cut) : isDone(cut)) {
                    if (kind.equals(PATTERN) && !cut.strip().equals(text.strip())) {
                        bad(kind, cut, 4, n);
                    } else {
                        good(kind, cut);
                    }
                } else {
                    bad(kind, cut, 1, n);
                }
            }
        }
    }

    /** Whether a text of rows ends behind the sign that ends one, with no [ open. */
    private static boolean isDone(String text) {
        String all = text.strip();
        int open = 0;
        for (char sign : all.toCharArray()) {
            open += sign == '[' ? 1 : sign == ']' ? -1 : 0;
        }
        return open == 0 && (all.isEmpty() || all.endsWith(";"));
    }

    /** Whether a law ends behind a value, with no ( or [ open. */
    private static boolean isWhole(String text) {
        String all = text.strip();
        int open = 0;
        for (char sign : all.toCharArray()) {
            open += sign == '[' || sign == '(' ? 1 : sign == ']' || sign == ')' ? -1 : 0;
        }
        return open == 0 && !all.isEmpty() && !all.endsWith("least") && !all.endsWith("most")
            && (")]".indexOf(all.charAt(all.length() - 1)) >= 0 || Character.isLetterOrDigit(all.charAt(all.length() - 1)));
    }

    /** A byte that can't stand anywhere, put in the place of each byte of each text. */
    private static void foreignBytes() {
        char[] foreign = {'!', '\t', '\n', (char) 0, (char) 127, (char) 160, (char) 255, 'A', 'Z', '@', '`', '{', '<', '.', '&'};
        for (String[] one : TEXTS) {
            String kind = one[0];
            String text = kind.equals(WORK) ? one[1].replace("cut 0 10", "cut 0 5") : one[1];
            List<Integer> begin = tokens(text);
            for (int i = 0; i < text.length(); i++) {
                String changed = text.substring(0, i) + foreign[i % foreign.length] + text.substring(i + 1);
                boolean inWord = i > 0 && isLetter(text.charAt(i)) && isLetter(text.charAt(i - 1));
                bad(kind, changed, 1, inWord ? begin.get(i) : i);
            }
            bad(kind, text + "\t", 1, text.length());
        }
    }

    /** Blanks ahead of all words, numbers and signs, as many as one likes, or as few as can be. */
    private static void blanks() {
        String[][] same = {
            {SHOP, "bolt sun 9;client 1;wants 0 0 1 fog 3;order 0 5 9 9 9;seam 0;", "bolt sun9;client1;wants0 0 1fog3;order0 5 9 9 9;seam0;"},
            {PATTERN, "again 2 [3 sun;3 fog;];", "again2[3sun;3fog;];"},
            {LAW, "least [hour , 3] + (4 * age) % 7", "least[hour,3]+(4*age)%7"},
            {WORK, "cut 1 0;alter 1 2 rain;again 2 [day;];", "cut1 0;alter1 2rain;again2[day;];"},
            {BOOK, "3 sun;4 fog;", "3sun;4fog;"},
        };
        for (String[] one : same) {
            StringBuilder wide = new StringBuilder();
            List<Integer> begin = tokens(one[1]);
            for (int i = 0; i < one[1].length(); i++) {
                wide.append(begin.get(i) == i ? "  " : "").append(one[1].charAt(i));
            }
            SkyTailor x = shop();
            SkyTailor y = shop();
            SkyTailor z = shop();
            int answer = read(x, one[0], one[1]);
            due(answer >= 0, true);
            due(read(y, one[0], one[2]), answer);
            due(read(z, one[0], wide + "    "), answer);
            due(state(y), state(x));
            due(state(z), state(x));
        }
        // digits as many as stand there are one number, letters one word
        bad(BOOK, "1 1 sun;", 1, 2);
        bad(SHOP, "client 1 1;", 1, 9);
        bad(SHOP, "client 0;wants 00 0 sun 1;", 1, 20);
        bad(PATTERN, "12sunagain 0[];", 1, 2);
        bad(WORK, "daydays;", 1, 0);
        bad(LAW, "hourhour", 1, 0);
        bad(LAW, "1 2", 1, 2);
    }

    private static String filled(String text, String last, int length) {
        return text + " ".repeat(length - text.length() - last.length()) + last;
    }

    private static void lengths() {
        // the last byte that is allowed is read
        longest(SHOP, 600, "client 1;client 2", ";");
        longest(PATTERN, 100, "6 sun;6 rain", ";");
        longest(LAW, 150, "( hour - 3", ")");
        longest(WORK, 200, "day;day", ";");
        longest(BOOK, 100, "3 sun;4 rain", ";");
        // texts that are full of what counts
        SkyTailor x = shop();
        due(read(x, PATTERN, "again 0[1sun;1sun;1sun;];" + "1fog;".repeat(12) + "again 0[1sun;];"), 1);
        due(read(x, LAW, "1" + "+1".repeat(74) + " "), 1);
        due(read(x, LAW, "1" + "*hour".repeat(29) + "+hou"), -9);
        due(read(x, LAW, "1" + "*hour".repeat(29) + "+age"), 1);
        due(read(x, LAW, "((((((" + "1+".repeat(68) + "1" + "))))))"), 1);
        due(read(x, WORK, "day;".repeat(50)), 50);
        due(read(x, BOOK, "0sun;1sun;2sun;3sun;4sun;5sun;6sun;7sun;8sun;9sun;10sun;11sun;"), 12);
        String sixty = "client0;".repeat(6) + "bolt frost60;".repeat(10) + "wants 5 0 11fog 9;".repeat(12) + "seam9;".repeat(32);
        due(sixty.length() < 600, true);
        due(read(x, SHOP, sixty), 6);
        due(x.told(0), 10);
        due(x.told(2), 12);
        due(read(x, SHOP, filled(sixty + "seam9", ";", 600)), -7);
        due(x.fault(), sixty.length());
        due(x.told(2), 12);
    }

    private static void longest(String kind, int length, String text, String last) {
        SkyTailor x = shop();
        tell(x, filled(text, last, length) + "!");
        due(read(x, kind, length) >= 0, true);
        due(x.fault(), -1);
        due(x.count(1), 0);
        // one less: the last byte is not read, and the text ends too early
        SkyTailor y = shop();
        tell(y, filled(text, last, length));
        due(read(y, kind, length - 1), -9);
        due(y.fault(), length - 1);
        due(y.count(1), 0);
        due(state(y), state(shop()));
        if (length < 600) {
            SkyTailor z = shop();
            tell(z, filled(text, last, length) + "  ");
            int bytes = z.count(1);
            noArgument(() -> read(z, kind, length + 1));
            due(z.count(1), bytes);
            due(state(z), state(shop()));
        }
    }

    private static void emptyTexts() {
        for (String none : new String[] {"", " ", "     "}) {
            int n = none.length();
            SkyTailor x = shop();
            due(pattern(x, 0, none), -6);
            due(x.fault(), n);
            due(law(x, none), -9);
            due(x.fault(), n);
            due(state(x), state(shop()));
            due(work(x, none), 0);
            due(x.fault(), -1);
            due(x.count(2), 2);
            due(x.told(8), 0);
            due(book(x, none), 0);
            due(x.fault(), -1);
            due(x.told(7), 0);
            due(x.skies(0), 4095);
            due(shop(x, none), 0);
            due(x.fault(), -1);
            due(state(x), state(new SkyTailor()));
        }
        // the tape is empty then, though n is 0
        SkyTailor y = shop();
        tell(y, "client 1;");
        due(y.law(0), -9);
        due(y.count(1), 0);
        tell(y, "client 1;");
        due(y.shop(0), 0);
        due(y.count(1), 0);
        due(y.told(1), 0);
    }

    private static void clauses(String ahead, String clause, int most) {
        good(SHOP, ahead + clause.repeat(most));
        int length = ahead.length() + most * clause.length();
        String full = ahead + clause.repeat(most);
        String name = clause.substring(0, clause.indexOf(' '));
        // at its word, whatever stands behind it
        bad(SHOP, full + clause, 3, length);
        bad(SHOP, full + "   " + clause, 3, length + 3);
        bad(SHOP, full + name, 3, length);
        bad(SHOP, full + name + " 99999 !", 3, length);
        // other clauses may come behind
        if (most < 59) {
            good(SHOP, full + "seam 2;hands 2;");
        }
        bad(SHOP, full + name + "s" + " 1;", 1, length);
    }

    private static void tooMany() {
        clauses("", "bolt fog 3;", 10);
        clauses("", "client 3;", 6);
        clauses("client 3;", "wants 0 3 4 fog 3;", 16);
        clauses("client 3;", "order 0 0 3 3 3;", 8);
        clauses("", "seam 3;", 60);
        // 60 clauses of all kinds; a 61st is one too many at its word, if it is one
        String most = "client0;".repeat(2) + "bolt fog1;".repeat(8) + "seam1;".repeat(25) + "hands1;".repeat(25);
        good(SHOP, most);
        good(SHOP, most + "  ");
        for (String one : new String[] {"client 0;", "bolt sun 1;", "seam 1;", "hands 8;", "wants 0 0 0 sun 1;", "order 0 0 1 1 1;"}) {
            bad(SHOP, most + one, 3, most.length());
            bad(SHOP, most + " " + one, 3, most.length() + 1);
        }
        bad(SHOP, most + "seams 1;", 1, most.length());
        bad(SHOP, most + ";", 1, most.length());
        bad(SHOP, most + "1", 1, most.length());
        // lines of a book: the 12th is one, a 13th has an hour that stands ahead
        String lines = "11fog;10fog;9fog;8fog;7fog;6fog;5fog;4fog;3fog;2fog;1fog;";
        good(BOOK, lines);
        good(BOOK, lines + "0fog;");
        for (int hour = 0; hour < 12; hour++) {
            bad(BOOK, lines + "0fog; " + hour + "fog;", 2, lines.length() + 6);
        }
        bad(BOOK, lines + "0fog;12fog;", 2, lines.length() + 5);
        bad(BOOK, lines + "0fog;fog;", 1, lines.length() + 5);
    }

    /** Six ( least most again may be open at one time, a 7th not; those that are closed do not count. */
    private static void openAtOneTime() {
        good(PATTERN, "again 1[".repeat(6) + "12 sun;" + "];".repeat(6));
        bad(PATTERN, "again 1[".repeat(7) + "12 sun;" + "];".repeat(7), 3, 48);
        bad(PATTERN, "again 1[".repeat(6) + "12 sun; again 99", 3, 56);
        bad(PATTERN, "again 1[".repeat(6) + "again", 3, 48);
        bad(PATTERN, "again 1[".repeat(6) + "agains", 1, 48);
        good(PATTERN, "again 0[".repeat(6) + "];".repeat(6) + "again 1[again 1[again 1[12 sun;];];];");
        bad(PATTERN, "again0[".repeat(6) + "];".repeat(6) + "again0[".repeat(6), 1, 96);
        good(WORK, "again 1[".repeat(6) + "day;" + "];".repeat(6));
        bad(WORK, "again 1[".repeat(7) + "day;" + "];".repeat(7), 3, 48);
        bad(WORK, "again 1[".repeat(6) + "day;  again 99", 3, 54);
        bad(WORK, "again 1[".repeat(6) + "agains", 1, 48);
        String closed = "again 0[".repeat(6) + "];".repeat(6);
        good(WORK, closed + closed);
        bad(WORK, closed + "again 0[".repeat(7), 3, 60 + 48);
        good(WORK, "again 0[".repeat(5) + "again 0[];again 0[];again 0[];" + "];".repeat(5));
        String[] opens = {"(", "least[", "most["};
        String[] closes = {")", ",1]", ",1]"};
        for (int drawn = 0; drawn < 27; drawn++) {
            StringBuilder open = new StringBuilder();
            StringBuilder close = new StringBuilder();
            for (int i = 0, rest = drawn; i < 6; i++, rest = i == 3 ? drawn : rest / 3) {
                open.append(opens[rest % 3]);
                close.insert(0, closes[rest % 3]);
            }
            good(LAW, open + "1" + close);
            good(LAW, open + "1" + close + "+" + open + "1" + close);
            for (String seventh : opens) {
                bad(LAW, open + " " + seventh, 3, open.length() + 1);
                bad(LAW, open + "1" + close + "-" + open + seventh + "1", 3, 2 * open.length() + close.length() + 2);
            }
            bad(LAW, open + "leasts[", 1, open.length());
        }
        // in the second place of a least or a most, too
        bad(LAW, "most[1,".repeat(6) + "(1)" + "]".repeat(6), 3, 42);
        good(LAW, "most[1,".repeat(6) + "1" + "]".repeat(6));
        good(LAW, "least[(((((1))))),(((((1)))))]");
        bad(LAW, "least[(((((1))))),((((((1))))))]", 3, 23);
    }

    /** Patterns that make too many hours, or too few. */
    private static void patternHours() {
        bad(PATTERN, "again 12[1 sun;];1 sun;", 4, 17);
        bad(PATTERN, "6 sun;7 sun;", 4, 6);
        bad(PATTERN, "6 sun;6 sun;  1 sun;", 4, 14);
        bad(PATTERN, "12 sun;12 sun;", 4, 7);
        // the number is looked at ahead of the word behind it, and of the sign
        bad(PATTERN, "6 sun;7", 4, 6);
        bad(PATTERN, "6 sun;7 snow", 4, 6);
        // of one again by itself, once, though it is told 0 times
        bad(PATTERN, "12 sun;again 0[6 sun;7 sun;];", 4, 21);
        good(PATTERN, "12 sun;again 0[6 sun;6 sun;];");
        good(PATTERN, "12 sun;again 12[];");
        good(PATTERN, "12 sun;again 12[again 12[];again 0[12 fog;];];");
        bad(PATTERN, "12 sun;again 1[1 sun;];", 4, 7);
        bad(PATTERN, "12 sun; again 1[1 sun;]", 4, 8);
        // looked at behind its ]: what is wrong ahead of that goes first, what is wrong behind it does not
        bad(PATTERN, "12 sun;again 2[12 sun;", 1, 22);
        bad(PATTERN, "12 sun;again 2[12 sun;1", 4, 22);
        bad(PATTERN, "12 sun;again 2[12 sun;x];", 1, 22);
        bad(PATTERN, "12 sun;again 2[12 sun;]x", 4, 7);
        bad(PATTERN, "12 sun;again 2[12 sun;]", 4, 7);
        bad(PATTERN, "again 2[7 sun;];", 4, 0);
        good(PATTERN, "again 2[6 sun;];");
        bad(PATTERN, "again 2[6 sun;];again 1[1 sun;];", 4, 16);
        // in the row it is in: one that stands in another again
        bad(PATTERN, "again 1[6 sun;again 7[1 sun;];];", 4, 14);
        good(PATTERN, "again 1[6 sun;again 6[1 sun;];];");
        bad(PATTERN, "again 2[6 sun;again 6[1 sun;];];", 4, 0);
        bad(PATTERN, "1 fog;again 1[6 sun;again 6[1 sun;];];", 4, 6);
        bad(PATTERN, "again 0[6 sun;again 7[1 sun;];];12 sun;", 4, 14);
        // an again makes M times what it holds, no more and no less
        bad(PATTERN, "again 3[3 sun;];", 4, 16);
        bad(PATTERN, "again 11[1 sun;];", 4, 17);
        bad(PATTERN, "again 0[12 sun;];", 4, 17);
        bad(PATTERN, "again 12[];  ", 4, 13);
        bad(PATTERN, "11 sun;", 4, 7);
        // too few is looked at behind all else
        bad(PATTERN, "11 sun;x", 1, 7);
        bad(PATTERN, "11 sun", 1, 6);
        bad(PATTERN, "11 sun;]", 1, 7);
    }

    /** The first from the left counts; of one place the least. */
    private static void firstFault() {
        bad(SHOP, "bolt sun 0;bolt snow 1;client", 2, 9);
        bad(SHOP, "bolt snow 0;", 1, 5);
        bad(SHOP, "client 1;wants 9 99 0 snow 0", 2, 15);
        bad(SHOP, "client 1;wants 0 9 3 snow 0", 2, 19);
        bad(SHOP, "client 1;order 0 9 99 9999 99", 2, 17);
        bad(WORK, "cut 9 9;", 2, 4);
        bad(WORK, "alter 0 12 snow;", 2, 8);
        bad(WORK, "again 21[day", 2, 6);
        bad(WORK, "again 20[cut 0 6;];days;", 2, 15);
        bad(BOOK, "12 snow;", 2, 0);
        bad(BOOK, "1 snow;1 sun;", 1, 2);
        bad(LAW, "1000 + sun", 2, 0);
        bad(LAW, "sun + 1000", 1, 0);
        bad(LAW, "((((((1000 + (", 2, 6);
        bad(LAW, "((((((1 + ( 1000", 3, 10);
        bad(PATTERN, "13 snow", 2, 0);
        bad(PATTERN, "again 13 12 sun", 2, 6);
        // a closing sign that nothing opened, one that is not the one due
        bad(PATTERN, "12 sun;]", 1, 7);
        bad(WORK, "]", 1, 0);
        bad(WORK, "again 2[day;];];", 1, 14);
        bad(WORK, "again 2(day;);", 1, 7);
        bad(LAW, "(1]", 1, 2);
        bad(LAW, "least[1,2)", 1, 9);
        bad(LAW, "least[1;2]", 1, 7);
        bad(LAW, "()", 1, 1);
        bad(LAW, "least[,1]", 1, 6);
        bad(LAW, "most[1,]", 1, 7);
        bad(LAW, "1+", 1, 2);
        bad(LAW, "*1", 1, 0);
        bad(LAW, "1+*1", 1, 2);
        bad(LAW, "1;", 1, 1);
        bad(LAW, "1,1", 1, 1);
        bad(LAW, "1]", 1, 1);
    }

    /** Behind a fault all five texts, images and works are as they were; a text without one works as ever. */
    private static void faultsLeaveAll() {
        SkyTailor x = shop();
        due(shop(x, "client 1;client 2;bolt"), -9);
        due(pattern(x, 0, "12 rain;1 sun;"), -6);
        due(pattern(x, 5, "11 rain;"), -6);
        due(law(x, "1+1+"), -9);
        due(work(x, "turn 0;strip 0;day;again"), -9);
        due(book(x, "5 fog;5 fog;"), -8);
        due(state(x), state(shop()));
        for (int what = 0; what < 3; what++) {
            due(x.status(what), 0);
        }
        SkyTailor twin = shop();
        due(x.undo(), twin.undo());
        due(state(x), state(twin));
        due(x.restore(), twin.restore());
        due(state(x), state(twin));
        due(x.undo(), twin.undo());
        due(state(x), state(twin));
    }

    /** A text is read as if no other had been: seams and hands without being told, laws, patterns, books. */
    private static void textsByThemselves() {
        SkyTailor x = new SkyTailor();
        due(shop(x, "seam 9;hands 24;client 0;bolt fog 9;wants 0 0 3 sun 1;order 0 0 1 1 1;"), 1);
        due(shop(x, "seam 7;hands 3;bolt"), -9);
        due(shop(x, "client 0;order 0 0 1 5 17;order 0 0 1 3 16;"), 1);
        due(pattern(x, 0, "6 sun;6 fog;"), 2);
        due(x.tries(0, 0), -1);
        due(x.sewn(3, 1), 2);
        due(x.told(0), 0);
        due(x.told(2), 0);
        due(x.told(3), 2);
        due(pattern(x, 1, "11 sun;"), -6);
        due(pattern(x, 1, "1 fog;"), -6);
        due(pattern(x, 1, "12 rain;"), 1);
        due(sky(x, 1), "111111111111");
        due(book(x, "0 sun;1 sun;"), 2);
        due(book(x, "1 fog;x"), -9);
        due(book(x, "1 fog;"), 1);
        due(x.skies(0), 252);
        due(shop(x, "bolt sun 60;client 0;"), 1);
        pattern(x, 0, "12 sun;");
        work(x, "cut 0 0;");
        for (int i = 0; i < 4; i++) {
            due(law(x, "0" + "+1-1".repeat(37)), 1);
            due(x.ahead(0, 1, 0), 0);
            due(law(x, "1" + "+1-1".repeat(36) + "+"), -9);
            due(x.ahead(0, 1, 0), 0);
            due(law(x, "1" + "+1-1".repeat(37)), 1);
            due(x.ahead(0, 1, 0), 12);
        }
        due(law(x, "hour - 9"), 1);
        due(x.ahead(0, 1, 0), 2);
    }

    private static void latestFault() {
        SkyTailor x = shop();
        String[] kinds = {SHOP, PATTERN, LAW, WORK, BOOK};
        String[] goods = {"client 1;order 0 0 1 1 1;", "12 sun;", "1", "turn 0;", "1 sun;"};
        for (int i = 0; i < 5; i++) {
            for (int j = 0; j < 5; j++) {
                due(read(x, kinds[i], " ".repeat(i + 1) + "!"), -9);
                due(x.fault(), i + 1);
                due(read(x, kinds[j], goods[j]) >= 0, true);
                due(x.fault(), -1);
            }
        }
        // an empty text has its fault at 0
        due(law(x, ""), -9);
        due(x.fault(), 0);
        x.undo();
        x.image();
        x.restore();
        x.feed(1, 2, 3, 4, 5);
        noArgument(() -> x.told(10));
        noElement(() -> x.pattern(6, 20));
        noArgument(() -> x.book(21));
        due(x.fault(), 0);
    }
}
