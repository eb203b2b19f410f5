import java.util.ArrayList;
import java.util.List;
import java.util.NoSuchElementException;

/** Runs of drawn calls, on SkyTailor and on the model at once: each answer must be the same. */
public final class ModelTest {
    private static final int RUNS = 800;
    /** A run goes on up to here; what comes last in it makes no more than 512. */
    private static final int CALLS = 420;

    private long seed;
    private int calls;
    private SkyTailor x;
    private Model m;
    private final List<String> said = new ArrayList<>();

    interface Call {
        long answer();
    }

    private int pick(int many) {
        seed = seed * 6364136223846793005L + 1442695040888963407L;
        return (int) ((seed >>> 33) % many);
    }

    private boolean chance(int of100) {
        return pick(100) < of100;
    }

    /** Mostly within 0 to many - 1, sometimes just out of it. */
    private int about(int many) {
        return chance(94) && many > 0 ? pick(many) : pick(many + 3) - 1;
    }

    private static String answerOf(Call call) {
        try {
            return Long.toString(call.answer());
        } catch (NoSuchElementException e) {
            return "throws NoSuchElementException";
        } catch (IllegalArgumentException e) {
            return "throws IllegalArgumentException";
        } catch (IllegalStateException e) {
            return "throws IllegalStateException";
        }
    }

    private void same(String name, Call mine, Call due) {
        calls++;
        String got = answerOf(mine);
        String want = answerOf(due);
        said.add(name + " = " + want);
        if (!got.equals(want)) {
            said.forEach(System.out::println);
            System.out.println("answered " + got);
            throw new AssertionError(name);
        }
    }

    // ---- texts ----

    private String blanks() {
        return chance(85) ? "" : " ".repeat(1 + pick(2));
    }

    private String kind() {
        return " " + Model.KINDS.get(chance(92) ? pick(3) : pick(6));
    }

    private String number(int least, int most) {
        return " " + (chance(99) ? "" : "0") + (least + pick(most - least + 1));
    }

    private String shopText() {
        StringBuilder s = new StringBuilder();
        int clients = 1 + pick(6);
        int bolts = chance(90) ? 6 + pick(5) : pick(5);
        for (int i = 0; i < bolts; i++) {
            String kind = chance(50) ? " " + Model.KINDS.get(i % 3) : kind();
            s.append("bolt").append(kind).append(chance(30) ? number(1, 14) : number(1, 60)).append(";");
        }
        for (int i = 0; i < clients; i++) {
            s.append("client ").append(pick(3)).append(blanks()).append(";");
        }
        int wants = pick(17);
        for (int i = 0; i < wants; i++) {
            int f = pick(12);
            int t = Math.min(11, f + pick(6));
            s.append("wants ").append(pick(clients)).append(" ").append(f).append(" ").append(t).append(kind())
                .append(number(1, 9)).append(";");
        }
        int orders = pick(9);
        for (int i = 0; i < orders; i++) {
            s.append("order ").append(pick(clients)).append(number(0, chance(90) ? 3 : 5)).append(number(1, chance(50) ? 6 : 60))
                .append(number(0, chance(50) ? 5 : 999)).append(number(1, 24)).append(";");
        }
        if (chance(70)) {
            s.append("seam").append(number(0, chance(70) ? 3 : 9)).append(";");
        }
        if (chance(70)) {
            s.append("hands").append(number(1, 24)).append(";");
        }
        return s.toString();
    }

    private String parts(int hours, int depth) {
        StringBuilder s = new StringBuilder();
        int left = hours;
        while (left > 0) {
            int n = 1 + pick(Math.min(left, 5));
            int times = left / n > 1 ? 2 + pick(left / n - 1) : 1;
            if (depth < 6 && chance(30)) {
                s.append("again ").append(times).append(blanks()).append("[").append(parts(n, depth + 1)).append("];");
                left -= n * times;
            } else {
                s.append(n).append(blanks()).append(kind()).append(blanks()).append(";");
                left -= n;
            }
            if (chance(4)) {
                s.append("again 0[").append(parts(1 + pick(12), 6)).append("];");
            }
        }
        return s.toString();
    }

    private String lawText(int depth) {
        int form = pick(depth > 4 ? 4 : 10);
        if (form == 0) {
            return number(0, chance(70) ? 9 : 999);
        }
        if (form < 4) {
            return List.of("hour", "kind", "age", "day", "client", "seams").get(pick(6));
        }
        String a = lawText(depth + 1);
        String b = lawText(depth + 1);
        if (form == 4) {
            return "(" + a + blanks() + ")";
        }
        if (form == 5) {
            return (chance(50) ? "least" : "most") + blanks() + "[" + a + "," + b + "]";
        }
        return a + blanks() + "+-*/%".charAt(pick(5)) + b;
    }

    private String steps(int depth, int many) {
        StringBuilder s = new StringBuilder();
        for (int i = 0; i < many; i++) {
            int clients = Math.max(1, m.clients.size());
            switch (pick(depth < 4 ? 9 : 8)) {
                case 0:
                case 1:
                case 2:
                    s.append("cut ").append(pick(clients)).append(number(0, chance(90) ? 3 : 5));
                    break;
                case 3:
                    s.append("alter ").append(pick(clients)).append(number(0, 11)).append(kind());
                    break;
                case 4:
                    s.append("turn ").append(pick(clients));
                    break;
                case 5:
                    s.append(chance(50) ? "strip " : "day").append(s.charAt(s.length() - 1) == ' ' ? "" + pick(clients) : "");
                    break;
                case 6:
                    int order = pick(Math.max(1, m.orders.size()));
                    if (order < m.orders.size() && chance(70)) {
                        int[] o = m.orders.get(order);
                        s.append(chance(50) ? "strip " + o[0] + ";" : "").append("cut ").append(o[0]).append(" ").append(o[1])
                            .append(";");
                    }
                    s.append("sell ").append(order);
                    break;
                case 7:
                    s.append("day");
                    break;
                default:
                    s.append("again").append(number(0, chance(80) ? 3 : 20)).append("[")
                        .append(steps(depth + 1, pick(4))).append("]");
                    break;
            }
            s.append(blanks()).append(";");
        }
        return s.toString();
    }

    private String bookText() {
        StringBuilder s = new StringBuilder();
        int lines = chance(70) ? pick(4) : pick(13);
        int from = pick(12);
        String sky = m.patterns[pick(3)];
        int later = pick(12);
        for (int i = 0; i < lines; i++) {
            int hour = (from + i * 5) % 12;
            String kind = sky == null || chance(10) ? kind() : " " + Model.KINDS.get(sky.charAt((hour + later) % 12) - '0');
            s.append(hour).append(kind).append(";");
        }
        return s.toString();
    }

    /** Now and then a text is spoilt: a sign less, more or another, or it is cut off. */
    private String spoil(String text, int of100) {
        StringBuilder s = new StringBuilder(text);
        while (chance(of100)) {
            int at = pick(s.length() + 1);
            String signs = " ;[](),0123456789abcdefghijklmnopqrstuvwxyz+-*%/" + (char) 200 + (char) 9;
            String words = "again 3 [;12 sun;client 9;most [least [( bolt fog 2;day;1 rain;";
            switch (pick(6)) {
                case 0:
                    s.insert(at, signs.charAt(pick(signs.length())));
                    break;
                case 1:
                    s.delete(at, Math.min(s.length(), at + 1));
                    break;
                case 2:
                    s.setLength(at);
                    break;
                case 3:
                    int from = pick(words.length());
                    s.insert(at, words, from, Math.min(words.length(), from + pick(10)));
                    break;
                case 4:
                    s.insert(at, "again 1 [");
                    break;
                default:
                    if (at < s.length()) {
                        s.setCharAt(at, signs.charAt(pick(signs.length())));
                    }
                    break;
            }
        }
        return s.toString();
    }

    private int tell(String text) {
        said.add("-- " + text);
        for (int i = 0; i < text.length() && i < 640; i += 20) {
            int[] n = new int[5];
            for (int j = 0; j < 20; j++) {
                n[j / 4] = n[j / 4] << 8 | (i + j < text.length() ? text.charAt(i + j) : 0);
            }
            same("feed", () -> x.feed(n[0], n[1], n[2], n[3], n[4]), () -> m.feed(n[0], n[1], n[2], n[3], n[4]));
        }
        return chance(98) ? text.length() : text.length() + pick(30) - 15;
    }

    private void shop(int of100) {
        int n = tell(spoil(shopText(), of100));
        same("shop " + n, () -> x.shop(n), () -> m.shop(n));
        fault();
    }

    private void fault() {
        same("fault", () -> x.fault(), () -> m.fault());
    }

    private void pattern(int of100) {
        int p = chance(80) ? 3 + pick(2) : about(6);
        int n = tell(spoil(parts(chance(98) ? 12 : 11 + pick(3), 0), of100));
        same("pattern " + p + " " + n, () -> x.pattern(p, n), () -> m.pattern(p, n));
        fault();
    }

    private void law() {
        String text = lawText(0);
        if (chance(70)) {
            text = "(" + text + ") %" + number(2, 9) + "-" + number(0, 7);
        }
        int n = tell(spoil(text, 15));
        same("law " + n, () -> x.law(n), () -> m.law(n));
        fault();
    }

    private void work() {
        int n = tell(spoil(steps(0, 1 + pick(8)), 12));
        same("work " + n, () -> x.work(n), () -> m.work(n));
        fault();
        calls += 12 * m.clients.size();
        same("all that is worn", () -> worn((c, h) -> x.wears(c, h)), () -> worn((c, h) -> m.wears(c, h)));
    }

    interface Worn {
        int at(int client, int hour);
    }

    /** All hours of all suits as one number. */
    private long worn(Worn worn) {
        long all = 0;
        for (int c = 0; c < m.clients.size(); c++) {
            for (int h = 0; h < 12; h++) {
                all = all * 1000003 + worn.at(c, h) + 2;
            }
        }
        return all;
    }

    private void book() {
        int n = tell(spoil(bookText(), 15));
        same("book " + n, () -> x.book(n), () -> m.book(n));
        fault();
    }

    // ---- calls ----

    private void ask() {
        int a = about(6);
        int b = about(6);
        int what = about(8);
        int hour = about(12);
        int bits = chance(90) ? pick(1 << m.orders.size()) : pick(600) - 40;
        switch (pick(30)) {
            case 0:
                same("told " + (hour - 1), () -> x.told(hour - 1), () -> m.told(hour - 1));
                break;
            case 1:
                same("bolt " + hour + " " + b / 2, () -> x.bolt(hour, b / 2), () -> m.bolt(hour, b / 2));
                break;
            case 2:
                same("client " + a + " " + what, () -> x.client(a, what), () -> m.client(a, what));
                break;
            case 3:
                same("want " + hour + " " + b, () -> x.want(hour, b), () -> m.want(hour, b));
                break;
            case 4:
                same("order " + what + " " + b, () -> x.order(what, b), () -> m.order(what, b));
                break;
            case 5:
                same("wears " + a + " " + hour, () -> x.wears(a, hour), () -> m.wears(a, hour));
                break;
            case 6:
                same("sky " + a + " " + hour, () -> x.sky(a, hour), () -> m.sky(a, hour));
                break;
            case 7:
                int third = about(3);
                same("cloth " + a + " " + third, () -> x.cloth(a, third), () -> m.cloth(a, third));
                break;
            case 8:
                same("can " + a + " " + b, () -> x.can(a, b) ? 1 : 0, () -> m.can(a, b) ? 1 : 0);
                break;
            case 9:
                same("ready " + what, () -> x.ready(what) ? 1 : 0, () -> m.ready(what) ? 1 : 0);
                break;
            case 10:
                same("fit " + a, () -> x.fit(a), () -> m.fit(a));
                break;
            case 11:
                same("tries " + a + " " + b, () -> x.tries(a, b), () -> m.tries(a, b));
                break;
            case 12:
                same("best " + a, () -> x.best(a), () -> m.best(a));
                break;
            case 13:
                same("bestAt " + a + " " + hour, () -> x.bestAt(a, hour), () -> m.bestAt(a, hour));
                break;
            case 14:
                same("clashes " + a, () -> x.clashes(a), () -> m.clashes(a));
                break;
            case 15:
                int mask = a >= 0 && a < m.clients.size() && chance(90) ? m.wantsOf(a) & pick(65536) : pick(65536);
                same("mend " + a + " " + mask, () -> x.mend(a, mask), () -> m.mend(a, mask));
                break;
            case 16:
                same("pieces " + bits, () -> x.pieces(bits), () -> m.pieces(bits));
                break;
            case 17:
                same("sewn " + bits + " " + b / 2, () -> x.sewn(bits, b / 2), () -> m.sewn(bits, b / 2));
                break;
            case 18:
                int street = chance(80) ? pick(3) : about(10);
                same("words " + street, () -> x.words(street), () -> m.words(street));
                break;
            case 19:
                same("offers " + what + " " + b / 3, () -> x.offers(what, b / 3), () -> m.offers(what, b / 3));
                break;
            case 20:
                same("line " + hour, () -> x.line(hour), () -> m.line(hour));
                break;
            case 21:
                same("skies " + a, () -> x.skies(a), () -> m.skies(a));
                break;
            case 22:
                same("which", () -> x.which(), () -> m.which());
                break;
            case 23:
                same("look " + a / 2, () -> x.look(a / 2), () -> m.look(a / 2));
                break;
            case 24:
                same("tailors " + a / 2, () -> x.tailors(a / 2), () -> m.tailors(a / 2));
                break;
            case 25:
                same("gets " + a + " " + b, () -> x.gets(a, b), () -> m.gets(a, b));
                break;
            case 26:
                int days = chance(80) ? pick(8) : about(61);
                same("ahead " + a + " " + days + " " + b / 3, () -> x.ahead(a, days, b / 3), () -> m.ahead(a, days, b / 3));
                break;
            case 27:
                int q = about(17);
                int many = chance(50) ? 1 + about(20) : 1 + about(60);
                int from = pick(1 << 30) * (chance(50) ? 1 : -3);
                if (chance(50)) {
                    same("years " + from + " " + q + " " + many + " " + b / 2, () -> x.years(from, q, many, b / 2),
                        () -> m.years(from, q, many, b / 2));
                } else {
                    int order = chance(90) && m.orders.size() > 0 ? pick(m.orders.size()) : about(8);
                    int seeds = 1 + about(20);
                    same("span " + from + " " + seeds + " " + q + " " + many + " " + b / 2 + " " + order,
                        () -> x.span(from, seeds, q, many, b / 2, order), () -> m.span(from, seeds, q, many, b / 2, order));
                }
                break;
            case 28:
                same("status " + a / 2, () -> x.status(a / 2), () -> m.status(a / 2));
                break;
            default:
                same("count " + a / 2, () -> x.count(a / 2), () -> m.count(a / 2));
                break;
        }
    }

    private void change() {
        switch (pick(20)) {
            case 0:
                same("undo", () -> x.undo(), () -> m.undo());
                break;
            case 1:
                same("image", () -> x.image(), () -> m.image());
                break;
            case 2:
                if (chance(60)) {
                    same("restore", () -> x.restore(), () -> m.restore());
                }
                break;
            case 3:
                law();
                break;
            case 4:
                book();
                break;
            case 5:
            case 6:
                pattern(30);
                break;
            case 7:
                if (chance(10)) {
                    shop(30);
                }
                break;
            default:
                work();
                break;
        }
        same("told 8", () -> x.told(8), () -> m.told(8));
    }

    private void run(int run) {
        seed = 77L * run + 5;
        x = new SkyTailor();
        m = new Model();
        said.clear();
        calls = 0;
        if (chance(97)) {
            shop(chance(10) ? 15 : 0);
        }
        int told = chance(85) ? 4 : pick(5);
        for (int p = 0; p < told; p++) {
            int pattern = p;
            int n = tell(parts(12, 0));
            same("pattern " + p, () -> x.pattern(pattern, n), () -> m.pattern(pattern, n));
        }
        int changes = chance(50) ? 15 : 40;
        while (calls < CALLS) {
            if (chance(changes)) {
                change();
            } else {
                ask();
            }
        }
    }

    public static void main(String[] args) {
        ModelTest test = new ModelTest();
        int runs = args.length > 0 ? Integer.parseInt(args[0]) : RUNS;
        int first = args.length > 1 ? Integer.parseInt(args[1]) : 0;
        for (int run = first; run < first + runs; run++) {
            try {
                test.run(run);
            } catch (AssertionError e) {
                System.out.println("run " + run + " goes another way than the model at " + e.getMessage());
                System.exit(1);
            }
        }
        System.out.println(runs + " runs go as the model does");
    }
}
