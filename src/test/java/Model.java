import java.math.BigInteger;
import java.util.ArrayList;
import java.util.Arrays;
import java.util.Comparator;
import java.util.HashMap;
import java.util.List;
import java.util.Map;
import java.util.NoSuchElementException;

/** The document told once more, slowly and by other ways, so that SkyTailor can be held against it. */
final class Model {
    static final List<String> KINDS = List.of("sun", "rain", "grey", "wind", "frost", "fog");

    static final class Fault extends Exception {
        private static final long serialVersionUID = 1;

        final int kind;
        final int place;

        Fault(int kind, int place) {
            this.kind = kind;
            this.place = place;
        }
    }

    /** All that a work changes. */
    static final class Stand {
        int day;
        int pence;
        List<Integer> left = new ArrayList<>();
        Map<Integer, String> suits = new HashMap<>();
        Map<Integer, Integer> cutOn = new HashMap<>();
        List<Integer> sold = new ArrayList<>();

        Stand copy() {
            Stand s = new Stand();
            s.day = day;
            s.pence = pence;
            s.left = new ArrayList<>(left);
            s.suits = new HashMap<>(suits);
            s.cutOn = new HashMap<>(cutOn);
            s.sold = new ArrayList<>(sold);
            return s;
        }
    }

    static final class Image {
        Stand stand;
        List<Stand> works;
    }

    List<int[]> bolts = new ArrayList<>();
    List<Integer> clients = new ArrayList<>();
    List<int[]> wants = new ArrayList<>();
    List<int[]> orders = new ArrayList<>();
    int seam = 1;
    int hands = 8;
    String[] patterns = new String[6];
    Law law;
    Map<Integer, Integer> book = new HashMap<>();
    Stand now = new Stand();
    List<Stand> works = new ArrayList<>();
    List<Image> images = new ArrayList<>();
    int refusedSteps;
    String tape = "";
    int faultPlace = -1;
    int[] refused = new int[3];

    // ---- refusals ----

    void element(boolean good) {
        if (!good) {
            refused[0]++;
            throw new NoSuchElementException();
        }
    }

    void argument(boolean good) {
        if (!good) {
            refused[1]++;
            throw new IllegalArgumentException();
        }
    }

    void state(boolean good) {
        if (!good) {
            refused[2]++;
            throw new IllegalStateException();
        }
    }

    // ---- reading ----

    static final class Text {
        final String s;
        int i;

        Text(String s) {
            this.s = s;
        }

        int blank() {
            int j = i;
            while (j < s.length() && s.charAt(j) == ' ') {
                j++;
            }
            return j;
        }

        boolean end() {
            return blank() == s.length();
        }

        char peek() {
            return end() ? 0xffff : s.charAt(blank());
        }

        boolean digit() {
            return peek() >= '0' && peek() <= '9';
        }

        void eat(char c) throws Fault {
            if (peek() != c) {
                throw new Fault(1, blank());
            }
            i = blank() + 1;
        }

        int number(int least, int most) throws Fault {
            int from = blank();
            if (!digit()) {
                throw new Fault(1, from);
            }
            int to = from;
            while (to < s.length() && Character.isDigit(s.charAt(to)) && s.charAt(to) < 128) {
                to++;
            }
            i = to;
            BigInteger n = new BigInteger(s.substring(from, to));
            if (n.compareTo(BigInteger.valueOf(least)) < 0 || n.compareTo(BigInteger.valueOf(most)) > 0) {
                throw new Fault(2, from);
            }
            return n.intValue();
        }

        String word(List<String> words) throws Fault {
            int from = blank();
            int to = from;
            while (to < s.length() && s.charAt(to) >= 'a' && s.charAt(to) <= 'z') {
                to++;
            }
            if (!words.contains(s.substring(from, to))) {
                throw new Fault(1, from);
            }
            i = to;
            return s.substring(from, to);
        }

        int kind() throws Fault {
            return KINDS.indexOf(word(KINDS));
        }
    }

    int feed(int a, int b, int c, int d, int e) {
        if (tape.length() + 20 > 600) {
            return -1;
        }
        StringBuilder s = new StringBuilder(tape);
        for (int n : new int[] {a, b, c, d, e}) {
            s.append((char) (n >>> 24)).append((char) (n >> 16 & 255)).append((char) (n >> 8 & 255)).append((char) (n & 255));
        }
        tape = s.toString();
        return tape.length();
    }

    Text take(int n, int most) {
        argument(n >= 0 && n <= most && n <= tape.length());
        Text t = new Text(tape.substring(0, n));
        tape = "";
        faultPlace = -1;
        return t;
    }

    int failed(Fault f) {
        faultPlace = f.place;
        return f.kind - 10;
    }

    int shop(int n) {
        Text t = take(n, 600);
        try {
            Model m = new Model();
            int clauses = 0;
            while (!t.end()) {
                int at = t.blank();
                String w = t.word(List.of("bolt", "client", "wants", "order", "seam", "hands"));
                clauses++;
                int full = w.equals("bolt") ? 10 - m.bolts.size() : w.equals("client") ? 6 - m.clients.size()
                    : w.equals("wants") ? 16 - m.wants.size() : w.equals("order") ? 8 - m.orders.size() : 1;
                if (clauses > 60 || full <= 0) {
                    throw new Fault(3, at);
                }
                m.clause(t, w);
                t.eat(';');
            }
            bolts = m.bolts;
            clients = m.clients;
            wants = m.wants;
            orders = m.orders;
            seam = m.seam;
            hands = m.hands;
            patterns = new String[6];
            law = null;
            book = new HashMap<>();
            works = new ArrayList<>();
            images = new ArrayList<>();
            refusedSteps = 0;
            now = new Stand();
            for (int[] b : bolts) {
                now.left.add(b[1]);
            }
            return clients.size();
        } catch (Fault f) {
            return failed(f);
        }
    }

    void clause(Text t, String w) throws Fault {
        if (w.equals("bolt")) {
            bolts.add(new int[] {t.kind(), t.number(1, 60)});
        } else if (w.equals("client")) {
            clients.add(t.number(0, 9));
        } else if (w.equals("wants")) {
            int c = t.number(0, clients.size() - 1);
            int f = t.number(0, 11);
            wants.add(new int[] {c, f, t.number(f, 11), t.kind(), t.number(1, 9)});
        } else if (w.equals("order")) {
            orders.add(new int[] {t.number(0, clients.size() - 1), t.number(0, 5), t.number(1, 60), t.number(0, 999),
                t.number(1, 24)});
        } else if (w.equals("seam")) {
            seam = t.number(0, 9);
        } else {
            hands = t.number(1, 24);
        }
    }

    int pattern(int p, int n) {
        element(p >= 0 && p < 6);
        Text t = take(n, 100);
        try {
            String made = parts(t, 0);
            if (made.length() < 12) {
                throw new Fault(4, n);
            }
            patterns[p] = made;
            return runs(made).size();
        } catch (Fault f) {
            return failed(f);
        }
    }

    String parts(Text t, int open) throws Fault {
        String row = "";
        while (!t.end() && !(open > 0 && t.peek() == ']')) {
            int at = t.blank();
            if (t.digit()) {
                int n = t.number(1, 12);
                if (row.length() + n > 12) {
                    throw new Fault(4, at);
                }
                row += ("" + t.kind()).repeat(n);
            } else {
                t.word(List.of("again"));
                if (open == 6) {
                    throw new Fault(3, at);
                }
                int m = t.number(0, 12);
                t.eat('[');
                String body = parts(t, open + 1);
                t.eat(']');
                if (row.length() + m * body.length() > 12) {
                    throw new Fault(4, at);
                }
                row += body.repeat(m);
            }
            t.eat(';');
        }
        return row;
    }

    /** Runs of a row, each "kind" times its length; '.' is bare. */
    static List<String> runs(String row) {
        List<String> all = new ArrayList<>();
        for (int i = 0; i < row.length();) {
            int j = i;
            while (j < row.length() && row.charAt(j) == row.charAt(i)) {
                j++;
            }
            if (row.charAt(i) != '.') {
                all.add(row.substring(i, j));
            }
            i = j;
        }
        return all;
    }

    interface Law {
        int of(int hour, int kind, int age, int day, int client, int seams);
    }

    int law(int n) {
        Text t = take(n, 150);
        try {
            Law l = sum(t, 0);
            if (!t.end()) {
                throw new Fault(1, t.blank());
            }
            law = l;
            return 1;
        } catch (Fault f) {
            return failed(f);
        }
    }

    Law sum(Text t, int open) throws Fault {
        Law l = product(t, open);
        while (t.peek() == '+' || t.peek() == '-') {
            char c = t.peek();
            t.eat(c);
            Law a = l;
            Law b = product(t, open);
            l = c == '+' ? (h, k, g, d, p, s) -> a.of(h, k, g, d, p, s) + b.of(h, k, g, d, p, s)
                : (h, k, g, d, p, s) -> a.of(h, k, g, d, p, s) - b.of(h, k, g, d, p, s);
        }
        return l;
    }

    Law product(Text t, int open) throws Fault {
        Law l = unit(t, open);
        while (t.peek() == '*' || t.peek() == '/' || t.peek() == '%') {
            char c = t.peek();
            t.eat(c);
            Law a = l;
            Law b = unit(t, open);
            l = (h, k, g, d, p, s) -> {
                int x = a.of(h, k, g, d, p, s);
                int y = b.of(h, k, g, d, p, s);
                if (c == '*') {
                    return x * y;
                }
                if (y == 0) {
                    return 0;
                }
                return (int) (c == '/' ? (long) x / y : (long) x % y);
            };
        }
        return l;
    }

    Law unit(Text t, int open) throws Fault {
        int at = t.blank();
        if (t.digit()) {
            int n = t.number(0, 999);
            return (h, k, g, d, p, s) -> n;
        }
        if (t.peek() == '(') {
            t.eat('(');
            room(open, at);
            Law l = sum(t, open + 1);
            t.eat(')');
            return l;
        }
        String w = t.word(List.of("hour", "kind", "age", "day", "client", "seams", "least", "most"));
        switch (w) {
            case "hour":
                return (h, k, g, d, p, s) -> h;
            case "kind":
                return (h, k, g, d, p, s) -> k;
            case "age":
                return (h, k, g, d, p, s) -> g;
            case "day":
                return (h, k, g, d, p, s) -> d;
            case "client":
                return (h, k, g, d, p, s) -> p;
            case "seams":
                return (h, k, g, d, p, s) -> s;
            default:
                room(open, at);
                t.eat('[');
                Law a = sum(t, open + 1);
                t.eat(',');
                Law b = sum(t, open + 1);
                t.eat(']');
                return w.equals("least") ? (h, k, g, d, p, s) -> Math.min(a.of(h, k, g, d, p, s), b.of(h, k, g, d, p, s))
                    : (h, k, g, d, p, s) -> Math.max(a.of(h, k, g, d, p, s), b.of(h, k, g, d, p, s));
        }
    }

    static void room(int open, int at) throws Fault {
        if (open == 6) {
            throw new Fault(3, at);
        }
    }

    interface Step {
        boolean doIt();
    }

    static final class Loop {
        Step step;
        int times;
        List<Loop> body;
    }

    int begun;
    int done;
    int notDone;

    int work(int n) {
        argument(n >= 0 && n <= 200 && n <= tape.length());
        if (works.size() == 16) {
            tape = "";
            faultPlace = -1;
            return -20;
        }
        Text t = take(n, 200);
        try {
            List<Loop> steps = steps(t, 0);
            works.add(now.copy());
            begun = 0;
            done = 0;
            notDone = 0;
            doAll(steps);
            refusedSteps = notDone;
            return done;
        } catch (Fault f) {
            return failed(f);
        }
    }

    List<Loop> steps(Text t, int open) throws Fault {
        List<Loop> all = new ArrayList<>();
        while (!t.end() && !(open > 0 && t.peek() == ']')) {
            int at = t.blank();
            String w = t.word(List.of("cut", "alter", "turn", "strip", "sell", "day", "again"));
            Loop l = new Loop();
            int lastClient = clients.size() - 1;
            if (w.equals("again")) {
                room(open, at);
                l.times = t.number(0, 20);
                t.eat('[');
                l.body = steps(t, open + 1);
                t.eat(']');
            } else if (w.equals("cut")) {
                int c = t.number(0, lastClient);
                int p = t.number(0, 5);
                l.step = () -> cut(c, p);
            } else if (w.equals("alter")) {
                int c = t.number(0, lastClient);
                int h = t.number(0, 11);
                int k = t.kind();
                l.step = () -> alter(c, h, k);
            } else if (w.equals("turn")) {
                int c = t.number(0, lastClient);
                l.step = () -> now.suits.computeIfPresent(c, (x, s) -> new StringBuilder(s).reverse().toString()) != null;
            } else if (w.equals("strip")) {
                int c = t.number(0, lastClient);
                l.step = () -> now.suits.remove(c) != null;
            } else if (w.equals("sell")) {
                int o = t.number(0, orders.size() - 1);
                l.step = () -> sell(o);
            } else {
                l.step = () -> day(now);
            }
            t.eat(';');
            all.add(l);
        }
        return all;
    }

    void doAll(List<Loop> steps) {
        for (Loop l : steps) {
            if (begun == 200) {
                return;
            }
            begun++;
            if (l.body != null) {
                for (int i = 0; i < l.times; i++) {
                    doAll(l.body);
                }
            } else if (l.step.doIt()) {
                done++;
            } else {
                notDone++;
            }
        }
    }

    /** The bolts behind taking the runs of a row; null, if they can't be had. */
    List<Integer> cutOff(List<Integer> left, String row) {
        List<Integer> rest = new ArrayList<>(left);
        for (String run : runs(row)) {
            int kind = run.charAt(0) - '0';
            List<Integer> enough = new ArrayList<>();
            for (int b = 0; b < bolts.size(); b++) {
                if (bolts.get(b)[0] == kind && rest.get(b) >= run.length()) {
                    enough.add(b);
                }
            }
            if (enough.isEmpty()) {
                return null;
            }
            enough.sort(Comparator.comparing((Integer b) -> rest.get(b)).thenComparing(b -> b));
            rest.set(enough.get(0), rest.get(enough.get(0)) - run.length());
        }
        return rest;
    }

    boolean cut(int c, int p) {
        if (!canCut(c, p)) {
            return false;
        }
        now.left = cutOff(now.left, patterns[p]);
        now.suits.put(c, patterns[p]);
        now.cutOn.put(c, now.day);
        return true;
    }

    boolean canCut(int c, int p) {
        return !now.suits.containsKey(c) && patterns[p] != null && cutOff(now.left, patterns[p]) != null;
    }

    boolean alter(int c, int h, int k) {
        String suit = now.suits.get(c);
        if (suit == null || suit.charAt(h) == '0' + k) {
            return false;
        }
        List<Integer> rest = cutOff(now.left, "" + k);
        if (rest == null) {
            return false;
        }
        now.left = rest;
        now.suits.put(c, suit.substring(0, h) + k + suit.substring(h + 1));
        return true;
    }

    boolean canSell(int o) {
        int[] x = orders.get(o);
        String suit = now.suits.get(x[0]);
        return !now.sold.contains(o) && now.day <= x[2] && suit != null && suit.equals(patterns[x[1]]);
    }

    boolean sell(int o) {
        if (!canSell(o)) {
            return false;
        }
        now.sold.add(o);
        now.pence += orders.get(o)[3];
        now.suits.remove(orders.get(o)[0]);
        return true;
    }

    boolean day(Stand s) {
        if (s.day == 60) {
            return false;
        }
        s.day++;
        for (int c : new ArrayList<>(s.suits.keySet())) {
            String old = s.suits.get(c);
            StringBuilder suit = new StringBuilder(old);
            for (int h = 0; h < 12; h++) {
                int kind = old.charAt(h) == '.' ? 6 : old.charAt(h) - '0';
                if (law != null && law.of(h, kind, s.day - s.cutOn.get(c), s.day, c, seams(old)) > 0) {
                    suit.setCharAt(h, '.');
                }
            }
            s.suits.put(c, suit.toString());
        }
        return true;
    }

    int book(int n) {
        Text t = take(n, 100);
        try {
            Map<Integer, Integer> b = new HashMap<>();
            while (!t.end()) {
                int at = t.blank();
                int h = t.number(0, 11);
                if (b.containsKey(h)) {
                    throw new Fault(2, at);
                }
                b.put(h, t.kind());
                t.eat(';');
            }
            book = b;
            return b.size();
        } catch (Fault f) {
            return failed(f);
        }
    }

    int fault() {
        return faultPlace;
    }

    int undo() {
        if (works.isEmpty()) {
            return -1;
        }
        now = works.remove(works.size() - 1);
        refusedSteps = 0;
        return works.size();
    }

    // ---- told ----

    static int seams(String row) {
        int n = 0;
        for (int h = 1; h < 12; h++) {
            if (row.charAt(h) != row.charAt(h - 1)) {
                n++;
            }
        }
        return n;
    }

    static int bare(String row) {
        return (int) row.chars().filter(c -> c == '.').count();
    }

    int told(int what) {
        argument(what >= 0 && what < 10);
        return new int[] {bolts.size(), clients.size(), wants.size(), orders.size(), now.day, now.pence,
            now.left.stream().mapToInt(x -> x).sum(), book.size(), refusedSteps, now.suits.size()}[what];
    }

    int bolt(int b, int what) {
        element(b >= 0 && b < bolts.size());
        argument(what == 0 || what == 1);
        return what == 0 ? bolts.get(b)[0] : now.left.get(b);
    }

    int client(int c, int what) {
        element(c >= 0 && c < clients.size());
        argument(what >= 0 && what < 7);
        String suit = now.suits.get(c);
        if (what == 0) {
            return clients.get(c);
        }
        if (what == 6) {
            return wantsOf(c);
        }
        if (suit == null) {
            return 0;
        }
        return what == 1 ? 1 : what == 2 ? now.day - now.cutOn.get(c) : what == 3 ? bare(suit)
            : what == 4 ? seams(suit) : runs(suit).size();
    }

    int wantsOf(int c) {
        int bits = 0;
        for (int w = 0; w < wants.size(); w++) {
            if (wants.get(w)[0] == c) {
                bits |= 1 << w;
            }
        }
        return bits;
    }

    static boolean met(int[] want, String row) {
        return row != null && row.substring(want[1], want[2] + 1).chars().allMatch(c -> c == '0' + want[3]);
    }

    int want(int w, int what) {
        element(w >= 0 && w < wants.size());
        argument(what >= 0 && what < 6);
        return what < 5 ? wants.get(w)[what] : met(wants.get(w), now.suits.get(wants.get(w)[0])) ? 1 : 0;
    }

    int stateOf(int o) {
        return now.sold.contains(o) ? 1 : now.day > orders.get(o)[2] ? 2 : 0;
    }

    int order(int o, int what) {
        element(o >= 0 && o < orders.size());
        argument(what >= 0 && what < 6);
        return what < 5 ? orders.get(o)[what] : stateOf(o);
    }

    int wears(int c, int h) {
        element(c >= 0 && c < clients.size());
        argument(h >= 0 && h < 12);
        String suit = now.suits.get(c);
        return suit == null || suit.charAt(h) == '.' ? -1 : suit.charAt(h) - '0';
    }

    int sky(int p, int h) {
        element(p >= 0 && p < 6);
        argument(h >= 0 && h < 12);
        return patterns[p] == null ? -1 : patterns[p].charAt(h) - '0';
    }

    int cloth(int kind, int what) {
        argument(kind >= 0 && kind < 6);
        argument(what >= 0 && what < 3);
        int sum = 0;
        if (what == 0) {
            for (int b = 0; b < bolts.size(); b++) {
                sum += bolts.get(b)[0] == kind ? now.left.get(b) : 0;
            }
            return sum;
        }
        StringBuilder all = new StringBuilder();
        if (what == 1) {
            now.suits.values().forEach(all::append);
        } else {
            for (int o = 0; o < orders.size(); o++) {
                if (stateOf(o) == 0 && patterns[orders.get(o)[1]] != null) {
                    all.append(patterns[orders.get(o)[1]]);
                }
            }
        }
        return (int) all.chars().filter(c -> c == '0' + kind).count();
    }

    boolean can(int c, int p) {
        element(c >= 0 && c < clients.size());
        element(p >= 0 && p < 6);
        return canCut(c, p);
    }

    boolean ready(int o) {
        element(o >= 0 && o < orders.size());
        return canSell(o);
    }

    // ---- wants ----

    int fitOf(int c, String row) {
        int sum = 0;
        for (int[] w : wants) {
            sum += w[0] == c && met(w, row) ? w[4] : 0;
        }
        return sum - seam * seams(row);
    }

    int fit(int c) {
        element(c >= 0 && c < clients.size());
        return now.suits.containsKey(c) ? fitOf(c, now.suits.get(c)) : 0;
    }

    int tries(int c, int p) {
        element(c >= 0 && c < clients.size() && p >= 0 && p < 6);
        state(patterns[p] != null);
        return fitOf(c, patterns[p]);
    }

    /** Piece by piece: of all rows from an hour on, behind a kind, those of most fit, of these the first. */
    String bestRow(int c, int from, int behind, Map<Integer, String> known) {
        if (from == 12) {
            return "";
        }
        int key = from * 10 + behind;
        if (known.containsKey(key)) {
            return known.get(key);
        }
        String best = null;
        for (int k = 0; k < 6; k++) {
            for (int to = from + 1; to <= 12 && k != behind; to++) {
                String row = ("" + k).repeat(to - from) + bestRow(c, to, k, known);
                if (best == null || partFit(c, from, row) > partFit(c, from, best)
                    || partFit(c, from, row) == partFit(c, from, best) && row.compareTo(best) < 0) {
                    best = row;
                }
            }
        }
        known.put(key, best);
        return best;
    }

    int partFit(int c, int from, String row) {
        return fitOf(c, ("" + (char) ('0' + 9)).repeat(from) + row);
    }

    int best(int c) {
        element(c >= 0 && c < clients.size());
        return fitOf(c, bestRow(c, 0, 7, new HashMap<>()));
    }

    int bestAt(int c, int h) {
        element(c >= 0 && c < clients.size());
        argument(h >= 0 && h < 12);
        return bestRow(c, 0, 7, new HashMap<>()).charAt(h) - '0';
    }

    int clashing(int bits) {
        int n = 0;
        for (int a = 0; a < wants.size(); a++) {
            for (int b = 0; b < a; b++) {
                if ((bits >> a & 1) + (bits >> b & 1) == 2 && wants.get(a)[3] != wants.get(b)[3]) {
                    boolean common = false;
                    for (int h = 0; h < 12; h++) {
                        common |= wants.get(a)[1] <= h && h <= wants.get(a)[2] && wants.get(b)[1] <= h
                            && h <= wants.get(b)[2];
                    }
                    n += common ? 1 : 0;
                }
            }
        }
        return n;
    }

    int clashes(int c) {
        element(c >= 0 && c < clients.size());
        return clashing(wantsOf(c));
    }

    int mend(int c, int bits) {
        element(c >= 0 && c < clients.size());
        argument((bits & ~wantsOf(c)) == 0);
        String suit = now.suits.get(c);
        if (suit == null || clashing(bits) > 0) {
            return -1;
        }
        StringBuilder row = new StringBuilder(suit);
        for (int w = 0; w < wants.size(); w++) {
            for (int h = wants.get(w)[1]; h <= wants.get(w)[2] && (bits >> w & 1) == 1; h++) {
                row.setCharAt(h, (char) ('0' + wants.get(w)[3]));
            }
        }
        int n = 0;
        for (int h = 0; h < 12; h++) {
            n += row.charAt(h) != suit.charAt(h) ? 1 : 0;
        }
        return n;
    }

    // ---- orders ----

    boolean noOrders(int bits) {
        return (bits & ~((1 << orders.size()) - 1)) != 0;
    }

    int pieces(int bits) {
        argument(!noOrders(bits));
        List<String> all = new ArrayList<>();
        for (int o = 0; o < orders.size(); o++) {
            if ((bits >> o & 1) == 1) {
                state(patterns[orders.get(o)[1]] != null);
                all.addAll(runs(patterns[orders.get(o)[1]]));
            }
        }
        state(all.size() <= 12);
        all.sort(Comparator.comparing((String r) -> -r.length()));
        int best = place(all, 0, new int[bolts.size()], 99);
        return best == 99 ? -1 : best;
    }

    /** Tries each bolt for each run; the fewest bolts used, or 99. */
    int place(List<String> all, int i, int[] used, int limit) {
        int many = (int) Arrays.stream(used).filter(x -> x > 0).count();
        if (many >= limit) {
            return 99;
        }
        if (i == all.size()) {
            return many;
        }
        int best = 99;
        String run = all.get(i);
        for (int b = 0; b < bolts.size(); b++) {
            boolean twin = false;
            for (int e = 0; e < b; e++) {
                twin |= bolts.get(e)[0] == bolts.get(b)[0] && used[e] == used[b]
                    && now.left.get(e).equals(now.left.get(b));
            }
            if (!twin && bolts.get(b)[0] == run.charAt(0) - '0' && used[b] + run.length() <= now.left.get(b)) {
                used[b] += run.length();
                best = Math.min(best, place(all, i + 1, used, Math.min(limit, best)));
                used[b] -= run.length();
            }
        }
        return best;
    }

    int sewn(int bits, int what) {
        argument(!noOrders(bits));
        argument(what >= 0 && what < 3);
        int best = 0;
        for (int set = 0; set < 1 << orders.size(); set++) {
            if ((set & ~bits) == 0 && part(set, 3) > part(best, 3) && inTime(set)) {
                best = set;
            }
        }
        return what == 0 ? part(best, 3) : what == 1 ? best : part(best, 4);
    }

    int part(int set, int part) {
        int sum = 0;
        for (int o = 0; o < orders.size(); o++) {
            sum += (set >> o & 1) * orders.get(o)[part];
        }
        return sum;
    }

    /** Sewn hour by hour in the order of their days. */
    boolean inTime(int set) {
        List<int[]> row = new ArrayList<>();
        for (int o = 0; o < orders.size(); o++) {
            if ((set >> o & 1) == 1) {
                row.add(orders.get(o));
            }
        }
        row.sort(Comparator.comparing(o -> o[2]));
        int day = now.day;
        int hours = hands;
        for (int[] o : row) {
            for (int h = 0; h < o[4]; h++) {
                if (hours == 0) {
                    day++;
                    hours = hands;
                }
                hours--;
            }
            if (day > o[2]) {
                return false;
            }
        }
        return true;
    }

    int words(int street) {
        argument(street >= 0 && street < 10);
        int n = 0;
        for (int a : now.suits.keySet()) {
            for (int b : now.suits.keySet()) {
                for (int h = 0; h < 12 && a < b && clients.get(a) == street && clients.get(b) == street; h++) {
                    String two = "" + now.suits.get(a).charAt(h) + now.suits.get(b).charAt(h);
                    n += two.indexOf('.') < 0 && two.charAt(0) != two.charAt(1) ? 1 : 0;
                }
            }
        }
        return n;
    }

    /** The least mean price by n days as a whole number of 2 * 10^n parts. */
    static BigInteger mean(int n) {
        BigInteger ten = BigInteger.TEN;
        if (n == 1) {
            return BigInteger.valueOf(90);
        }
        BigInteger later = mean(n - 1);
        BigInteger one = BigInteger.TWO.multiply(ten.pow(n - 1));
        BigInteger sum = BigInteger.ZERO;
        for (int p = 0; p < 10; p++) {
            sum = sum.add(one.multiply(BigInteger.valueOf(p)).min(later));
        }
        return sum;
    }

    long offers(int n, int part) {
        argument(n >= 1 && n <= 8);
        argument(part == 0 || part == 1);
        BigInteger below = BigInteger.TWO.multiply(BigInteger.TEN.pow(n));
        BigInteger g = below.gcd(mean(n));
        return (part == 0 ? mean(n) : below).divide(g).longValue();
    }

    int line(int n) {
        argument(n >= 1 && n <= 8);
        int line = 9;
        while (n > 1 && BigInteger.TWO.multiply(BigInteger.TEN.pow(n - 1)).multiply(BigInteger.valueOf(line))
            .compareTo(mean(n - 1)) > 0) {
            line--;
        }
        return line;
    }

    // ---- skies ----

    /** All skies (pattern, and the row begun later) by which a book is so. */
    List<String> skiesBy(Map<Integer, Integer> lines) {
        List<String> all = new ArrayList<>();
        for (int p = 0; p < 6; p++) {
            for (int s = 0; s < 12 && patterns[p] != null; s++) {
                String row = patterns[p].substring(12 - s) + patterns[p].substring(0, 12 - s);
                boolean so = true;
                for (int h : lines.keySet()) {
                    so &= row.charAt(h) == '0' + lines.get(h);
                }
                if (so) {
                    all.add(p + " " + s);
                }
            }
        }
        return all;
    }

    int skies(int p) {
        element(p >= 0 && p < 6);
        int bits = 0;
        for (String sky : skiesBy(book)) {
            if (sky.startsWith(p + " ")) {
                bits |= 1 << Integer.parseInt(sky.substring(2));
            }
        }
        return bits;
    }

    int which() {
        int bits = 0;
        for (String sky : skiesBy(book)) {
            bits |= 1 << sky.charAt(0) - '0';
        }
        return bits;
    }

    int look(int what) {
        argument(what == 0 || what == 1);
        int bestHour = -1;
        int bestLeft = 1000;
        for (int h = 0; h < 12; h++) {
            if (!book.containsKey(h)) {
                int left = 0;
                for (int k = 0; k < 6; k++) {
                    Map<Integer, Integer> more = new HashMap<>(book);
                    more.put(h, k);
                    left = Math.max(left, skiesBy(more).size());
                }
                if (left < bestLeft) {
                    bestLeft = left;
                    bestHour = h;
                }
            }
        }
        return bestHour == -1 || what == 0 ? bestHour : bestLeft;
    }

    int share(int a, int b) {
        int n = 0;
        for (int c = 0; c < clients.size(); c++) {
            n += 1 + Integer.signum(fitOf(c, patterns[a]) - fitOf(c, patterns[b]));
        }
        return n;
    }

    int tailors(int what) {
        argument(what >= 0 && what < 3);
        List<Integer> rests = new ArrayList<>();
        for (int a = 0; a < 6; a++) {
            for (int b = 0; b < 6; b++) {
                boolean rest = patterns[a] != null && patterns[b] != null;
                for (int x = 0; x < 6 && rest; x++) {
                    rest = patterns[x] == null || share(x, b) <= share(a, b) && share(x, a) <= share(b, a);
                }
                if (rest) {
                    rests.add(10 * a + b);
                }
            }
        }
        if (what == 0) {
            return rests.size();
        }
        if (rests.isEmpty()) {
            return what == 1 ? -1 : 0;
        }
        return what == 1 ? rests.get(0) : share(rests.get(0) / 10, rests.get(0) % 10);
    }

    int gets(int a, int b) {
        element(a >= 0 && a < 6 && b >= 0 && b < 6);
        state(patterns[a] != null && patterns[b] != null);
        return share(a, b);
    }

    // ---- days to come ----

    int ahead(int c, int days, int what) {
        element(c >= 0 && c < clients.size());
        argument(days >= 0 && days <= 60);
        argument(what == 0 || what == 1);
        Stand s = now.copy();
        for (int i = 0; i < days; i++) {
            day(s);
        }
        String suit = s.suits.get(c);
        return suit == null ? 0 : what == 0 ? bare(suit) : fitOf(c, suit);
    }

    Stand shortYear(int seed, int q, int days) {
        Stand s = now.copy();
        int[] draw = {seed};
        for (int i = 0; i < days; i++) {
            if (next(draw) % 16 < q && !bolts.isEmpty()) {
                int b = next(draw) % bolts.size();
                s.left.set(b, Math.max(0, s.left.get(b) - 1));
            }
            day(s);
        }
        return s;
    }

    static int next(int[] seed) {
        long x = (seed[0] & 0xffffffffL) * 1103515245L + 12345L;
        seed[0] = (int) x;
        return (int) (x >> 16 & 0x7fff);
    }

    int years(int seed, int q, int days, int what) {
        argument(q >= 0 && q <= 16 && days >= 1 && days <= 60 && what >= 0 && what < 3);
        Stand s = shortYear(seed, q, days);
        if (what == 0) {
            return s.left.stream().mapToInt(x -> x).sum();
        }
        return what == 1 ? s.suits.values().stream().mapToInt(Model::bare).sum()
            : (int) s.left.stream().filter(x -> x == 0).count();
    }

    int span(int seed, int many, int q, int days, int what, int order) {
        argument(many >= 1 && many <= 20 && q >= 0 && q <= 16 && days >= 1 && days <= 60 && what >= 0 && what < 3);
        argument(order >= 0 && order < orders.size());
        List<Integer> hours = new ArrayList<>();
        int cuts = 0;
        for (int i = 0; i < many; i++) {
            Stand s = shortYear(seed + i, q, days);
            hours.add(s.left.stream().mapToInt(x -> x).sum());
            String p = patterns[orders.get(order)[1]];
            cuts += p != null && cutOff(s.left, p) != null ? 1 : 0;
        }
        return what == 2 ? cuts : what == 0 ? hours.stream().min(Integer::compare).get()
            : hours.stream().max(Integer::compare).get();
    }

    // ---- images ----

    int image() {
        if (images.size() == 3) {
            return -1;
        }
        Image i = new Image();
        i.stand = now.copy();
        i.works = new ArrayList<>();
        works.forEach(w -> i.works.add(w.copy()));
        images.add(i);
        return images.size();
    }

    int restore() {
        if (images.isEmpty()) {
            return -1;
        }
        Image i = images.remove(images.size() - 1);
        now = i.stand;
        works = i.works;
        refusedSteps = 0;
        return images.size();
    }

    int status(int what) {
        return what < 0 || what > 2 ? -1 : refused[what];
    }

    int count(int what) {
        return what == 0 ? images.size() : what == 1 ? tape.length() : what == 2 ? works.size() : -1;
    }
}
