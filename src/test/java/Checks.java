import java.util.NoSuchElementException;

/** What all tests of promises use: texts told to a tailor, answers that are due, calls that are refused. */
abstract class Checks {
    private static int good;
    private static int wrong;

    interface Call {
        long answer();
    }

    /** Feeds a text behind what is on the tape, its last twenty filled up with 0: how many bytes it has. */
    static int tell(SkyTailor x, String text) {
        for (int i = 0; i < text.length(); i += 20) {
            int[] n = new int[5];
            for (int j = 0; j < 20; j++) {
                n[j / 4] = n[j / 4] << 8 | (i + j < text.length() ? text.charAt(i + j) : 0);
            }
            x.feed(n[0], n[1], n[2], n[3], n[4]);
        }
        return text.length();
    }

    static int shop(SkyTailor x, String text) {
        return x.shop(tell(x, text));
    }

    static int pattern(SkyTailor x, int pattern, String text) {
        return x.pattern(pattern, tell(x, text));
    }

    static int law(SkyTailor x, String text) {
        return x.law(tell(x, text));
    }

    static int work(SkyTailor x, String text) {
        return x.work(tell(x, text));
    }

    static int book(SkyTailor x, String text) {
        return x.book(tell(x, text));
    }

    static SkyTailor shopOf(String text) {
        SkyTailor x = new SkyTailor();
        if (shop(x, text) < 0) {
            throw new AssertionError("no such shop: " + text);
        }
        return x;
    }

    /** The suit of a client, an hour a sign: the number of its kind, '.' bare. */
    static String suit(SkyTailor x, int client) {
        StringBuilder row = new StringBuilder();
        for (int hour = 0; hour < 12; hour++) {
            int kind = x.wears(client, hour);
            row.append(kind == SkyTailor.NONE ? "." : "" + kind);
        }
        return row.toString();
    }

    static String bestRow(SkyTailor x, int client) {
        StringBuilder row = new StringBuilder();
        for (int hour = 0; hour < 12; hour++) {
            row.append(x.bestAt(client, hour));
        }
        return row.toString();
    }

    /** All that can be seen of a shop but the tape, the latest fault and how many calls were refused. */
    static String state(SkyTailor x) {
        StringBuilder all = new StringBuilder();
        for (int what = 0; what < 10; what++) {
            all.append(x.told(what)).append(' ');
        }
        all.append("images ").append(x.count(0)).append(" works ").append(x.count(2));
        for (int bolt = 0; bolt < x.told(0); bolt++) {
            all.append(" bolt ").append(x.bolt(bolt, 0)).append(' ').append(x.bolt(bolt, 1));
        }
        for (int client = 0; client < x.told(1); client++) {
            all.append(" client ").append(suit(x, client)).append(' ').append(x.ahead(client, 1, 0));
            for (int what = 0; what < 7; what++) {
                all.append(' ').append(x.client(client, what));
            }
        }
        for (int want = 0; want < x.told(2); want++) {
            all.append(" want ").append(x.want(want, 0)).append(' ').append(x.want(want, 3)).append(' ').append(x.want(want, 5));
        }
        for (int order = 0; order < x.told(3); order++) {
            all.append(" order ").append(x.order(order, 1)).append(' ').append(x.order(order, 5));
        }
        for (int pattern = 0; pattern < 6; pattern++) {
            all.append(" pattern ").append(sky(x, pattern)).append(' ').append(x.skies(pattern));
        }
        return all.toString();
    }

    /** The hours of a pattern, each a sign; "untold". */
    static String sky(SkyTailor x, int pattern) {
        StringBuilder row = new StringBuilder();
        for (int hour = 0; hour < 12; hour++) {
            int kind = x.sky(pattern, hour);
            if (kind == SkyTailor.NONE) {
                return "untold";
            }
            row.append(kind);
        }
        return row.toString();
    }

    private static void count(boolean so, String what) {
        if (so) {
            good++;
            return;
        }
        wrong++;
        for (StackTraceElement e : new Throwable().getStackTrace()) {
            if (!e.getClassName().equals("Checks")) {
                System.out.println(e.getFileName() + ":" + e.getLineNumber() + ": " + what);
                return;
            }
        }
    }

    static void due(long got, long want) {
        count(got == want, "answered " + got + ", due is " + want);
    }

    static void due(boolean got, boolean want) {
        count(got == want, "answered " + got + ", due is " + want);
    }

    static void due(String got, String want) {
        count(got.equals(want), "answered " + got + ", due is " + want);
    }

    private static void refused(Call call, Class<? extends RuntimeException> by) {
        String got;
        try {
            got = "answered " + call.answer();
        } catch (RuntimeException e) {
            got = e.getClass() == by ? "" : "throws " + e.getClass();
        }
        count(got.isEmpty(), got + ", due is " + by);
    }

    static void noElement(Call call) {
        refused(call, NoSuchElementException.class);
    }

    static void noArgument(Call call) {
        refused(call, IllegalArgumentException.class);
    }

    static void noState(Call call) {
        refused(call, IllegalStateException.class);
    }

    /** Ends a test: how many checks were made, and 1 as the exit code, if one was wrong. */
    static void end() {
        System.out.println(good + " checks are right, " + wrong + " wrong");
        if (wrong > 0 || good == 0) {
            System.exit(1);
        }
    }
}
