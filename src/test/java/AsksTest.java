/** Promises 20 to 38: what is asked of a shop, nothing of which changes it. */
public final class AsksTest extends Checks {
    public static void main(String[] args) {
        fit();
        tries();
        best();
        clashes();
        mend();
        pieces();
        sewn();
        words();
        offers();
        skies();
        look();
        tailors();
        ahead();
        years();
        span();
        end();
    }

    private static void fit() {
        SkyTailor x = shopOf("bolt sun 60;bolt rain 60;client 0;client 0;wants 0 0 3 sun 5;wants 0 3 6 sun 4;wants 0 5 6 rain 9;"
            + "wants 0 11 11 rain 7;wants 1 0 11 sun 8;seam 2;");
        pattern(x, 0, "6 sun;6 rain;");
        due(x.fit(0), 0);
        work(x, "cut 0 0;cut 1 0;");
        due(x.fit(0), 5 + 7 - 2);
        due(x.fit(1), -2);
        due(x.want(1, 5), 0);
        due(x.want(3, 5), 1);
        work(x, "alter 0 6 sun;");
        due(x.fit(0), 5 + 4 + 7 - 2);
        // bare is like bare alone: two seams more about a bare hour
        law(x, "least [1, (hour - 7) * (9 - hour)]");
        work(x, "day;");
        due(suit(x, 0), "00000001.111");
        due(x.fit(0), 5 + 4 + 7 - 6);
        noElement(() -> x.fit(2));
        noElement(() -> x.fit(-1));
    }

    private static void tries() {
        SkyTailor x = shopOf("client 0;wants 0 0 3 sun 5;wants 0 9 11 fog 1;");
        pattern(x, 5, "4 sun;4 rain;4 fog;");
        due(x.tries(0, 5), 4);
        noState(() -> x.tries(0, 0));
        noElement(() -> x.tries(1, 0));
        noElement(() -> x.tries(-1, 0));
        noElement(() -> x.tries(0, 6));
        noElement(() -> x.tries(0, -1));
    }

    private static void best() {
        SkyTailor x = shopOf("client 0;client 0;client 1;client 1;wants 1 4 6 frost 3;wants 2 0 2 rain 2;wants 2 2 5 grey 4;"
            + "wants 3 2 3 wind 1;wants 3 8 9 fog 1;wants 3 5 5 rain 1;seam 1;");
        due(x.best(0), 0);
        due(bestRow(x, 0), "000000000000");
        due(x.best(1), 3);
        due(bestRow(x, 1), "444444444444");
        due(x.best(2), 4);
        due(bestRow(x, 2), "222222222222");
        // 1 alike: one seam and one want more; rows of rain alone come first
        due(x.best(3), 1);
        due(bestRow(x, 3), "111111111111");
        // seams that cost nothing: each hour as low as it can be
        SkyTailor y = shopOf("client 0;wants 0 2 3 wind 1;wants 0 8 9 fog 1;wants 0 5 5 rain 1;wants 0 3 5 frost 1;seam 0;");
        due(y.best(0), 3);
        due(bestRow(y, 0), "003301005500");
        SkyTailor z = shopOf("client 0;wants 0 0 0 fog 9;wants 0 11 11 sun 9;wants 0 4 7 grey 5;seam 2;");
        due(z.best(0), 19);
        due(bestRow(z, 0), "522222220000");
        // sun at 3 begins a run of its own: the want from 2 on is lost
        SkyTailor w = shopOf("client 0;wants 0 0 2 rain 9;wants 0 2 5 sun 4;wants 0 3 3 sun 1;wants 0 4 5 fog 2;seam 0;");
        due(w.best(0), 12);
        due(bestRow(w, 0), "111055000000");
        noElement(() -> z.best(1));
        noElement(() -> z.best(-1));
        noElement(() -> z.bestAt(1, 12));
        noArgument(() -> z.bestAt(0, 12));
        noArgument(() -> z.bestAt(0, -1));
        bestOfAllRows();
    }

    /** Against all rows of three kinds; a fourth that nobody wants is in no best row. */
    private static void bestOfAllRows() {
        SkyTailor x = shopOf("client 0;wants 0 1 4 rain 3;wants 0 3 6 grey 5;wants 0 0 1 sun 2;wants 0 6 9 rain 4;wants 0 9 9 sun 6;"
            + "wants 0 10 11 grey 2;wants 0 11 11 rain 3;seam 2;");
        int[][] wants = {{1, 4, 1, 3}, {3, 6, 2, 5}, {0, 1, 0, 2}, {6, 9, 1, 4}, {9, 9, 0, 6}, {10, 11, 2, 2}, {11, 11, 1, 3}};
        int most = -99;
        String first = "";
        int[] row = new int[12];
        for (int n = 0; n < 531441; n++) {
            for (int h = 11, rest = n; h >= 0; h--, rest /= 3) {
                row[h] = rest % 3;
            }
            int sum = 0;
            for (int h = 1; h < 12; h++) {
                sum -= row[h] != row[h - 1] ? 2 : 0;
            }
            for (int[] w : wants) {
                boolean met = true;
                for (int h = w[0]; h <= w[1]; h++) {
                    met &= row[h] == w[2];
                }
                sum += met ? w[3] : 0;
            }
            if (sum > most) {
                most = sum;
                StringBuilder made = new StringBuilder();
                for (int kind : row) {
                    made.append(kind);
                }
                first = made.toString();
            }
        }
        due(x.best(0), most);
        due(bestRow(x, 0), first);
    }

    private static void clashes() {
        SkyTailor x = shopOf("client 0;client 0;wants 0 0 3 sun 1;wants 0 3 5 fog 1;wants 0 4 6 sun 1;wants 1 0 11 wind 1;"
            + "wants 0 6 6 fog 1;wants 0 0 11 sun 1;");
        due(x.clashes(0), 5);
        due(x.clashes(1), 0);
        noElement(() -> x.clashes(2));
        noElement(() -> x.clashes(-1));
    }

    private static void mend() {
        SkyTailor x = shopOf("bolt sun 60;bolt rain 60;client 0;client 0;wants 0 0 3 sun 1;wants 0 2 5 rain 1;wants 1 0 11 rain 1;"
            + "wants 0 8 9 sun 1;wants 0 9 10 sun 1;");
        pattern(x, 0, "6 sun;6 rain;");
        due(x.mend(0, 0), -1);
        work(x, "cut 0 0;");
        due(x.mend(0, 0), 0);
        due(x.mend(0, 1), 0);
        due(x.mend(0, 2), 4);
        due(x.mend(0, 8), 2);
        due(x.mend(0, 24), 3);
        due(x.mend(0, 26), 7);
        due(x.mend(0, 3), -1);
        due(x.mend(1, 4), -1);
        noArgument(() -> x.mend(0, 4));
        noArgument(() -> x.mend(0, 32));
        noArgument(() -> x.mend(1, 1));
        noArgument(() -> x.mend(0, -1));
        noArgument(() -> x.mend(0, 1 << 31));
        noElement(() -> x.mend(2, 99));
        noElement(() -> x.mend(-1, 0));
        // bare hours are to be altered, too
        law(x, "hour - 7");
        work(x, "day;");
        due(x.mend(0, 24), 3);
    }

    private static void pieces() {
        SkyTailor x = shopOf("bolt sun 8;bolt sun 9;bolt rain 12;bolt rain 3;bolt sun 7;client 0;order 0 0 9 9 9;order 0 0 9 9 9;"
            + "order 0 1 9 9 9;order 0 2 9 9 9;order 0 3 9 9 9;order 0 5 9 9 9;");
        pattern(x, 0, "4 sun;8 rain;");
        pattern(x, 1, "3 sun;4 rain;5 sun;");
        pattern(x, 2, "again 6 [1 sun;1 rain;];");
        pattern(x, 3, "12 fog;");
        due(x.pieces(0), 0);
        due(x.pieces(1), 2);
        // 8 and 8 hours of rain: no bolt of 12 has both, the one of 3 none
        due(x.pieces(3), -1);
        // 4 3 5 of sun: 9 has two of them, 12 of rain all
        due(x.pieces(5), 3);
        due(x.pieces(8), 2);
        due(x.pieces(16), -1);
        noState(() -> x.pieces(9));
        noState(() -> x.pieces(33));
        noArgument(() -> x.pieces(64));
        noArgument(() -> x.pieces(64 + 33));
        noArgument(() -> x.pieces(-1));
        due(x.bolt(0, 1), 8);
        // off bolts as they are now, orders that are sold too
        work(x, "cut 0 0;sell 0;");
        due(x.pieces(1), -1);
        due(x.pieces(4), 2);
        // all bolts of a kind, each to its last hour
        SkyTailor v = shopOf("bolt sun 5;bolt rain 1;bolt sun 6;client 0;order 0 0 9 9 9;");
        pattern(v, 0, "5 sun;1 rain;6 sun;");
        due(v.pieces(1), 3);
        // five runs that go into two bolts, though best fit or largest first want three
        SkyTailor y = shopOf("bolt sun 12;bolt sun 12;bolt sun 12;client 0;order 0 0 9 9 9;order 0 1 9 9 9;");
        pattern(y, 0, "6 sun;1 rain;5 sun;");
        pattern(y, 1, "4 sun;1 rain;4 sun;1 rain;2 sun;");
        due(y.pieces(3), -1);
        SkyTailor z = shopOf("bolt sun 11;bolt sun 10;bolt sun 9;bolt rain 3;client 0;order 0 0 9 9 9;order 0 1 9 9 9;");
        pattern(z, 0, "6 sun;1 rain;5 sun;");
        pattern(z, 1, "4 sun;1 rain;4 sun;1 rain;2 sun;");
        due(z.pieces(3), 3);
        SkyTailor w = shopOf("bolt rain 3;bolt sun 9;bolt sun 12;bolt sun 9;client 0;order 0 0 9 9 9;order 0 1 9 9 9;");
        pattern(w, 0, "6 sun;1 rain;5 sun;");
        pattern(w, 1, "4 sun;1 rain;4 sun;1 rain;2 sun;");
        due(w.pieces(3), 3);
        due(w.pieces(2), 2);
        due(w.pieces(1), 2);
    }

    private static void sewn() {
        SkyTailor x = shopOf("client 0;order 0 0 2 30 8;order 0 0 1 20 5;order 0 0 3 25 4;order 0 0 9 0 1;order 0 0 2 5 5;hands 4;");
        // from day 0 on: 12 hours by day 2, 8 by day 1, 16 by day 3
        due(x.sewn(0, 0), 0);
        due(x.sewn(0, 2), 0);
        due(x.sewn(1, 0), 30);
        due(x.sewn(3, 0), 30);
        due(x.sewn(3, 1), 1);
        due(x.sewn(3, 2), 8);
        due(x.sewn(5, 0), 55);
        due(x.sewn(7, 0), 55);
        due(x.sewn(7, 1), 5);
        due(x.sewn(7, 2), 12);
        due(x.sewn(13, 1), 5);
        due(x.sewn(22, 0), 50);
        due(x.sewn(22, 1), 22);
        due(x.sewn(22, 2), 14);
        work(x, "day;");
        due(x.sewn(31, 1), 5);
        due(x.sewn(5, 2), 12);
        work(x, "day;");
        due(x.sewn(31, 1), 4);
        work(x, "day;");
        due(x.sewn(31, 0), 25);
        work(x, "day;");
        due(x.sewn(31, 1), 0);
        noArgument(() -> x.sewn(32, 0));
        noArgument(() -> x.sewn(-1, 0));
        noArgument(() -> x.sewn(0, 3));
        noArgument(() -> x.sewn(0, -1));
        // alike sets: the least bits; the last hour of a day is in time
        SkyTailor y = shopOf("client 0;order 0 0 1 7 16;order 0 0 1 7 16;order 0 0 1 7 17;");
        due(y.sewn(6, 1), 2);
        due(y.sewn(4, 0), 0);
        due(y.sewn(7, 1), 1);
    }

    private static void words() {
        SkyTailor x = shopOf("bolt sun 60;bolt rain 60;bolt fog 60;client 2;client 2;client 4;client 2;");
        pattern(x, 0, "6 sun;6 rain;");
        pattern(x, 1, "again 3 [2 sun;2 rain;];");
        pattern(x, 2, "12 fog;");
        work(x, "cut 0 0;cut 1 1;cut 2 2;");
        due(x.words(2), 4);
        due(x.words(4), 0);
        due(x.words(9), 0);
        work(x, "cut 3 2;");
        due(x.words(2), 4 + 12 + 12);
        law(x, "(hour - 7) * (4 - client)");
        work(x, "day;");
        // hours 0 to 7 are left: 2, 3 of the first two
        due(x.words(2), 2 + 8 + 8);
        work(x, "strip 3;");
        due(x.words(2), 2);
        noArgument(() -> x.words(10));
        noArgument(() -> x.words(-1));
    }

    private static void offers() {
        SkyTailor x = new SkyTailor();
        long[][] due = {{9, 2}, {13, 4}, {51, 20}, {417, 200}, {3519, 2000}, {3769, 2500}, {8163, 6250}, {35777, 31250}};
        int[] lines = {9, 4, 3, 2, 2, 1, 1, 1};
        for (int n = 1; n <= 8; n++) {
            due(x.offers(n, 0), due[n - 1][0]);
            due(x.offers(n, 1), due[n - 1][1]);
            due(x.line(n), lines[n - 1]);
        }
        noArgument(() -> x.offers(0, 0));
        noArgument(() -> x.offers(9, 0));
        noArgument(() -> x.offers(1, 2));
        noArgument(() -> x.offers(1, -1));
        noArgument(() -> x.line(0));
        noArgument(() -> x.line(9));
    }

    private static void skies() {
        SkyTailor x = new SkyTailor();
        pattern(x, 0, "4 sun;2 rain;6 grey;");
        pattern(x, 3, "again 2 [3 sun;3 rain;];");
        due(x.skies(0), 4095);
        due(x.skies(1), 0);
        due(x.which(), 9);
        book(x, "0 rain;");
        // begun s hours later: hour 0 is what hour 12 - s was
        due(x.skies(0), 1 << 8 | 1 << 7);
        due(x.skies(3), 1 << 9 | 1 << 8 | 1 << 7 | 1 << 3 | 1 << 2 | 1 << 1);
        book(x, "0 rain;3 grey;");
        due(x.skies(0), 1 << 8 | 1 << 7);
        due(x.skies(3), 0);
        due(x.which(), 1);
        book(x, "0 fog;");
        due(x.which(), 0);
        noElement(() -> x.skies(6));
        noElement(() -> x.skies(-1));
    }

    private static void look() {
        SkyTailor x = new SkyTailor();
        due(x.look(0), 0);
        due(x.look(1), 0);
        pattern(x, 0, "4 sun;2 rain;6 grey;");
        due(x.look(0), 0);
        due(x.look(1), 6);
        book(x, "0 grey;");
        // begun 1 to 6 hours later
        int[] worst = new int[12];
        for (int hour = 1; hour < 12; hour++) {
            int[] seen = new int[3];
            for (int s = 1; s <= 6; s++) {
                int was = (hour - s + 12) % 12;
                seen[was < 4 ? 0 : was < 6 ? 1 : 2]++;
            }
            worst[hour] = Math.max(seen[0], Math.max(seen[1], seen[2]));
        }
        int best = 1;
        for (int hour = 2; hour < 12; hour++) {
            best = worst[hour] < worst[best] ? hour : best;
        }
        due(x.look(0), best);
        due(x.look(1), worst[best]);
        book(x, "0fog;1fog;2fog;");
        due(x.look(0), 3);
        due(x.look(1), 0);
        book(x, "0sun;1sun;2sun;3sun;4sun;5sun;6sun;7sun;8sun;9sun;10sun;11sun;");
        due(x.look(0), -1);
        due(x.look(1), -1);
        noArgument(() -> x.look(2));
        noArgument(() -> x.look(-1));
    }

    private static void tailors() {
        SkyTailor x = shopOf("client 0;client 0;client 0;wants 0 0 11 sun 9;wants 0 0 5 rain 6;wants 1 0 5 rain 9;wants 1 6 11 fog 5;"
            + "wants 1 0 11 fog 7;wants 2 0 11 fog 9;wants 2 0 11 sun 5;seam 0;");
        due(x.tailors(0), 0);
        due(x.tailors(1), -1);
        due(x.tailors(2), 0);
        pattern(x, 1, "12 sun;");
        due(x.tailors(0), 1);
        due(x.tailors(1), 11);
        due(x.tailors(2), 3);
        pattern(x, 2, "6 rain;6 sun;");
        pattern(x, 4, "12 fog;");
        // fits of sun, rain, fog: 9 6 0, 0 9 12, 5 0 9
        due(x.gets(1, 2), 4);
        due(x.gets(2, 1), 2);
        due(x.gets(1, 4), 2);
        due(x.gets(4, 1), 4);
        due(x.gets(4, 2), 4);
        due(x.gets(2, 4), 2);
        due(x.gets(4, 4), 3);
        due(x.tailors(0), 1);
        due(x.tailors(1), 44);
        due(x.tailors(2), 3);
        // a pattern that is as good as another: four rests, pairs in both orders
        pattern(x, 0, "12 fog;");
        due(x.tailors(0), 4);
        due(x.tailors(1), 0);
        due(x.tailors(2), 3);
        noArgument(() -> x.tailors(3));
        noArgument(() -> x.tailors(-1));
        noState(() -> x.gets(0, 3));
        noState(() -> x.gets(3, 0));
        noElement(() -> x.gets(3, 6));
        noElement(() -> x.gets(-1, 3));
        // round and round: none rests
        SkyTailor y = shopOf("client 0;client 0;client 0;wants 0 0 11 sun 9;wants 0 0 11 rain 6;wants 1 0 11 rain 9;"
            + "wants 1 0 11 fog 6;wants 2 0 11 fog 9;wants 2 0 11 sun 6;");
        pattern(y, 0, "12 sun;");
        pattern(y, 1, "12 rain;");
        pattern(y, 2, "12 fog;");
        due(y.gets(0, 1), 4);
        due(y.tailors(0), 0);
        due(y.tailors(1), -1);
        due(y.tailors(2), 0);
    }

    private static void ahead() {
        SkyTailor x = shopOf("bolt sun 60;client 0;client 0;wants 0 0 3 sun 9;");
        pattern(x, 0, "12 sun;");
        law(x, "hour + age - 12");
        due(x.ahead(0, 3, 0), 0);
        due(x.ahead(0, 3, 1), 0);
        work(x, "cut 0 0;");
        due(x.ahead(0, 0, 0), 0);
        due(x.ahead(0, 0, 1), 9);
        due(x.ahead(0, 1, 0), 0);
        due(x.ahead(0, 2, 0), 1);
        due(x.ahead(0, 3, 1), 8);
        due(x.ahead(0, 60, 0), 12);
        due(x.ahead(1, 60, 0), 0);
        due(x.told(4), 0);
        due(x.client(0, 3), 0);
        noElement(() -> x.ahead(2, 61, 0));
        noElement(() -> x.ahead(-1, 0, 0));
        noArgument(() -> x.ahead(0, 61, 0));
        noArgument(() -> x.ahead(0, -1, 0));
        noArgument(() -> x.ahead(0, 0, 2));
        noArgument(() -> x.ahead(0, 0, -1));
        // to day 60 at most
        law(x, "day - 59");
        work(x, "again 20[day;day;];again 18[day;];");
        due(x.told(4), 58);
        due(x.ahead(0, 1, 0), 0);
        due(x.ahead(0, 2, 0), 12);
        law(x, "(day - 59) * (hour - 9) * (age - 59)");
        due(x.ahead(0, 1, 0), 0);
        due(x.ahead(0, 60, 0), 2);
        due(x.told(4), 58);
    }

    /** The hours on bolts behind a short year, drawn once more. */
    private static int[] shortYear(int[] hours, int seed, int q, int days) {
        int[] left = hours.clone();
        long draw = seed & 0xffffffffL;
        for (int i = 0; i < days; i++) {
            draw = draw * 1103515245L + 12345L & 0xffffffffL;
            if ((draw >> 16) % 32768 % 16 < q) {
                draw = draw * 1103515245L + 12345L & 0xffffffffL;
                int bolt = (int) ((draw >> 16) % 32768 % left.length);
                left[bolt] -= left[bolt] > 0 ? 1 : 0;
            }
        }
        return left;
    }

    private static int sum(int[] hours) {
        int sum = 0;
        for (int h : hours) {
            sum += h;
        }
        return sum;
    }

    private static void years() {
        SkyTailor x = shopOf("bolt sun 15;bolt rain 3;bolt fog 1;client 0;client 0;");
        pattern(x, 0, "12 sun;");
        work(x, "cut 0 0;");
        law(x, "hour + age - 12");
        int[] left = {3, 3, 1};
        for (int seed : new int[] {0, 1, 5, -7, 2147483647, -2147483648}) {
            for (int q : new int[] {0, 3, 9, 15, 16}) {
                for (int days : new int[] {1, 6, 60}) {
                    int[] then = shortYear(left, seed, q, days);
                    due(x.years(seed, q, days, 0), sum(then));
                    due(x.years(seed, q, days, 1), days == 1 ? 0 : Math.min(12, days - 1));
                    int empty = 0;
                    for (int h : then) {
                        empty += h == 0 ? 1 : 0;
                    }
                    due(x.years(seed, q, days, 2), empty);
                }
            }
        }
        due(x.told(6), 7);
        due(x.told(4), 0);
        due(x.client(0, 3), 0);
        // days come to an end on day 60, draws do not
        work(x, "again 20[day;day;];again 19[day;];");
        law(x, "day - 59");
        due(x.years(5, 16, 9, 0), sum(shortYear(left, 5, 16, 9)));
        due(x.years(5, 16, 9, 1), 12);
        noArgument(() -> x.years(1, -1, 1, 0));
        noArgument(() -> x.years(1, 17, 1, 0));
        noArgument(() -> x.years(1, 0, 0, 0));
        noArgument(() -> x.years(1, 0, 61, 0));
        noArgument(() -> x.years(1, 0, 1, 3));
        noArgument(() -> x.years(1, 0, 1, -1));
        due(new SkyTailor().years(1, 16, 60, 2), 0);
    }

    private static void span() {
        SkyTailor x = shopOf("bolt sun 9;bolt rain 8;bolt sun 6;client 0;order 0 0 1 1 1;order 0 1 1 1 1;");
        pattern(x, 0, "5 sun;2 rain;5 sun;");
        int[] left = {9, 8, 6};
        for (int seed : new int[] {0, 77, -3, 2147483640}) {
            for (int days : new int[] {1, 7, 20}) {
                int fewest = 99;
                int most = 0;
                int cuts = 0;
                for (int i = 0; i < 20; i++) {
                    int[] then = shortYear(left, seed + i, 9, days);
                    fewest = Math.min(fewest, sum(then));
                    most = Math.max(most, sum(then));
                    boolean sun = then[0] >= 5 && then[2] >= 5 || then[0] >= 10 || then[2] >= 10;
                    cuts += sun && then[1] >= 2 ? 1 : 0;
                }
                due(x.span(seed, 20, 9, days, 0, 0), fewest);
                due(x.span(seed, 20, 9, days, 1, 1), most);
                due(x.span(seed, 20, 9, days, 2, 0), cuts);
                due(x.span(seed, 20, 9, days, 2, 1), 0);
                due(x.span(seed, 1, 9, days, 0, 0), x.years(seed, 9, days, 0));
            }
        }
        due(x.span(1, 3, 0, 1, 2, 0), 3);
        // for one without a suit: it is no matter that the order's client has one
        work(x, "cut 0 0;");
        due(x.span(1, 3, 0, 1, 2, 0), 0);
        due(x.told(6), 11);
        noArgument(() -> x.span(1, 0, 0, 1, 0, 0));
        noArgument(() -> x.span(1, 21, 0, 1, 0, 0));
        noArgument(() -> x.span(1, 1, -1, 1, 0, 0));
        noArgument(() -> x.span(1, 1, 17, 1, 0, 0));
        noArgument(() -> x.span(1, 1, 0, 0, 0, 0));
        noArgument(() -> x.span(1, 1, 0, 61, 0, 0));
        noArgument(() -> x.span(1, 1, 0, 1, 3, 0));
        noArgument(() -> x.span(1, 1, 0, 1, -1, 0));
        noArgument(() -> x.span(1, 1, 0, 1, 0, 2));
        noArgument(() -> x.span(1, 1, 0, 1, 1, -1));
        SkyTailor y = shopOf("bolt sun 60;client 0;order 0 0 1 1 1;");
        pattern(y, 0, "12 sun;");
        work(y, "cut 0 0;");
        due(y.span(1, 4, 0, 1, 2, 0), 4);
    }
}
