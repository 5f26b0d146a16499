/** Promises 56 to 58: REIGNS that are LIVED. */
public final class LivesTest {
    private static final Check c = new Check();

    public static void main(String[] args) {
        refusals();
        steps();
        missed();
        loopsAndWhens();
        limits();
        stops();
        draws();
        means();
        nothingElseTouchesLived();
        c.end();
    }

    private static void lived(String what, BarkMoney x, int missed, int months, int bought, int printed, int left) {
        c.due("missed of " + what, x, x.lived(0), missed, 0);
        c.due("months of " + what, x, x.lived(1), months, 0);
        c.due("bought of " + what, x, x.lived(2), bought, 0);
        c.due("printed of " + what, x, x.lived(3), printed, 0);
        c.due("left of " + what, x, x.lived(4), left, 0);
    }

    private static void refusals() {
        BarkMoney x = Check.in("person p;");
        c.due("no reigns", x, x.live(0), -1, 6);
        c.due("no reigns", x, x.mean(0, 1), false, 6);
        c.due("seed ahead of none", x, x.live(-1), -1, 1);
        c.due("seed", x, x.live(10000), -1, 1);
        c.due("many 0", x, x.mean(0, 0), false, 1);
        c.due("many 21", x, x.mean(0, 21), false, 1);
        c.due("seed", x, x.mean(-1, 1), false, 1);
        c.due("the last", x, x.mean(9999, 2), false, 1);
        c.due("none lived", x, x.lived(0), -1, 6);
        c.due("what ahead of none", x, x.lived(5), -1, 1);
        c.due("what", x, x.lived(-1), -1, 1);
        Check.reigns(x, "month 1;");
        c.due("the last seed", x, x.mean(9999, 1), true, 0);
        c.due("a mean is no life", x, x.lived(0), -1, 6);
        c.due("the last seed", x, x.live(9999), 1, 0);
        c.due("lived", x, x.lived(0), 0, 0);
    }

    private static void steps() {
        BarkMoney x = Check.in("calm 1000; fee 50; war 10; kind k worth 5; good g value 10; person p; person q; has p k 9;");
        c.due("steps", x, Check.reigns(x, "pay q k 4; buy q g 2; sell q g 1; tear p k 3; mend p k 3; month 2;"), 6, 0);
        c.due("live", x, x.live(5), 6, 0);
        c.due("q", x.sheets(1, 0, 0) * 10 + x.goods(1, 0), 21);
        c.due("p", x.sheets(0, 0, 0) * 10 + x.sheets(0, 0, 1), 70);
        c.due("stock", x.good(0, 1), 9);
        c.due("month", x.told(6), 2);
        c.due("soldiers", x.told(9), 20);
        lived("steps", x, 0, 2, 2, 20 + 10 + 20, 0);
        c.due("again, from where it is", x, x.live(5), 6, 0);
        c.due("month", x.told(6), 4);
        lived("steps again", x, 0, 2, 2, 50, 0);
    }

    private static void missed() {
        BarkMoney x = Check.in("kind k worth 5; good g value 7; person p; has p k 1;");
        Check.reigns(x, "buy p g 1; sell p g 1; tear p k 2; mend p k 1; any; pay p k 1;");
        c.due("all are done", x, x.live(0), 6, 0);
        lived("missed", x, 5, 0, 0, 5, 0);
        c.due("sheets", x.sheets(0, 0, 0), 2);
        for (int i = 0; i < 100; i++) {
            x.month(99);
        }
        x.month(90);
        Check.reigns(x, "month 10; month 9; month 1;");
        x.live(0);
        lived("months as a whole", x, 2, 9, 0, 0, 0);
        c.due("month", x.told(6), 9999);
        x = Check.in("kind k worth 1; person p;");
        for (int i = 0; i < 10; i++) {
            x.pay(0, 0, 990);
        }
        Check.reigns(x, "pay p k 99; pay p k 1;");
        x.live(0);
        lived("pay to 9,999", x, 1, 0, 0, 99, 0);
        x = Check.in("person p;");
        Check.reigns(x, "any; any;");
        x.live(0);
        lived("any without goods", x, 2, 0, 0, 0, 0);
        x = Check.in("good g value 3;");
        Check.reigns(x, "any;");
        x.live(0);
        lived("any without people", x, 1, 0, 0, 0, 0);
        // goods of a land that is gone must not be there any more
        x = Check.in("kind k worth 1; good g value 1; person p; has p k 9;");
        Check.land(x, "kind k worth 1; good g value 1; person p; has p k 9;");
        Check.land(x, "kind k worth 1; person p; has p k 9;");
        Check.reigns(x, "any;");
        x.live(0);
        lived("any where goods were once", x, 1, 0, 0, 0, 0);
    }

    private static void loopsAndWhens() {
        BarkMoney x = Check.in("calm 100; kind k worth 10; good g value 10 stock 5; person p; has p k 9;");
        Check.reigns(x, "loop 3; buy p g 1; end; when left g = 2; pay p k 1; end; when left g > 2; pay p k 50; end;"
            + "when left g < 3; pay p k 2; end;");
        c.due("1 + 3 + 1 + 1 + 1 + 1 + 1", x, x.live(0), 9, 0);
        c.due("sheets", x.sheets(0, 0, 0), 9);
        Check.reigns(x, "when holds p = 90; month 1; end; when holds p < 90; month 2; end; when holds p > 90; month 3; end;"
            + "when level = 1; month 4; end; when level > 1; month 5; end; when level < 1; month 6; end;");
        c.due("live", x, x.live(0), 8, 0);
        c.due("months", x.lived(1), 5);
        Check.reigns(x, "loop 2; loop 3; when level = 1; month 1; end; end; end;");
        c.due("1 + 2 + 6 + 6", x, x.live(0), 15, 0);
        Check.reigns(x, "loop 99; end; loop 99; loop 2; end; end;");
        c.due("empty loops: 1 + 1 + 99", x, x.live(0), 101, 0);
        Check.reigns(x, "");
        c.due("no steps", x, x.live(0), 0, 0);
        lived("no steps", x, 0, 0, 0, 0, 0);
    }

    private static void limits() {
        BarkMoney x = Check.in("kind k worth 1; person p;");
        Check.reigns(x, "loop 99; loop 99; pay p k 1; end; end;");
        c.due("live", x, x.live(0), 300, 0);
        // 1 + 3 x (1 + 99) is 301
        c.due("paid", x.sheets(0, 0, 0), 296);
        lived("300 and one left", x, 0, 0, 0, 296, 1);
        x = Check.in("kind k worth 1; person p;");
        Check.reigns(x, "loop 2; loop 99; pay p k 1; end; end; loop 97; pay p k 1; end; pay p k 1;");
        c.due("1 + 2 + 198 + 1 + 97 + 1 is just 300", x, x.live(0), 300, 0);
        c.due("paid", x.sheets(0, 0, 0), 198 + 97 + 1);
        lived("just 300", x, 0, 0, 0, 296, 0);
        Check.reigns(x, "loop 2; loop 99; pay p k 1; end; end; loop 98; pay p k 1; end; loop 9; end;");
        c.due("300 and a loop left", x, x.live(0), 300, 0);
        lived("a loop left", x, 0, 0, 0, 296, 1);
        Check.reigns(x, "loop 2; loop 99; any; end; end; loop 97; any; end; when level = 9; any; end;");
        c.due("300, the last a when", x, x.live(0), 300, 0);
        c.due("its step is not to be done", x.lived(4), 0);
        Check.reigns(x, "loop 2; loop 99; any; end; end; loop 97; any; end; when level = 1; any; end;");
        c.due("300, the last a when", x, x.live(0), 300, 0);
        c.due("its step is left", x.lived(4), 1);
        Check.reigns(x, "loop 2; loop 99; any; end; end; loop 97; any; end; loop 9; end;");
        c.due("300, the last an empty loop", x, x.live(0), 300, 0);
        c.due("nothing is left", x.lived(4), 0);
        Check.reigns(x, "loop 2; loop 99; any; end; end; loop 97; any; end; stop; any;");
        c.due("300, the last a stop", x, x.live(0), 300, 0);
        c.due("nothing is left", x.lived(4), 0);
        Check.reigns(x, "loop 2; loop 99; any; end; end; loop 97; any; end; any; stop;");
        c.due("300 and a stop", x, x.live(0), 300, 0);
        c.due("the stop is left", x.lived(4), 1);
    }

    private static void stops() {
        BarkMoney x = Check.in("kind k worth 1; person p;");
        Check.reigns(x, "loop 9; pay p k 1; when holds p > 2; stop; end; end; month 1;");
        c.due("1 + 2 + 2 + 3", x, x.live(0), 8, 0);
        lived("stopped", x, 0, 0, 0, 3, 0);
        c.due("nothing behind it", x.told(6), 0);
    }

    private static int draw(int[] s, int n) {
        s[0] = (s[0] * 3079 + 11299) % 65536;
        return s[0] / 8 % n;
    }

    private static void draws() {
        String land = "calm 9999; kind k worth 1; good g value 1; good h value 2; good i value 3;"
            + "person p; person q; person r; person s; has p k 99; has q k 99; has r k 99; has s k 99;";
        for (int seed = 0; seed < 10000; seed += 271) {
            BarkMoney x = Check.in(land);
            Check.reigns(x, "loop 3; any; end;");
            c.due("live", x, x.live(seed), 4, 0);
            int[] s = {seed};
            int[][] owned = new int[4][3];
            for (int i = 0; i < 3; i++) {
                int person = draw(s, 4);
                int good = draw(s, 3);
                owned[person][good]++;
            }
            for (int person = 0; person < 4; person++) {
                for (int good = 0; good < 3; good++) {
                    c.due("goods by seed " + seed, x.goods(person, good), owned[person][good]);
                }
            }
            lived("draws", x, 0, 0, 3, 0, 0);
        }
        BarkMoney x = Check.in("kind k worth 1; good g value 1; person p; has p k 9;");
        Check.reigns(x, "loop 9; any; end;");
        x.live(3);
        lived("draws by one", x, 0, 0, 9, 0, 0);
    }

    private static void means() {
        String land = "calm 9999; kind k worth 1; good g value 1; good h value 2; good i value 4; person p; person q; has p k 9; has q k 99;";
        BarkMoney x = Check.in(land);
        Check.reigns(x, "any; any; month 3;");
        long sum = 0;
        for (int seed = 40; seed < 49; seed++) {
            BarkMoney y = Check.in(land);
            Check.reigns(y, "any; any; month 3;");
            y.live(seed);
            sum += y.told(8);
        }
        x.live(7);
        x = Check.in(land);
        Check.reigns(x, "any; any; month 3;");
        c.due("mean", x, x.mean(40, 9), true, 0);
        long divisor = java.math.BigInteger.valueOf(sum).gcd(java.math.BigInteger.valueOf(9)).longValue();
        c.due("top", x.top(), sum / divisor);
        c.due("bottom", x.bottom(), 9 / divisor);
        c.due("all stays", x.told(8) * 10 + x.told(6), 1080);
        x = Check.in("war 7;");
        Check.reigns(x, "month 1;");
        c.due("mean", x, x.mean(0, 20), true, 0);
        c.due("top", x.top(), 7);
        c.due("bottom", x.bottom(), 1);
        Check.reigns(x, "stop;");
        x.mean(0, 20);
        c.due("0 by 1", x.top() * 10 + x.bottom(), 1);
    }

    private static void nothingElseTouchesLived() {
        BarkMoney x = Check.in("war 7;");
        Check.reigns(x, "month 1; any;");
        x.mark();
        x.live(0);
        Check.reigns(x, "month 4;");
        x.mean(0, 3);
        lived("the latest life", x, 1, 1, 0, 7, 0);
        x.undo();
        lived("behind undo", x, 1, 1, 0, 7, 0);
        x.live(10000);
        lived("behind a life refused", x, 1, 1, 0, 7, 0);
        x.land(0);
        lived("behind a new land", x, 1, 1, 0, 7, 0);
    }
}
