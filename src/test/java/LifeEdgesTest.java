/** Promises 56 to 58 at their boundaries: REIGNS that are LIVED, what is MISSED, the mean. */
public final class LifeEdgesTest {
    private static final Check c = new Check();
    private static final Twins rich = new Twins(c, Twins.RICH);
    private static final Twins empty = new Twins(c, x -> { });
    private static final int MIN = Integer.MIN_VALUE;
    private static final int MAX = Integer.MAX_VALUE;

    public static void main(String[] args) {
        seeds();
        noReigns();
        lived();
        livedIsOfTheLatest();
        missedPays();
        missedBuys();
        missedSells();
        missedTearsAndMends();
        missedMonths();
        missedAny();
        eachStepChangesAsItsCall();
        tests();
        testsAtTheMost();
        loops();
        threeHundred();
        oneLeft();
        draws();
        mean();
        meanOfSeeds();
        meanLeavesAll();
        c.end();
    }

    private static long fill(BarkMoney x, int person, int kind, int goal) {
        int has = x.sheets(person, kind, 0);
        while (has < goal) {
            int n = Math.min(999, goal - has);
            x.pay(person, kind, n);
            has += n;
        }
        return has;
    }

    /** A life of one STEP: whether it was MISSED, and that it changed nothing if so. */
    private static void one(Twins t, String step, boolean isMissed) {
        BarkMoney x = t.fresh();
        Twins.take(x, step, false);
        c.due("live '" + step + "'", x, x.live(0), 1, 0);
        c.due("MISSED of '" + step + "'", x, x.lived(0), isMissed ? 1 : 0, 0);
        c.due("left of '" + step + "'", x, x.lived(4), 0, 0);
        if (isMissed) {
            for (int what = 1; what < 4; what++) {
                c.due("lived(" + what + ") of '" + step + "'", x, x.lived(what), 0, 0);
            }
            BarkMoney y = t.fresh();
            Twins.take(y, "when level<0; end;", false);
            y.live(0);
            Twins.take(y, "any;", false);
            Twins.take(x, "any;", false);
            y.live(0);
            x.live(0);
            t.same("a MISSED '" + step + "'", y, x);
        }
    }

    // ---- refused calls

    private static void seeds() {
        rich.inside("seed 0", x -> x.live(0), 3);
        rich.inside("seed 9,999", x -> x.live(9999), 3);
        rich.beyond("seed", 1, x -> x.live(-1), x -> x.live(10000), x -> x.live(MIN), x -> x.live(MAX));
    }

    private static void noReigns() {
        empty.beyond("no REIGNS", 6, x -> x.live(0), x -> x.live(9999));
        empty.denied("no REIGNS", 6, x -> x.mean(0, 1), x -> x.mean(9980, 20));
        empty.beyond("1 is asked ahead of 6", 1, x -> x.live(-1), x -> x.live(10000));
        empty.denied("1 is asked ahead of 6", 1, x -> x.mean(-1, 1), x -> x.mean(0, 0), x -> x.mean(9981, 20));
        Twins.in(c, "person p; kind k worth 5; good g value 5;").beyond("none in a new LAND", 6, x -> x.live(0));
    }

    private static void lived() {
        // the life of RICH: a PAY of 10, a MONTH with WAR 30, any that bought one silk
        int[] due = {0, 1, 1, 40, 0};
        for (int i = 0; i < 5; i++) {
            int what = i;
            rich.asked("lived(" + what + ")", x -> x.lived(what), due[what]);
        }
        rich.beyond("what", 1, x -> x.lived(-1), x -> x.lived(5), x -> x.lived(MIN), x -> x.lived(MAX));
        empty.beyond("there was none", 6, x -> x.lived(0), x -> x.lived(4));
        empty.beyond("1 is asked ahead of 6", 1, x -> x.lived(-1), x -> x.lived(5));
    }

    private static void livedIsOfTheLatest() {
        BarkMoney x = new BarkMoney();
        x.live(0);
        c.due("a life refused is none", x, x.lived(0), -1, 6);
        Check.reigns(x, "month 2; any;");
        c.due("REIGNS alone are none", x, x.lived(0), -1, 6);
        x.mean(0, 5);
        c.due("a mean is none", x, x.lived(0), -1, 6);
        x.live(0);
        c.due("MISSED", x, x.lived(0), 1, 0);
        c.due("MONTHS", x, x.lived(1), 2, 0);
        Check.reigns(x, "month 5;");
        c.due("new REIGNS leave it", x, x.lived(1), 2, 0);
        x.live(10000);
        c.due("a life refused leaves it", x, x.lived(1), 2, 0);
        x.live(0);
        c.due("the latest", x, x.lived(1), 5, 0);
        c.due("MISSED begins again", x, x.lived(0), 0, 0);
    }

    // ---- what is MISSED

    private static void missedPays() {
        Twins t = Twins.in(c, "kind k worth 5; person p;", x -> fill(x, 0, 0, 9990));
        one(t, "pay p k 9;", false);
        one(t, "pay p k 10;", true);
        one(t, "pay p k 99;", true);
    }

    private static void missedBuys() {
        Twins t = Twins.in(c, "calm 9999; kind k worth 1; kind l worth 500; good g value 1 stock 9; good h value 50 stock 99; good i value 3 stock 99;"
            + "person p; person q; has p k 20; has p l 2; has q l 1;");
        one(t, "buy p g 9;", false);
        one(t, "buy p g 10;", true);
        one(t, "buy p h 10;", false);
        one(t, "buy p h 20;", true);
        one(t, "buy p i 6;", false);
        one(t, "buy p i 7;", true);
        one(t, "buy q g 1;", true);
        one(t, "buy q h 10;", false);
        Twins full = Twins.in(c, "calm 9999; kind k worth 333; kind j worth 1; good g value 1 stock 999; person p; has p j 99;", x -> x.pay(0, 0, 30), x -> {
            for (int i = 0; i < 10; i++) {
                x.buy(0, 0, 999);
                x.bring(0, 999);
            }
            return 0;
        });
        one(full, "buy p g 9;", false);
        one(full, "buy p g 10;", true);
    }

    private static void missedSells() {
        Twins t = Twins.in(c, "calm 9999; kind k worth 2; good g value 1; person p; person q; has p k 20;", x -> x.buy(0, 0, 8));
        one(t, "sell p g 8;", false);
        one(t, "sell p g 9;", true);
        one(t, "sell p g 7;", true);
        one(t, "sell q g 2;", true);
        Twins full = Twins.in(c, "calm 9999; kind k worth 1; good g value 1; person p; has p k 20;", x -> x.buy(0, 0, 9), x -> fill(x, 0, 0, 9994));
        one(full, "sell p g 5;", false);
        one(full, "sell p g 6;", true);
    }

    private static void missedTearsAndMends() {
        Twins t = Twins.in(c, "fee 50; kind k worth 5; person p; has p k 20;", x -> x.tear(0, 0, 8));
        one(t, "tear p k 12;", false);
        one(t, "tear p k 13;", true);
        one(t, "mend p k 8;", false);
        one(t, "mend p k 9;", true);
        Twins cut = Twins.in(c, "fee 0; kind k worth 5; person p; has p k 20;", x -> x.tear(0, 0, 20), x -> fill(x, 0, 0, 9999));
        // a MEND is cut: it can be all the same
        one(cut, "mend p k 20;", false);
        BarkMoney x = cut.fresh();
        Twins.take(x, "mend p k 20;", false);
        x.live(0);
        c.due("cut and burned", x.told(11), 100);
        c.due("none torn", x.sheets(0, 0, 1), 0);
    }

    private static void missedMonths() {
        Twins t = Twins.in(c, "war 7; kind k worth 5; person p;", x -> {
            for (int i = 0; i < 101; i++) {
                x.month(99 - (i == 100 ? 17 : 0));
            }
            return 0;
        });
        t.asked("MONTH", x -> x.told(6), 9982);
        one(t, "month 17;", false);
        one(t, "month 18;", true);
        one(t, "month 20;", true);
        BarkMoney x = t.fresh();
        Twins.take(x, "month 20; month 10; month 8; month 7; month 1;", false);
        c.due("live", x, x.live(0), 5, 0);
        c.due("MISSED as a whole", x, x.lived(0), 3, 0);
        c.due("MONTHS", x, x.lived(1), 17, 0);
        c.due("printed", x, x.lived(3), 17 * 7, 0);
        c.due("MONTH", x.told(6), 9999);
    }

    private static void missedAny() {
        one(Twins.in(c, "person p;"), "any;", true);
        one(Twins.in(c, "good g value 1;"), "any;", true);
        one(Twins.in(c, "kind k worth 1;"), "any;", true);
        one(Twins.in(c, "person p; good g value 1;"), "any;", true);
        one(Twins.in(c, "kind k worth 1; person p; good g value 1; has p k 1;"), "any;", false);
        one(Twins.in(c, "kind k worth 1; person p; good g value 1 stock 0; has p k 1;"), "any;", true);
        BarkMoney x = Check.in("kind k worth 1; person p; good g value 1; has p k 2;");
        Twins.take(x, "any; any; any;", false);
        c.due("live", x, x.live(0), 3, 0);
        c.due("MISSED", x, x.lived(0), 1, 0);
        c.due("bought", x, x.lived(2), 2, 0);
    }

    /** A STEP does to the LAND just what its call does. */
    private static void eachStepChangesAsItsCall() {
        String[] steps = {"pay bo leaf 7;", "buy ann silk 1;", "sell ann silk 1;", "tear bo leaf 5;", "mend bo leaf 2;", "month 4;"};
        Twins.Call[] calls = {x -> x.pay(1, 0, 7), x -> x.buy(0, 1, 1), x -> x.sell(0, 1, 1), x -> x.tear(1, 0, 5), x -> x.mend(1, 0, 2), x -> x.month(4)};
        for (int i = 0; i < steps.length; i++) {
            BarkMoney x = rich.fresh();
            BarkMoney y = rich.fresh();
            x.reigns(0);
            y.reigns(0);
            Twins.take(x, steps[i], false);
            x.live(0);
            calls[i].on(y);
            c.due("the call can be", y.status(), 0);
            Twins.take(x, "when level=0;any;end;", false);
            Twins.take(y, "when level=0;any;end;", false);
            x.live(0);
            y.live(0);
            rich.same("'" + steps[i] + "' and its call", y, x);
        }
    }

    // ---- when and loop

    private static int whens(BarkMoney x, String test) {
        Twins.take(x, "when " + test + "; month 1; end;", false);
        x.mark();
        x.live(0);
        int months = x.lived(1);
        x.undo();
        return months;
    }

    private static void compared(BarkMoney x, String what, int is) {
        for (int number = is - 1; number <= is + 1; number++) {
            if (number >= 0 && number <= 9999) {
                c.due(what + " " + is + " < " + number, whens(x, what + " < " + number), is < number ? 1 : 0);
                c.due(what + " " + is + " > " + number, whens(x, what + " > " + number), is > number ? 1 : 0);
                c.due(what + " " + is + " = " + number, whens(x, what + " = " + number), is == number ? 1 : 0);
            }
        }
    }

    private static void tests() {
        BarkMoney x = Check.in("calm 100; kind k worth 5; kind l worth 7; good g value 1 stock 0; good h value 1 stock 30; person p; person q; has p k 40; has p l 10; has q k 3;");
        compared(x, "level", 3);
        compared(x, "holds p", 270);
        compared(x, "holds q", 15);
        compared(x, "left g", 0);
        compared(x, "left h", 30);
        x.tear(0, 0, 40);
        compared(x, "holds p", 70);
        x.cross(0, 1, 10);
        compared(x, "holds p", 0);
    }

    private static void testsAtTheMost() {
        BarkMoney x = Check.in("calm 10; kind k worth 10; kind l worth 1; good g value 1 stock 999; person p; has p k 998; has p l 9;");
        c.due("LEVEL", x.told(7), 999);
        c.due("level = 999", whens(x, "level = 999"), 1);
        c.due("level < 999", whens(x, "level < 999"), 0);
        c.due("level > 998", whens(x, "level > 998"), 1);
        x.pay(0, 0, 1);
        c.due("WORTH", x.worth(0, 0), 9999);
        c.due("holds = 9,999", whens(x, "holds p = 9999"), 1);
        c.due("holds > 9,999", whens(x, "holds p > 9999"), 0);
        x.pay(0, 1, 1);
        c.due("10,000 > 9,999", whens(x, "holds p > 9999"), 1);
        c.due("10,000 = 9,999", whens(x, "holds p = 9999"), 0);
        for (int i = 0; i < 9; i++) {
            x.bring(0, 999);
        }
        x.bring(0, 9);
        c.due("left = 9,999", whens(x, "left g = 9999"), 1);
        c.due("left < 9,999", whens(x, "left g < 9999"), 0);
        x.month(1);
        c.due("LEVEL is 1,001", x.told(7), 1001);
        c.due("1,001 > 999", whens(x, "level > 999"), 1);
        c.due("1,001 = 999", whens(x, "level = 999"), 0);
        BarkMoney nobody = Check.in("person p; good g value 1 stock 0;");
        c.due("0 = 0", whens(nobody, "holds p = 0"), 1);
        c.due("0 < 0", whens(nobody, "holds p < 0"), 0);
        c.due("0 > 0", whens(nobody, "left g > 0"), 0);
        c.due("level > 0", whens(nobody, "level > 0"), 1);
    }

    private static void life(String text, int steps, int months, int left) {
        BarkMoney x = Check.in("person p; kind k worth 1; good g value 1;");
        Twins.take(x, text, false);
        c.due("STEPS of '" + text + "'", x, x.live(0), steps, 0);
        c.due("MONTHS of '" + text + "'", x, x.lived(1), months, 0);
        c.due("left of '" + text + "'", x, x.lived(4), left, 0);
        c.due("MONTH behind '" + text + "'", x.told(6), months);
    }

    private static void loops() {
        life("", 0, 0, 0);
        life("loop 1; month 1; end;", 2, 1, 0);
        life("loop 2; month 1; end;", 3, 2, 0);
        life("loop 99; month 1; end;", 100, 99, 0);
        life("loop 99; end;", 1, 0, 0);
        life("loop 1; end; month 1;", 2, 1, 0);
        life("loop 3; loop 4; month 1; end; end;", 1 + 3 + 12, 12, 0);
        life("loop 2; loop 3; loop 4; month 1; end; end; end;", 1 + 2 + 6 + 24, 24, 0);
        life("loop 2; loop 3; end; loop 4; month 1; end; end;", 1 + 2 * 2 + 8, 8, 0);
        life("loop 2; when level = 0; month 1; end; month 2; end;", 1 + 2 + 2, 4, 0);
        life("loop 2; when level = 1; month 1; end; month 2; end;", 1 + 6, 6, 0);
        life("when level = 0; loop 9; month 1; end; end; month 1;", 2, 1, 0);
        life("when level = 1; loop 9; month 1; end; end; month 1;", 12, 10, 0);
        life("when level = 1; when level = 1; when level = 0; month 1; end; month 2; end; month 4; end; month 8;", 6, 14, 0);
        life("stop; month 1;", 1, 0, 0);
        life("month 1; stop; month 2;", 2, 1, 0);
        life("loop 9; month 1; stop; end; month 9;", 3, 1, 0);
        life("loop 9; loop 9; when level = 1; month 1; stop; end; end; end; month 9;", 5, 1, 0);
        life("when level = 0; stop; end; month 1;", 2, 1, 0);
    }

    // ---- at most 300 STEPS

    private static void threeHundred() {
        // 1 + 2 x (1 + 99) is 201 STEPS
        String start = "loop 2; loop 99; month 1; end; end; ";
        life(start, 201, 198, 0);
        life(start + "loop 98; month 1; end;", 300, 296, 0);
        life(start + "loop 99; month 1; end;", 300, 296, 1);
        life(start + "loop 97; month 1; end; month 1;", 300, 296, 0);
        life(start + "loop 97; month 1; end; month 1; month 1;", 300, 296, 1);
        life(start + "loop 97; month 1; end;", 299, 295, 0);
        life("loop 99; loop 99; loop 99; month 1; end; end; end;", 300, 295, 1);
        life("loop 99; loop 99; loop 99; end; end; end;", 300, 0, 1);
        life("loop 3; loop 99; loop 99; end; end; end;", 300, 0, 1);
        life("loop 2; loop 99; loop 99; end; end; end;", 1 + 2 * 100, 0, 0);
    }

    private static void oneLeft() {
        String most = "loop 2; loop 99; month 1; end; end; loop 97; month 1; end; ";
        life(most + "when level = 0; month 1; end;", 300, 295, 0);
        life(most + "when level = 1; month 1; end;", 300, 295, 1);
        life(most + "when level = 1; end;", 300, 295, 0);
        life(most + "when level = 1; end; month 1;", 300, 295, 1);
        life(most + "loop 99; end;", 300, 295, 0);
        life(most + "loop 99; end; when level = 0; end;", 300, 295, 1);
        life(most + "stop;", 300, 295, 0);
        life(most + "stop; month 1;", 300, 295, 0);
        life(most + "month 1; stop;", 300, 296, 1);
        life(most + "loop 1; month 1; end;", 300, 295, 1);
        // the 300th is the last of a loop that has a round left, or none
        life("loop 99; month 1; month 1; end; loop 99; month 1; end; month 1;", 300, 298, 0);
        life("loop 99; month 1; month 1; end; loop 99; month 1; end; any;", 300, 297, 0);
        life("loop 99; month 1; month 1; end; month 1; loop 99; month 1; end; any;", 300, 298, 1);
    }

    // ---- draws

    private static void draws() {
        String land = "calm 9999; kind k worth 1; good g value 1 stock 99; good h value 1 stock 99; good i value 1 stock 99; good j value 1 stock 99; good l value 1 stock 99;"
            + "person p; person q; person r; person s; person t; has p k 99; has q k 99; has r k 99; has s k 99; has t k 99;";
        for (int seed : new int[] {0, 1, 2, 77, 4096, 5000, 8191, 9998, 9999}) {
            BarkMoney x = Check.in(land);
            Twins.take(x, "loop 50; any; end;", false);
            c.due("live", x, x.live(seed), 51, 0);
            long s = seed;
            int[][] owned = new int[5][5];
            for (int i = 0; i < 50; i++) {
                s = (s * 3079 + 11299) % 65536;
                int person = (int) (s / 8 % 5);
                s = (s * 3079 + 11299) % 65536;
                owned[person][(int) (s / 8 % 5)]++;
            }
            for (int person = 0; person < 5; person++) {
                for (int good = 0; good < 5; good++) {
                    c.due("goods by seed " + seed, x.goods(person, good), owned[person][good]);
                }
            }
        }
        // a MISSED one has drawn as well: the first by seed 0 is PERSON 1412 by 2, GOOD by the next
        BarkMoney x = Check.in("calm 9999; kind k worth 1; good g value 1; person p; person q; has q k 9;");
        Twins.take(x, "loop 8; any; end;", false);
        x.live(0);
        long s = 0;
        int missed = 0;
        for (int i = 0; i < 8; i++) {
            s = (s * 3079 + 11299) % 65536;
            missed += s / 8 % 2 == 0 ? 1 : 0;
            s = (s * 3079 + 11299) % 65536;
        }
        c.due("MISSED by p", x, x.lived(0), missed, 0);
        c.due("bought by q", x, x.lived(2), 8 - missed, 0);
    }

    // ---- mean

    private static void mean() {
        rich.granted("one seed", x -> x.mean(0, 1));
        rich.granted("twenty seeds", x -> x.mean(0, 20));
        rich.granted("the last seed", x -> x.mean(9999, 1));
        rich.granted("the last twenty", x -> x.mean(9980, 20));
        rich.denied("the last above 9,999", 1, x -> x.mean(9999, 2), x -> x.mean(9981, 20), x -> x.mean(9990, 11));
        rich.denied("seed", 1, x -> x.mean(-1, 1), x -> x.mean(-1, 20), x -> x.mean(10000, 1), x -> x.mean(MIN, 1), x -> x.mean(MAX, 20));
        rich.denied("many", 1, x -> x.mean(0, 0), x -> x.mean(0, 21), x -> x.mean(0, -1), x -> x.mean(0, MIN), x -> x.mean(0, MAX), x -> x.mean(9999, 0));
    }

    private static void meanOfSeeds() {
        String land = "calm 60; war 7; kind k worth 1; kind l worth 4; good g value 1; good h value 3; good i value 9; person p; person q; person r; has p k 30; has q l 9;";
        String reigns = "loop 4; any; end; when holds p > 25; pay r l 2; end; month 1; any;";
        for (int first : new int[] {0, 1, 4321, 9980}) {
            for (int many : new int[] {1, 2, 3, 19, 20}) {
                long sum = 0;
                for (int i = 0; i < many; i++) {
                    BarkMoney y = Check.in(land);
                    Twins.take(y, reigns, false);
                    y.live(first + i);
                    sum += y.told(8);
                }
                BarkMoney x = Check.in(land);
                Twins.take(x, reigns, false);
                c.due("mean", x, x.mean(first, many), true, 0);
                long common = java.math.BigInteger.valueOf(sum).gcd(java.math.BigInteger.valueOf(many)).longValue();
                c.due("top from " + first + ", " + many, x.top(), sum / common);
                c.due("bottom from " + first + ", " + many, x.bottom(), many / common);
            }
        }
        BarkMoney x = Check.in("person p;");
        x.reigns(0);
        x.forged(5, 2, 2);
        c.due("mean of nothing", x, x.mean(0, 20), true, 0);
        c.due("0 is 0 by 1", x.top() * 10 + x.bottom(), 1);
        x = Check.in("kind k worth 500; person p;");
        fill(x, 0, 0, 9999);
        Twins.take(x, "stop;", false);
        x.mean(7, 20);
        c.due("the same by every seed", x.top(), 9999 * 500);
        c.due("by 1", x.bottom(), 1);
    }

    private static void meanLeavesAll() {
        for (int many : new int[] {1, 20}) {
            BarkMoney y = rich.granted("mean", x -> x.mean(9980, many));
            y.forged(5, 2, 2);
            rich.same("a mean", rich.fresh(), y);
        }
    }
}
