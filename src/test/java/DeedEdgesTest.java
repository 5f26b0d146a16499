/** Promises 21 to 32 at their boundaries: what is done, and that a refused deed changes nothing. */
public final class DeedEdgesTest {
    private static final Check c = new Check();
    private static final Twins rich = new Twins(c, Twins.RICH);
    private static final int MIN = Integer.MIN_VALUE;
    private static final int MAX = Integer.MAX_VALUE;

    public static void main(String[] args) {
        pay();
        payToTheMost();
        buyNumbers();
        buyStock();
        buyWhatCanBePaid();
        buyToTheMost();
        sellNumbers();
        sellWhatHeHas();
        sellWhatCanBePaid();
        sellToTheMost();
        tear();
        mend();
        mendIsRoundedUp();
        mendIsCut();
        give();
        burn();
        cross();
        crossToTheMost();
        renew();
        renewByFives();
        renewIsCut();
        month();
        monthToTheLast();
        levelOfAMonth();
        rule();
        bring();
        printedAndBurnedUpToTheMost();
        c.end();
    }

    /** PAY in portions of 999 till he has so many. */
    private static long fill(BarkMoney x, int person, int kind, int goal) {
        int has = x.sheets(person, kind, 0);
        while (has < goal) {
            int n = Math.min(999, goal - has);
            x.pay(person, kind, n);
            has += n;
        }
        return has;
    }

    private static void books(String when, BarkMoney x, int out, int printed, int burned) {
        c.due("OUT " + when, x.told(8), out);
        c.due("printed " + when, x.told(10), printed);
        c.due("burned " + when, x.told(11), burned);
    }

    // ---- PAY

    private static void pay() {
        BarkMoney y = rich.inside("n 1", x -> x.pay(0, 0, 1), 8);
        books("behind pay", y, 220, 45, 30);
        c.due("LEVEL waits", y.told(7), 3);
        rich.inside("n 999", x -> x.pay(2, 2, 999), 1000);
        rich.beyond("n", 1, x -> x.pay(0, 0, 0), x -> x.pay(0, 0, 1000), x -> x.pay(0, 0, -1), x -> x.pay(0, 0, MIN), x -> x.pay(0, 0, MAX));
        rich.beyond("no such PERSON", 1, x -> x.pay(-1, 0, 1), x -> x.pay(3, 0, 1), x -> x.pay(MIN, 0, 1), x -> x.pay(MAX, 0, 1));
        rich.beyond("no such KIND", 1, x -> x.pay(0, -1, 1), x -> x.pay(0, 3, 1), x -> x.pay(0, MIN, 1), x -> x.pay(0, MAX, 1));
    }

    private static void payToTheMost() {
        Twins t = Twins.in(c, "kind k worth 5; person p; person q;", x -> fill(x, 0, 0, 9000));
        t.inside("to 9,999", x -> x.pay(0, 0, 999), 9999);
        Twins u = Twins.in(c, "kind k worth 5; person p; person q;", x -> fill(x, 0, 0, 9001));
        u.inside("to 9,999", x -> x.pay(0, 0, 998), 9999);
        u.beyond("above 9,999", 7, x -> x.pay(0, 0, 999));
        u.beyond("1 is asked ahead of 7", 1, x -> x.pay(0, 0, 1000), x -> x.pay(0, 1, 999), x -> x.pay(2, 0, 999));
        u.inside("another PERSON has room", x -> x.pay(1, 0, 999), 999);
        Twins full = Twins.in(c, "kind k worth 5; person p; person q;", x -> fill(x, 0, 0, 9999));
        full.beyond("full", 7, x -> x.pay(0, 0, 1), x -> x.pay(0, 0, 999));
        BarkMoney y = full.inside("torn ones have a limit of their own", x -> x.tear(0, 0, 999), 999);
        c.due("whole ones again", y, y.pay(0, 0, 999), 9999, 0);
        c.due("full again", y, y.pay(0, 0, 1), -1, 7);
    }

    // ---- BUY

    private static void buyNumbers() {
        // ann has 7 leaves (5) and a bark (20); silk is 30
        BarkMoney y = rich.inside("n 1", x -> x.buy(0, 1, 1), 3);
        books("behind buy", y, 185, 40, 60);
        c.due("sheets of KIND 0", y.sheets(0, 0, 0), 5);
        c.due("sheets of KIND 1", y.sheets(0, 1, 0), 0);
        c.due("goods and STOCK", y.goods(0, 1) * 100 + y.good(1, 1), 208);
        rich.beyond("n", 1, x -> x.buy(0, 1, 0), x -> x.buy(0, 1, 1000), x -> x.buy(0, 1, -1), x -> x.buy(0, 1, MIN), x -> x.buy(0, 1, MAX));
        rich.beyond("no such PERSON", 1, x -> x.buy(-1, 1, 1), x -> x.buy(3, 1, 1), x -> x.buy(MIN, 1, 1), x -> x.buy(MAX, 1, 1));
        rich.beyond("no such GOOD", 1, x -> x.buy(0, -1, 1), x -> x.buy(0, 2, 1), x -> x.buy(0, MIN, 1), x -> x.buy(0, MAX, 1));
        rich.beyond("it can't be PAID exactly", 7, x -> x.buy(0, 0, 1), x -> x.buy(2, 1, 1));
        rich.beyond("he has too little", 7, x -> x.buy(0, 1, 2), x -> x.buy(0, 0, 999));
    }

    private static final String MARKET = "calm 9999; kind k worth 1; kind l worth 500; good g value 1 stock 999; good h value 10 stock 20;"
        + "good i value 10 stock 999; person p; person q; has p k 999; has p l 2; has q k 9;";

    private static void buyStock() {
        Twins t = Twins.in(c, MARKET);
        BarkMoney y = t.inside("all of STOCK", x -> x.buy(0, 1, 20), 200);
        c.due("none is left", y.good(1, 1), 0);
        c.due("one of none", y, y.buy(0, 1, 1), -1, 7);
        t.beyond("one more than STOCK", 7, x -> x.buy(0, 1, 21));
        y = t.inside("999 of 999", x -> x.buy(0, 0, 999), 500);
        c.due("500 and 499 times 1", y.sheets(0, 0, 0) * 10 + y.sheets(0, 1, 0), 5001);
        t.beyond("1 is asked ahead of 7", 1, x -> x.buy(0, 1, 1000), x -> x.buy(2, 1, 21), x -> x.buy(0, 3, 21));
        Twins.in(c, "calm 9999; kind k worth 1; good g value 1 stock 0; person p; has p k 9;").beyond("STOCK 0", 7, x -> x.buy(0, 0, 1));
    }

    private static void buyWhatCanBePaid() {
        Twins t = Twins.in(c, MARKET);
        t.inside("just what he has", x -> x.buy(1, 0, 9), 9);
        t.beyond("1 more than he has", 7, x -> x.buy(1, 0, 10));
        t.inside("a sum of 990", x -> x.buy(0, 2, 99), 491);
        t.beyond("a sum of 1,000, though he has two sheets of 500", 7, x -> x.buy(0, 2, 100));
        t.beyond("sums far above", 7, x -> x.buy(0, 2, 999));
        Twins dear = Twins.in(c, "calm 10; kind k worth 500; good g value 99 stock 999; person p; has p k 999;");
        dear.beyond("sums beyond an int", 7, x -> x.buy(0, 0, 999), x -> x.buy(0, 0, 1));
        Twins odd = Twins.in(c, "calm 9999; kind k worth 2; kind l worth 4; good g value 3 stock 999; person p; has p k 99; has p l 99;");
        odd.beyond("3 by 2s and 4s", 7, x -> x.buy(0, 0, 1), x -> x.buy(0, 0, 3));
        odd.inside("6 by 2s and 4s", x -> x.buy(0, 0, 2), 2);
        Twins torn = Twins.in(c, "calm 9999; kind k worth 3; good g value 3 stock 999; person p; has p k 5;", x -> x.tear(0, 0, 2));
        torn.inside("whole ones", x -> x.buy(0, 0, 3), 3);
        torn.beyond("torn ones don't pay", 7, x -> x.buy(0, 0, 4));
        Twins silver = Twins.in(c, "calm 9999; kind k worth 3; good g value 3; person p silver 999;");
        silver.beyond("SILVER does not pay", 7, x -> x.buy(0, 0, 1));
        // OUT 100 by 100: PRICE is twice the VALUE
        Twins twice = Twins.in(c, "calm 100; kind k worth 1; good g value 5; person p; has p k 100;");
        twice.inside("PRICE by LEVEL", x -> x.buy(0, 0, 10), 100);
        Twins once = Twins.in(c, "calm 101; kind k worth 1; good g value 5; person p; has p k 100;");
        once.inside("PRICE by LEVEL", x -> x.buy(0, 0, 10), 50);
    }

    private static final String HOARD = "calm 9999; kind k worth 333; kind j worth 1; good g value 1 stock 999; person p; has p j 99;";

    /** He has 9,990 of the GOOD, 99 sheets of 1 and none of 333; STOCK is 999. */
    private static long hoard(BarkMoney x) {
        x.pay(0, 0, 30);
        for (int i = 0; i < 10; i++) {
            x.buy(0, 0, 999);
            x.bring(0, 999);
        }
        return x.goods(0, 0);
    }

    private static void buyToTheMost() {
        Twins t = Twins.in(c, HOARD, DeedEdgesTest::hoard);
        t.asked("he has 9,990", x -> x.goods(0, 0), 9990);
        BarkMoney y = t.inside("to 9,999", x -> x.buy(0, 0, 9), 9);
        c.due("he has", y.goods(0, 0), 9999);
        c.due("not one more", y, y.buy(0, 0, 1), -1, 7);
        t.beyond("above 9,999", 7, x -> x.buy(0, 0, 10), x -> x.buy(0, 0, 99));
        t.asked("couldBuy asks it, too", x -> x.couldBuy(0, 0), 9);
    }

    // ---- SELL

    private static void sellNumbers() {
        // ann has one silk; 30 is PAID by 5 + 5 + 20 or 50s and 20s: 20 + 5 + 5
        BarkMoney y = rich.inside("n 1", x -> x.sell(0, 1, 1), 3);
        books("behind sell", y, 245, 70, 30);
        c.due("sheets", y.sheets(0, 0, 0) * 10 + y.sheets(0, 1, 0), 92);
        c.due("goods and STOCK", y.goods(0, 1) * 100 + y.good(1, 1), 10);
        rich.beyond("n", 1, x -> x.sell(0, 1, 0), x -> x.sell(0, 1, 1000), x -> x.sell(0, 1, -1), x -> x.sell(0, 1, MIN), x -> x.sell(0, 1, MAX));
        rich.beyond("no such PERSON", 1, x -> x.sell(-1, 1, 1), x -> x.sell(3, 1, 1), x -> x.sell(MIN, 1, 1), x -> x.sell(MAX, 1, 1));
        rich.beyond("no such GOOD", 1, x -> x.sell(0, -1, 1), x -> x.sell(0, 2, 1), x -> x.sell(0, MIN, 1), x -> x.sell(0, MAX, 1));
        rich.beyond("he has not so much", 7, x -> x.sell(0, 1, 2), x -> x.sell(0, 0, 1), x -> x.sell(1, 1, 1), x -> x.sell(0, 1, 999));
        rich.beyond("1 is asked ahead of 7", 1, x -> x.sell(0, 0, 1000));
    }

    private static void sellWhatHeHas() {
        Twins t = Twins.in(c, HOARD, DeedEdgesTest::hoard);
        BarkMoney y = t.inside("999 of 9,990", x -> x.sell(0, 0, 999), 3);
        c.due("printed ones", y.sheets(0, 0, 0), 3);
        c.due("STOCK", y.good(0, 1), 1998);
        Twins few = Twins.in(c, HOARD, x -> x.buy(0, 0, 7));
        few.inside("all that he has", x -> x.sell(0, 0, 7), 7);
        few.beyond("1 more than he has", 7, x -> x.sell(0, 0, 8));
    }

    private static void sellWhatCanBePaid() {
        Twins t = Twins.in(c, "calm 9999; kind k worth 10; kind l worth 500; good g value 10 stock 999; person p; has p k 200;",
            x -> x.buy(0, 0, 99), x -> x.buy(0, 0, 1));
        t.inside("for 990", x -> x.sell(0, 0, 99), 50);
        t.beyond("for 1,000, though two sheets of 500 would do", 7, x -> x.sell(0, 0, 100));
        Twins odd = Twins.in(c, "calm 9999; kind k worth 2; good g value 1; person p; has p k 9;", x -> x.buy(0, 0, 4));
        odd.inside("2 by a 2", x -> x.sell(0, 0, 2), 1);
        odd.beyond("3 by 2s", 7, x -> x.sell(0, 0, 3), x -> x.sell(0, 0, 1));
        // any number of each KIND: of those that he has not, too
        Twins other = Twins.in(c, "calm 9999; kind k worth 2; kind l worth 4; good g value 4; person p; has p k 2;", x -> x.buy(0, 0, 1));
        BarkMoney y = other.inside("by a KIND that he never had", x -> x.sell(0, 0, 1), 1);
        c.due("it is KIND 1", y.sheets(0, 0, 0) * 10 + y.sheets(0, 1, 0), 1);
        // PRICE at which he sells is that of the latest MONTH
        Twins risen = Twins.in(c, "calm 50; kind k worth 10; good g value 10; person p; has p k 4;", x -> x.buy(0, 0, 1), x -> x.pay(0, 0, 7), x -> x.month(1));
        risen.inside("OUT 100 by 50: thrice the VALUE", x -> x.sell(0, 0, 1), 3);
    }

    private static void sellToTheMost() {
        Twins stock = Twins.in(c, "calm 9999; kind k worth 1; good g value 1 stock 999; person p; has p k 9;", x -> x.buy(0, 0, 9), x -> {
            for (int i = 0; i < 9; i++) {
                x.bring(0, 999);
            }
            return x.bring(0, 13);
        });
        stock.asked("STOCK 9,994", x -> x.good(0, 1), 9994);
        BarkMoney y = stock.inside("STOCK to 9,999", x -> x.sell(0, 0, 5), 5);
        c.due("STOCK is full", y, y.sell(0, 0, 1), -1, 7);
        stock.beyond("STOCK above 9,999", 7, x -> x.sell(0, 0, 6), x -> x.sell(0, 0, 9));
        Twins sheets = Twins.in(c, "calm 9999; kind k worth 1; kind l worth 500; good g value 1 stock 999; person p; has p k 99;",
            x -> x.buy(0, 0, 50), x -> fill(x, 0, 0, 9990));
        y = sheets.inside("sheets to 9,999", x -> x.sell(0, 0, 9), 9);
        c.due("he has", y.sheets(0, 0, 0), 9999);
        sheets.beyond("sheets above 9,999", 7, x -> x.sell(0, 0, 10));
        Twins last = Twins.in(c, "calm 9999; kind l worth 500; kind k worth 3; good g value 3 stock 999; person p; has p k 99;",
            x -> x.buy(0, 0, 50), x -> fill(x, 0, 1, 9999));
        last.beyond("of the last KIND, too", 7, x -> x.sell(0, 0, 1));
    }

    // ---- TEAR, MEND

    private static void tear() {
        // bo has 13 whole leaves and 3 torn ones
        BarkMoney y = rich.inside("n 1", x -> x.tear(1, 0, 1), 4);
        books("behind tear", y, 215, 40, 30);
        rich.inside("all that he has", x -> x.tear(1, 0, 13), 16);
        rich.beyond("he has not so many", 7, x -> x.tear(1, 0, 14), x -> x.tear(1, 1, 1), x -> x.tear(1, 0, 999));
        rich.beyond("n", 1, x -> x.tear(1, 0, 0), x -> x.tear(1, 0, 1000), x -> x.tear(1, 0, -1), x -> x.tear(1, 0, MIN), x -> x.tear(1, 0, MAX));
        rich.beyond("no such PERSON", 1, x -> x.tear(-1, 0, 1), x -> x.tear(3, 0, 1), x -> x.tear(MIN, 0, 1), x -> x.tear(MAX, 0, 1));
        rich.beyond("no such KIND", 1, x -> x.tear(1, -1, 1), x -> x.tear(1, 3, 1), x -> x.tear(1, MIN, 1), x -> x.tear(1, MAX, 1));
        Twins.in(c, "kind k worth 5; person p; has p k 999;").inside("n 999", x -> x.tear(0, 0, 999), 999);
        Twins many = Twins.in(c, "kind k worth 5; person p; has p k 20;", x -> {
            for (int i = 0; i < 10; i++) {
                x.pay(0, 0, 999);
                x.tear(0, 0, 999);
            }
            return 0;
        });
        many.asked("9,990 are torn", x -> x.sheets(0, 0, 1), 9990);
        y = many.inside("to 9,999", x -> x.tear(0, 0, 9), 9999);
        c.due("not one more", y, y.tear(0, 0, 1), -1, 7);
        many.beyond("above 9,999", 7, x -> x.tear(0, 0, 10), x -> x.tear(0, 0, 20));
    }

    private static void mend() {
        // FEE is 10: of 3 torn ones 1 is kept
        BarkMoney y = rich.inside("all that he has", x -> x.mend(1, 0, 3), 2);
        books("behind mend", y, 210, 40, 35);
        c.due("sheets", y.sheets(1, 0, 0) * 10 + y.sheets(1, 0, 1), 150);
        y = rich.inside("n 1: it is kept", x -> x.mend(1, 0, 1), 0);
        books("behind mend", y, 210, 40, 35);
        c.due("sheets", y.sheets(1, 0, 0) * 10 + y.sheets(1, 0, 1), 132);
        rich.beyond("he has not so many", 7, x -> x.mend(1, 0, 4), x -> x.mend(0, 0, 1), x -> x.mend(1, 0, 999));
        rich.beyond("n", 1, x -> x.mend(1, 0, 0), x -> x.mend(1, 0, 1000), x -> x.mend(1, 0, -1), x -> x.mend(1, 0, MIN), x -> x.mend(1, 0, MAX));
        rich.beyond("no such PERSON", 1, x -> x.mend(-1, 0, 1), x -> x.mend(3, 0, 1), x -> x.mend(MIN, 0, 1), x -> x.mend(MAX, 0, 1));
        rich.beyond("no such KIND", 1, x -> x.mend(1, -1, 1), x -> x.mend(1, 3, 1), x -> x.mend(1, MIN, 1), x -> x.mend(1, MAX, 1));
        Twins.in(c, "fee 0; kind k worth 5; person p; has p k 999;", x -> x.tear(0, 0, 999)).inside("n 999", x -> x.mend(0, 0, 999), 999);
    }

    private static int keptBySteps(int n, int fee) {
        int kept = 0;
        while (kept * 100 < n * fee) {
            kept++;
        }
        return kept;
    }

    private static void mendIsRoundedUp() {
        for (int fee : new int[] {0, 1, 3, 10, 33, 49, 50}) {
            for (int n : new int[] {1, 2, 3, 33, 34, 99, 100, 101, 998, 999}) {
                BarkMoney x = Check.in("fee " + fee + "; kind k worth 5; person p; has p k 999;");
                x.tear(0, 0, 999);
                int kept = keptBySteps(n, fee);
                c.due("kept of " + n + " by " + fee, x, x.keptOf(n), kept, 0);
                c.due("mend " + n + " by " + fee, x, x.mend(0, 0, n), n - kept, 0);
                c.due("torn ones are left", x.sheets(0, 0, 1), 999 - n);
                c.due("burned", x.told(11), kept * 5);
            }
        }
    }

    private static Twins torn(int fee, int torn, int whole) {
        return Twins.in(c, "fee " + fee + "; kind k worth 5; person p; has p k " + torn + ";", x -> x.tear(0, 0, torn), x -> fill(x, 0, 0, whole));
    }

    private static void mended(Twins t, int n, int back, int left) {
        int burned = t.fresh().told(11);
        int out = t.fresh().told(8);
        int printed = t.fresh().told(10);
        BarkMoney y = t.inside("MEND of " + n, x -> x.mend(0, 0, n), back);
        c.due("whole", y.sheets(0, 0, 0), 9999);
        c.due("torn", y.sheets(0, 0, 1), left);
        c.due("what he has not back is burned", y.told(11), burned + (n - back) * 5);
        c.due("OUT is less by it", y.told(8), out - (n - back) * 5);
        c.due("nothing is printed", y.told(10), printed);
    }

    private static void mendIsCut() {
        mended(torn(0, 20, 9990), 9, 9, 11);
        mended(torn(0, 20, 9990), 10, 9, 10);
        mended(torn(0, 20, 9990), 20, 9, 0);
        mended(torn(0, 20, 9999), 1, 0, 19);
        mended(torn(50, 20, 9990), 18, 9, 2);
        mended(torn(50, 20, 9990), 19, 9, 1);
        mended(torn(50, 20, 9990), 20, 9, 0);
    }

    // ---- GIVE, BURN, CROSS

    private static void give() {
        BarkMoney y = rich.granted("n 1", x -> x.give(1, 0, 0, 1));
        books("behind give", y, 215, 40, 30);
        c.due("both", y.sheets(1, 0, 0) * 100 + y.sheets(0, 0, 0), 1208);
        y = rich.granted("all whole ones", x -> x.give(1, 2, 0, 13));
        c.due("torn ones stay", y.sheets(1, 0, 1), 3);
        c.due("they came", y.sheets(2, 0, 0), 13);
        rich.denied("he has not so many", 7, x -> x.give(1, 0, 0, 14), x -> x.give(1, 0, 1, 1), x -> x.give(0, 1, 0, 999));
        rich.denied("himself", 1, x -> x.give(0, 0, 0, 1), x -> x.give(1, 1, 0, 1), x -> x.give(2, 2, 0, 1), x -> x.give(1, 1, 0, 14));
        rich.denied("n", 1, x -> x.give(1, 0, 0, 0), x -> x.give(1, 0, 0, 1000), x -> x.give(1, 0, 0, -1), x -> x.give(1, 0, 0, MIN), x -> x.give(1, 0, 0, MAX));
        rich.denied("no such PERSON", 1, x -> x.give(-1, 0, 0, 1), x -> x.give(3, 0, 0, 1), x -> x.give(MIN, 0, 0, 1), x -> x.give(MAX, 0, 0, 1));
        rich.denied("no such other", 1, x -> x.give(1, -1, 0, 1), x -> x.give(1, 3, 0, 1), x -> x.give(1, MIN, 0, 1), x -> x.give(1, MAX, 0, 1));
        rich.denied("neither", 1, x -> x.give(-1, -1, 0, 1), x -> x.give(3, 3, 0, 1));
        rich.denied("no such KIND", 1, x -> x.give(1, 0, -1, 1), x -> x.give(1, 0, 3, 1), x -> x.give(1, 0, MIN, 1), x -> x.give(1, 0, MAX, 1));
        Twins full = Twins.in(c, "kind k worth 5; person p; person q; has p k 999;", x -> fill(x, 1, 0, 9990));
        y = full.granted("to 9,999", x -> x.give(0, 1, 0, 9));
        c.due("he has", y.sheets(1, 0, 0), 9999);
        full.denied("above 9,999", 7, x -> x.give(0, 1, 0, 10), x -> x.give(0, 1, 0, 999));
        y = full.granted("n 999", x -> x.give(1, 0, 0, 999));
        c.due("he has", y.sheets(0, 0, 0), 1998);
    }

    private static void burn() {
        BarkMoney y = rich.inside("n 1", x -> x.burn(1, 0, 1), 12);
        books("behind burn", y, 210, 40, 35);
        y = rich.inside("all whole ones", x -> x.burn(1, 0, 13), 0);
        c.due("torn ones stay", y.sheets(1, 0, 1), 3);
        rich.beyond("he has not so many", 7, x -> x.burn(1, 0, 14), x -> x.burn(1, 1, 1), x -> x.burn(0, 0, 999));
        rich.beyond("n", 1, x -> x.burn(1, 0, 0), x -> x.burn(1, 0, 1000), x -> x.burn(1, 0, -1), x -> x.burn(1, 0, MIN), x -> x.burn(1, 0, MAX));
        rich.beyond("no such PERSON", 1, x -> x.burn(-1, 0, 1), x -> x.burn(3, 0, 1), x -> x.burn(MIN, 0, 1), x -> x.burn(MAX, 0, 1));
        rich.beyond("no such KIND", 1, x -> x.burn(1, -1, 1), x -> x.burn(1, 3, 1), x -> x.burn(1, MIN, 1), x -> x.burn(1, MAX, 1));
        Twins.in(c, "kind k worth 5; person p; has p k 999;").inside("n 999", x -> x.burn(0, 0, 999), 0);
    }

    private static void cross() {
        // LEVEL is 3, a leaf is worth 5
        BarkMoney y = rich.inside("5 by 3", x -> x.cross(1, 0, 1), 1);
        books("behind cross", y, 210, 40, 30);
        c.due("SILVER", y.silver(1), 1);
        rich.inside("10 by 3, together", x -> x.cross(1, 0, 2), 3);
        rich.inside("15 by 3", x -> x.cross(1, 0, 3), 5);
        y = rich.inside("all whole ones", x -> x.cross(1, 0, 13), 21);
        c.due("torn ones stay", y.sheets(1, 0, 1), 3);
        c.due("LEVEL waits", y.told(7), 3);
        rich.beyond("he has not so many", 7, x -> x.cross(1, 0, 14), x -> x.cross(1, 1, 1), x -> x.cross(0, 0, 999));
        rich.beyond("n", 1, x -> x.cross(1, 0, 0), x -> x.cross(1, 0, 1000), x -> x.cross(1, 0, -1), x -> x.cross(1, 0, MIN), x -> x.cross(1, 0, MAX));
        rich.beyond("no such PERSON", 1, x -> x.cross(-1, 0, 1), x -> x.cross(3, 0, 1), x -> x.cross(MIN, 0, 1), x -> x.cross(MAX, 0, 1));
        rich.beyond("no such KIND", 1, x -> x.cross(1, -1, 1), x -> x.cross(1, 3, 1), x -> x.cross(1, MIN, 1), x -> x.cross(1, MAX, 1));
        Twins.in(c, "calm 10; kind k worth 1; person p; has p k 10;").inside("1 by 2 is 0", x -> x.cross(0, 0, 1), 0);
    }

    private static void crossToTheMost() {
        Twins t = Twins.in(c, "calm 9999; kind k worth 500; kind l worth 1; person p silver 9999; has p l 9;", x -> x.pay(0, 0, 999));
        BarkMoney y = t.inside("to 99,999", x -> x.cross(0, 0, 180), 90000);
        c.due("he has", y.silver(0), 99999);
        c.due("not 1 more", y, y.cross(0, 1, 1), -1, 7);
        c.due("he has them still", y.sheets(0, 1, 0), 9);
        t.beyond("above 99,999", 7, x -> x.cross(0, 0, 181), x -> x.cross(0, 0, 999));
        Twins near = Twins.in(c, "calm 9999; kind k worth 500; kind l worth 1; person p silver 9998; has p l 9;", x -> x.pay(0, 0, 999), x -> x.cross(0, 0, 180));
        near.inside("1 to 99,999", x -> x.cross(0, 1, 1), 1);
        near.beyond("2 above it", 7, x -> x.cross(0, 1, 2));
        Twins nothing = Twins.in(c, "calm 10; kind k worth 500; kind l worth 1; person p silver 9999; has p l 10;",
            x -> x.pay(0, 0, 999), x -> x.cross(0, 0, 360));
        y = nothing.inside("0 by LEVEL 2 is no more", x -> x.cross(0, 1, 1), 0);
        c.due("SILVER is full", y.silver(0), 99999);
        nothing.beyond("1 by LEVEL 2 is", 7, x -> x.cross(0, 1, 2));
    }

    // ---- RENEW

    private static void renew() {
        // ann has 7 leaves, bo 13 and 3 torn ones: 1 and 3 barks of 20 for 35 and 80
        BarkMoney y = rich.inside("KIND 0", x -> x.renew(0), 115 - 80);
        books("behind renew", y, 180, 120, 145);
        c.due("ann", y.sheets(0, 0, 0) * 10 + y.sheets(0, 1, 0), 2);
        c.due("bo", y.sheets(1, 0, 0) * 100 + y.sheets(1, 0, 1) * 10 + y.sheets(1, 1, 0), 3);
        c.due("cy", y.sheets(2, 1, 0) * 10 + y.sheets(2, 2, 0), 1);
        c.due("LEVEL waits", y.told(7), 3);
        rich.inside("the last but one", x -> x.renew(1), 20);
        rich.beyond("the last KIND", 7, x -> x.renew(2));
        rich.beyond("no such KIND", 1, x -> x.renew(-1), x -> x.renew(3), x -> x.renew(MIN), x -> x.renew(MAX));
        Twins.in(c, "kind k worth 5; person p; has p k 9;").beyond("the only KIND", 7, x -> x.renew(0));
        new Twins(c, x -> { }).beyond("no KINDS", 1, x -> x.renew(0));
        Twins.in(c, "kind k worth 5; kind l worth 6;").inside("no PEOPLE", x -> x.renew(0), 0);
        Twins.in(c, "kind k worth 1; kind l worth 6; person p; has p k 5;").inside("OUT is more by 1: -1, not NONE", x -> x.renew(0), -1);
        Twins.in(c, "kind k worth 1; kind l worth 500; person p; has p k 5;").inside("far more", x -> x.renew(0), -495);
    }

    private static void renewByFives() {
        for (int whole = 0; whole <= 11; whole++) {
            for (int torn = 0; torn <= 6; torn++) {
                BarkMoney x = Check.in("kind k worth 7; kind l worth 11; kind m worth 13; person p; has p k " + (whole + torn) + "; has p l 2; has p m 4;");
                if (torn > 0) {
                    x.tear(0, 0, torn);
                }
                x.tear(0, 1, 1);
                int fives = (whole + torn) / 5;
                int lost = (whole + torn) * 7 - fives * 11;
                String what = whole + " whole, " + torn + " torn";
                c.due("loses of " + what, x, x.loses(0, 0), lost, 0);
                c.due("losers of " + what, x, x.losers(0), lost > 0 ? 1 : 0, 0);
                c.due("renew of " + what, x, x.renew(0), lost, 0);
                c.due("none of the old KIND", x.sheets(0, 0, 0) + x.sheets(0, 0, 1), 0);
                c.due("new ones, whole", x.sheets(0, 1, 0), 1 + fives);
                c.due("torn ones of the next KIND stay", x.sheets(0, 1, 1), 1);
                c.due("other KINDS stay", x.sheets(0, 2, 0), 4);
                books("of " + what, x, 22 + 52 + fives * 11, fives * 11, (whole + torn) * 7);
            }
        }
    }

    private static void renewIsCut() {
        for (int has = 9997; has <= 9999; has++) {
            for (int old = 5; old <= 20; old += 5) {
                BarkMoney x = Check.in("kind k worth 7; kind l worth 11; person p; person q; has p k " + old + "; has q k 10;");
                fill(x, 0, 1, has);
                int printed = x.told(10);
                int came = Math.min(old / 5, 9999 - has);
                String what = old / 5 + " to " + has;
                c.due("loses, " + what, x, x.loses(0, 0), old * 7 - came * 11, 0);
                c.due("renew, " + what, x, x.renew(0), old * 7 - came * 11 + 70 - 22, 0);
                c.due("he has, " + what, x.sheets(0, 1, 0), has + came);
                c.due("another is not cut", x.sheets(1, 1, 0), 2);
                c.due("old ones are gone", x.sheets(0, 0, 0), 0);
                c.due("printed, " + what, x.told(10), printed + came * 11 + 22);
                c.due("burned, " + what, x.told(11), (old + 10) * 7);
            }
        }
        // the most that can be renewed: 9,999 whole and 9,999 torn
        BarkMoney x = Check.in("kind k worth 7; kind l worth 11; person p;");
        for (int i = 0; i < 11; i++) {
            int n = i < 10 ? 999 : 9;
            x.pay(0, 0, n);
            x.tear(0, 0, n);
        }
        fill(x, 0, 0, 9999);
        c.due("all", x, x.renew(0), 19998 * 7 - 3999 * 11, 0);
        c.due("3,999 for 19,998", x.sheets(0, 1, 0), 3999);
    }

    // ---- MONTH, RULE, BRING

    private static void month() {
        // OUT 215, WAR 30, CALM 100
        BarkMoney y = rich.inside("n 1", x -> x.month(1), 3);
        books("behind a MONTH", y, 245, 70, 30);
        c.due("soldiers", y.told(9), 60);
        c.due("MONTH", y.told(6), 2);
        y = rich.inside("n 99", x -> x.month(99), 32);
        books("behind 99 MONTHS", y, 3185, 3010, 30);
        c.due("MONTH", y.told(6), 100);
        rich.beyond("n", 1, x -> x.month(0), x -> x.month(100), x -> x.month(-1), x -> x.month(MIN), x -> x.month(MAX));
    }

    private static long toMonth(BarkMoney x, int goal) {
        int month = x.told(6);
        while (month < goal) {
            int n = Math.min(99, goal - month);
            x.month(n);
            month += n;
        }
        return month;
    }

    private static void monthToTheLast() {
        Twins t = Twins.in(c, "war 999; calm 9999; person p; kind k worth 5; has p k 3;", x -> toMonth(x, 9950));
        BarkMoney y = t.inside("to 9,999", x -> x.month(49), 1 + (9999 * 999 + 15) / 9999);
        c.due("MONTH", y.told(6), 9999);
        c.due("soldiers", y.told(9), 9999 * 999);
        c.due("not one more", y, y.month(1), -1, 4);
        c.due("LEVEL in 999 MONTHS more does not matter", y, y.levelIn(999), 1 + (10998 * 999 + 15) / 9999, 0);
        c.due("monthsTill, too", y, y.monthsTill(999), 1, 0);
        t.beyond("above 9,999, as a whole", 4, x -> x.month(50), x -> x.month(99));
        t.beyond("1 is asked ahead of 4", 1, x -> x.month(100));
    }

    private static void levelOfAMonth() {
        for (int n = 98; n <= 102; n++) {
            BarkMoney x = Check.in("calm 100; kind k worth 1; person p;");
            x.pay(0, 0, n);
            c.due("LEVEL does not know yet", x.told(7), 1);
            c.due("LEVEL by OUT " + n, x, x.month(1), n < 100 ? 1 : 2, 0);
        }
        BarkMoney x = Check.in("calm 100; war 50; kind k worth 1; person p; has p k 49;");
        c.due("99", x, x.month(1), 1, 0);
        c.due("149", x, x.month(1), 2, 0);
        x.burn(0, 0, 49);
        c.due("it does not know yet", x.told(7), 2);
        c.due("150: soldiers' sheets are OUT, too", x, x.month(1), 2, 0);
        x.rule(2, 0);
        x.rule(0, 9999);
        c.due("RULES wait, too", x.told(7), 2);
        c.due("LEVEL falls", x, x.month(1), 1, 0);
    }

    private static void rule() {
        int[] least = {10, 0, 0};
        int[] most = {9999, 50, 999};
        for (int i = 0; i < 3; i++) {
            int what = i;
            c.due("the least", rich.granted("rule", x -> x.rule(what, least[what])).told(3 + what), least[what]);
            c.due("the most", rich.granted("rule", x -> x.rule(what, most[what])).told(3 + what), most[what]);
            rich.denied("rule " + what, 1, x -> x.rule(what, least[what] - 1), x -> x.rule(what, most[what] + 1), x -> x.rule(what, MIN), x -> x.rule(what, MAX),
                x -> x.rule(what, -1));
        }
        rich.denied("no such rule", 1, x -> x.rule(-1, 10), x -> x.rule(3, 10), x -> x.rule(MIN, 10), x -> x.rule(MAX, 10));
        BarkMoney y = rich.granted("CALM", x -> x.rule(0, 10));
        c.due("others stay", y.told(4) * 100 + y.told(5), 1030);
        c.due("LEVEL waits", y.told(7), 3);
        c.due("ROOM asks it now", y, y.room(), 0, 0);
        y = rich.granted("FEE", x -> x.rule(1, 50));
        c.due("FEE is asked now", y, y.keptOf(3), 2, 0);
        y = rich.granted("WAR", x -> x.rule(2, 85));
        c.due("WAR is asked now", y, y.levelIn(1), 4, 0);
    }

    private static void bring() {
        BarkMoney y = rich.inside("1", x -> x.bring(0, 1), 31);
        c.due("STOCK", y.good(0, 1), 31);
        rich.inside("999", x -> x.bring(1, 999), 1008);
        rich.beyond("much", 1, x -> x.bring(0, 0), x -> x.bring(0, 1000), x -> x.bring(0, -1), x -> x.bring(0, MIN), x -> x.bring(0, MAX));
        rich.beyond("no such GOOD", 1, x -> x.bring(-1, 1), x -> x.bring(2, 1), x -> x.bring(MIN, 1), x -> x.bring(MAX, 1));
        Twins t = Twins.in(c, "good g value 5 stock 999; good h value 5;", x -> {
            for (int i = 0; i < 9; i++) {
                x.bring(0, 999);
            }
            return 0;
        });
        y = t.inside("to 9,999", x -> x.bring(0, 9), 9999);
        c.due("not one more", y, y.bring(0, 1), -1, 7);
        t.beyond("above 9,999", 7, x -> x.bring(0, 10), x -> x.bring(0, 999));
        t.beyond("1 is asked ahead of 7", 1, x -> x.bring(0, 1000));
    }

    // ---- WORTH printed and burned

    private static void printedAndBurnedUpToTheMost() {
        BarkMoney x = Check.in("kind k worth 500; kind l worth 500; kind m worth 500; kind n worth 500; person a; person b; person d; person e; person f;");
        Check.reigns(x, "loop 99; pay a k 99; pay b k 99; pay d k 99; end;");
        long printed = 0;
        long burned = 0;
        for (int i = 0; i < 75; i++) {
            x.live(0);
            x.renew(0);
            printed += 297L * 99 * 500 + 3L * (9801 / 5) * 500;
            burned += 297L * 99 * 500;
            if (i % 5 < 4) {
                continue;
            }
            // five RENEWALS fill the next KIND: it is renewed in its turn
            int second = x.sheets(0, 1, 0);
            int third = x.sheets(0, 2, 0) + second / 5;
            x.renew(1);
            burned += 3L * second * 500;
            printed += 3L * (second / 5) * 500;
            if (i % 25 == 24) {
                x.renew(2);
                burned += 3L * third * 500;
                printed += 3L * (third / 5) * 500;
            }
            c.due("printed in this life, whatever it is in all", x, x.lived(3), 297 * 99 * 500, 0);
            c.due("printed, told", x, x.told(10), Math.min(printed, 999999999L), 0);
            c.due("burned, told", x, x.told(11), Math.min(burned, 999999999L), 0);
        }
        c.due("both came above it", printed > 999999999L && burned > 999999999L, true);
    }
}
