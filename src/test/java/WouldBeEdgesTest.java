/** Promises 33 to 55 at their boundaries: what would be, and that nothing is changed by asking. */
public final class WouldBeEdgesTest {
    private static final Check c = new Check();
    private static final Twins rich = new Twins(c, Twins.RICH);
    private static final Twins empty = new Twins(c, x -> { });
    private static final int MIN = Integer.MIN_VALUE;
    private static final int MAX = Integer.MAX_VALUE;

    public static void main(String[] args) {
        room();
        roomIsJustThat();
        roomUpToTheMost();
        levelIn();
        monthsTill();
        sumsFromAPurse();
        sumsToTheMost();
        payWith();
        payable();
        firstNot();
        couldBuy();
        changes();
        leastSheets();
        baskets();
        mostValue();
        loses();
        kept();
        forged();
        looks();
        looksIsAHalf();
        plans();
        plansByTrying();
        games();
        gamesAsBuyDoes();
        moves();
        poorAgainstRich();
        copySheets();
        count();
        withoutAnything();
        c.end();
    }

    private static long fill(BarkMoney x, int person, int kind, int goal) {
        int has = x.sheets(person, kind, 0);
        while (has < goal) {
            int n = Math.min(999, goal - has);
            x.pay(person, kind, n);
            has += n;
        }
        return has;
    }

    // ---- ROOM, LEVEL

    private static void room() {
        rich.asked("3 x 100 - 1 - 215", x -> x.room(), 84);
        empty.asked("500 - 1", x -> x.room(), 499);
        Twins.in(c, "calm 10;").asked("10 - 1", x -> x.room(), 9);
        Twins.in(c, "calm 10; war 999;").asked("WAR is not asked", x -> x.room(), 9);
        Twins.in(c, "calm 9999;").asked("9,999 - 1", x -> x.room(), 9998);
        for (int n = 97; n <= 102; n++) {
            int pays = n;
            Twins.in(c, "calm 100; kind k worth 1; person p;", x -> x.pay(0, 0, pays)).asked(n + " of 99", x -> x.room(), Math.max(0, 99 - n));
        }
        BarkMoney y = Check.in("calm 100; kind k worth 1; person p; has p k 250;");
        y.burn(0, 0, 200);
        c.due("OUT as it is, LEVEL as it was", y, y.room(), 249, 0);
        y.rule(0, 10);
        c.due("3 x 10 - 1 is less than 50", y, y.room(), 0, 0);
        y.rule(0, 17);
        c.due("3 x 17 - 1 is 50", y, y.room(), 0, 0);
        y.rule(0, 18);
        c.due("3 x 18 - 1 is 53", y, y.room(), 3, 0);
    }

    /** By just so much more LEVEL stays; by 1 more it does not. */
    private static void roomIsJustThat() {
        for (int has = 0; has < 400; has += 37) {
            String land = "calm 73; kind k worth 1; person p; has p k " + has + ";";
            BarkMoney x = Check.in(land);
            int room = x.room();
            if (room > 0) {
                x.pay(0, 0, room);
            }
            c.due("LEVEL stays", x.month(1), 1 + has / 73);
            c.due("no ROOM is left", x, x.room(), 0, 0);
            x.pay(0, 0, 1);
            c.due("LEVEL is more", x.month(1), 2 + has / 73);
        }
    }

    private static void roomUpToTheMost() {
        // OUT 3,336,669 by 10 is LEVEL 333,667; times 3,007, less 1, less OUT is 999,999,999
        Twins t = Twins.in(c, "calm 10; kind k worth 500; kind l worth 1; person p;", x -> fill(x, 0, 0, 6673), x -> x.pay(0, 1, 169), x -> x.month(1),
            x -> x.rule(0, 3007) ? 1 : 0);
        t.asked("LEVEL", x -> x.told(7), 333667);
        t.asked("just that", x -> x.room(), 999999999);
        BarkMoney y = t.inside("one more is OUT", x -> x.pay(0, 1, 1), 170);
        c.due("one less", y, y.room(), 999999998, 0);
        y = t.inside("one less is OUT", x -> x.burn(0, 1, 1), 168);
        c.due("told up to that", y, y.room(), 999999999, 0);
        y.rule(0, 9999);
        c.due("far more, told up to that", y, y.room(), 999999999, 0);
    }

    private static void levelIn() {
        rich.asked("0: as it is", x -> x.levelIn(0), 3);
        rich.asked("1", x -> x.levelIn(1), 3);
        rich.asked("999", x -> x.levelIn(999), 1 + (215 + 999 * 30) / 100);
        rich.beyond("months", 1, x -> x.levelIn(-1), x -> x.levelIn(1000), x -> x.levelIn(MIN), x -> x.levelIn(MAX));
        BarkMoney y = rich.inside("OUT 300", x -> x.pay(0, 0, 17), 24);
        c.due("0: as it is still", y, y.levelIn(0), 3, 0);
        c.due("1: OUT 330", y, y.levelIn(1), 4, 0);
        y.rule(2, 0);
        c.due("1: OUT 300, without WAR", y, y.levelIn(1), 4, 0);
        y.burn(0, 0, 1);
        c.due("1: OUT 295", y, y.levelIn(1), 3, 0);
        for (int months = 1; months < 40; months += 7) {
            BarkMoney z = rich.fresh();
            int told = z.levelIn(months);
            c.due("as month() makes it", z.month(months), told);
        }
    }

    private static void monthsTill() {
        // OUT is 215 + 30 a MONTH, CALM 100: above 3 from 300 on, so in 3 MONTHS
        rich.asked("above 1", x -> x.monthsTill(1), 1);
        rich.asked("above 2", x -> x.monthsTill(2), 1);
        rich.asked("above 3", x -> x.monthsTill(3), 3);
        rich.asked("above 301: 30,185 in 999", x -> x.monthsTill(301), 997);
        rich.beyond("above 302 not in these", 6, x -> x.monthsTill(302), x -> x.monthsTill(999));
        rich.beyond("level", 1, x -> x.monthsTill(0), x -> x.monthsTill(1000), x -> x.monthsTill(-1), x -> x.monthsTill(MIN), x -> x.monthsTill(MAX));
        Twins.in(c, "calm 10; war 999;").asked("999", x -> x.monthsTill(999), 10);
        Twins.in(c, "calm 999; war 1;").asked("just in 999", x -> x.monthsTill(1), 999);
        Twins.in(c, "calm 1000; war 1;").beyond("in 1,000", 6, x -> x.monthsTill(1));
        Twins.in(c, "calm 10;").beyond("without WAR", 6, x -> x.monthsTill(1));
        // LEVEL is 3 now, but will be 1 with what is OUT
        Twins fallen = Twins.in(c, "calm 100; war 50; kind k worth 1; person p; has p k 250;", x -> x.burn(0, 0, 250));
        fallen.asked("above 2: LEVEL of now is none of these", x -> x.monthsTill(2), 4);
    }

    // ---- sums

    private static void sumsFromAPurse() {
        // ann has 7 leaves of 5 and a bark of 20
        rich.asked("0", x -> x.fewest(0, 0), 0);
        rich.asked("all", x -> x.fewest(0, 55), 8);
        rich.asked("a bark alone", x -> x.fewest(0, 20), 1);
        rich.beyond("he can't", 6, x -> x.fewest(0, 1), x -> x.fewest(0, 54), x -> x.fewest(0, 56), x -> x.fewest(0, 60), x -> x.fewest(0, 999));
        rich.beyond("sum", 1, x -> x.fewest(0, -1), x -> x.fewest(0, 1000), x -> x.fewest(0, MIN), x -> x.fewest(0, MAX));
        rich.beyond("no such PERSON", 1, x -> x.fewest(-1, 0), x -> x.fewest(3, 0), x -> x.fewest(MIN, 0), x -> x.fewest(MAX, 0), x -> x.fewest(3, 999));
        // torn ones don't pay: bo has 13 whole leaves
        rich.asked("all whole ones", x -> x.fewest(1, 65), 13);
        rich.beyond("torn ones", 6, x -> x.fewest(1, 70));
    }

    private static void sumsToTheMost() {
        Twins t = Twins.in(c, "calm 9999; kind a worth 1; kind b worth 500; person p; person q; has p a 499; has p b 2; has q a 999;");
        t.asked("999", x -> x.fewest(0, 999), 500);
        t.asked("999 by 1s", x -> x.fewest(1, 999), 999);
        t.beyond("1,000, though he has two of 500", 1, x -> x.fewest(0, 1000), x -> x.payWith(0, 1000, 1));
        t.asked("998", x -> x.fewest(0, 998), 499);
        Twins much = Twins.in(c, "calm 9999; kind a worth 1; kind b worth 2; kind d worth 3; kind e worth 4; person p;",
            x -> fill(x, 0, 0, 9999), x -> fill(x, 0, 1, 9999), x -> fill(x, 0, 2, 9999), x -> fill(x, 0, 3, 9999));
        much.asked("999 by 4s", x -> x.fewest(0, 999), 250);
        // 3 + 996: one of 3 and 249 of 4; 1 + 2 + 996 is one sheet more
        much.asked("KIND 2", x -> x.payWith(0, 999, 2), 1);
        // 998 by 250: 2 + 249 x 4, or 3 + 3 + 248 x 4
        much.asked("998", x -> x.fewest(0, 998), 250);
        much.asked("998: KIND 1 ahead of KIND 2", x -> x.payWith(0, 998, 1), 1);
        much.asked("998: KIND 2", x -> x.payWith(0, 998, 2), 0);
        much.asked("997: KIND 0 ahead of others", x -> x.payWith(0, 997, 0), 1);
    }

    private static void payWith() {
        rich.asked("30: two leaves", x -> x.payWith(0, 30, 0), 2);
        rich.asked("30: a bark", x -> x.payWith(0, 30, 1), 1);
        rich.asked("30: no wood", x -> x.payWith(0, 30, 2), 0);
        rich.asked("0", x -> x.payWith(0, 0, 2), 0);
        rich.beyond("he can't", 6, x -> x.payWith(0, 1, 0), x -> x.payWith(0, 56, 2), x -> x.payWith(0, 999, 0));
        rich.beyond("sum", 1, x -> x.payWith(0, -1, 0), x -> x.payWith(0, 1000, 0), x -> x.payWith(0, MIN, 0), x -> x.payWith(0, MAX, 0));
        rich.beyond("no such PERSON", 1, x -> x.payWith(-1, 0, 0), x -> x.payWith(3, 0, 0), x -> x.payWith(3, 999, 0));
        rich.beyond("no such KIND", 1, x -> x.payWith(0, 0, -1), x -> x.payWith(0, 0, 3), x -> x.payWith(0, 1, 3), x -> x.payWith(0, 0, MIN), x -> x.payWith(0, 0, MAX));
    }

    private static void payable() {
        rich.asked("5 to 55", x -> x.payable(0), 11);
        rich.asked("50", x -> x.payable(2), 1);
        rich.beyond("no such PERSON", 1, x -> x.payable(-1), x -> x.payable(3), x -> x.payable(MIN), x -> x.payable(MAX));
        Twins t = Twins.in(c, "calm 9999; kind a worth 1; kind b worth 500; person p; person q; person r; person s; has p a 999; has q a 998; has r b 3; has s a 1; has s b 2;");
        t.asked("all", x -> x.payable(0), 999);
        t.asked("all but 999", x -> x.payable(1), 998);
        t.asked("500 alone: 0 and 1,000 are none of these", x -> x.payable(2), 1);
        t.asked("1, 500, 501", x -> x.payable(3), 3);
    }

    private static void firstNot() {
        rich.asked("1", x -> x.firstNot(0), 1);
        rich.beyond("no such PERSON", 1, x -> x.firstNot(-1), x -> x.firstNot(3), x -> x.firstNot(MIN), x -> x.firstNot(MAX));
        Twins t = Twins.in(c, "calm 9999; kind a worth 1; kind b worth 500; person p; person q; person r; person s; has p a 999; has q a 499; has q b 2; has r a 498; has r b 2;");
        t.beyond("all of 999", 6, x -> x.firstNot(0));
        t.beyond("all to 999 of 1,499", 6, x -> x.firstNot(1));
        t.asked("499 of 1,498", x -> x.firstNot(2), 499);
        t.beyond("he has nothing", 6, x -> x.firstNot(3));
        Twins last = Twins.in(c, "calm 9999; kind a worth 1; kind b worth 500; person p; has p a 998;", x -> x.pay(0, 1, 1));
        last.beyond("999 is 500 + 499", 6, x -> x.firstNot(0));
        Twins edge = Twins.in(c, "calm 9999; kind a worth 1; kind b worth 334; person p; has p a 333; has p b 2;");
        edge.beyond("333 + 668: every sum to 999", 6, x -> x.firstNot(0));
        Twins odd = Twins.in(c, "calm 9999; kind a worth 1; kind b worth 333; person p; has p a 332; has p b 2;");
        odd.beyond("every sum to 998, and that is all", 6, x -> x.firstNot(0));
        Twins gap = Twins.in(c, "calm 9999; kind a worth 1; kind b worth 333; kind d worth 500; person p; has p a 332; has p b 2; has p d 1;");
        gap.beyond("999 is 500 + 333 + 166", 6, x -> x.firstNot(0));
        Twins only999 = Twins.in(c, "calm 9999; kind a worth 2; kind b worth 1; person p; has p a 999; has p b 1;", x -> x.burn(0, 1, 1), x -> x.pay(0, 1, 1));
        only999.beyond("999 is 2 x 499 + 1", 6, x -> x.firstNot(0));
        // his worth is just that sum, or 1 less
        Twins just = Twins.in(c, "calm 9999; kind a worth 3; kind b worth 2; person p; has p a 1; has p b 1;");
        just.asked("1 of 5", x -> x.firstNot(0), 1);
        Twins four = Twins.in(c, "calm 9999; kind a worth 1; kind b worth 3; person p; person q; has p a 1; has p b 1; has q a 1;");
        four.asked("2 of 4", x -> x.firstNot(0), 2);
        four.beyond("1 of 1: 2 is more than he has", 6, x -> x.firstNot(1));
    }

    private static void couldBuy() {
        rich.asked("one silk", x -> x.couldBuy(0, 1), 1);
        rich.asked("two silks", x -> x.couldBuy(1, 1), 2);
        rich.asked("none: 0", x -> x.couldBuy(0, 0), 0);
        rich.beyond("no such PERSON", 1, x -> x.couldBuy(-1, 0), x -> x.couldBuy(3, 0), x -> x.couldBuy(MIN, 0), x -> x.couldBuy(MAX, 0));
        rich.beyond("no such GOOD", 1, x -> x.couldBuy(0, -1), x -> x.couldBuy(0, 2), x -> x.couldBuy(0, MIN), x -> x.couldBuy(0, MAX));
        Twins t = Twins.in(c, "calm 9999; kind a worth 1; kind b worth 500; good g value 1 stock 999; good h value 1 stock 998; good i value 2 stock 999; good j value 1 stock 0;"
            + "person p; has p a 999; has p b 4;", x -> x.bring(0, 999));
        t.asked("999 at once, though STOCK is more", x -> x.couldBuy(0, 0), 999);
        t.asked("STOCK 998", x -> x.couldBuy(0, 1), 998);
        t.asked("for 998, not 1,000", x -> x.couldBuy(0, 2), 499);
        t.asked("STOCK 0", x -> x.couldBuy(0, 3), 0);
        for (int good = 0; good < 3; good++) {
            BarkMoney x = t.fresh();
            int n = x.couldBuy(0, good);
            c.due("one more can't be", x, x.buy(0, good, n + 1), -1, n == 999 ? 1 : 7);
            c.due("so many can be", x, x.buy(0, good, n) > 0, true, 0);
        }
        // the most, though some fewer can't be PAID
        Twins gaps = Twins.in(c, "calm 9999; kind a worth 6; good g value 2 stock 9; person p; has p a 9;");
        gaps.asked("9 for 18", x -> x.couldBuy(0, 0), 9);
        gaps.beyond("8 for 16", 7, x -> x.buy(0, 0, 8));
    }

    private static long waysOf(int sum, int... sizes) {
        long ways = 0;
        if (sizes.length == 1) {
            return sum % sizes[0] == 0 ? 1 : 0;
        }
        int[] rest = java.util.Arrays.copyOf(sizes, sizes.length - 1);
        for (int left = sum; left >= 0; left -= sizes[sizes.length - 1]) {
            ways += waysOf(left, rest);
        }
        return ways;
    }

    private static void changes() {
        for (int sum : new int[] {0, 1, 5, 20, 50, 100, 995, 998, 999}) {
            rich.asked("changes of " + sum, x -> x.changes(sum), waysOf(sum, 5, 20, 50));
        }
        rich.beyond("sum", 1, x -> x.changes(-1), x -> x.changes(1000), x -> x.changes(MIN), x -> x.changes(MAX));
        Twins.in(c, "kind a worth 500; kind b worth 499;").asked("999 by one of each", x -> x.changes(999), 1);
        Twins.in(c, "kind a worth 500; kind b worth 500;").asked("500 by either", x -> x.changes(500), 2);
        Twins t = Twins.in(c, "kind a worth 1; kind b worth 1; kind d worth 1; kind e worth 1;");
        t.asked("the most ways", x -> x.changes(999), 1002L * 1001 * 1000 / 6);
        empty.asked("0 without KINDS", x -> x.changes(0), 1);
        empty.asked("1 without KINDS", x -> x.changes(1), 0);
        empty.asked("999 without KINDS", x -> x.changes(999), 0);
    }

    private static void leastSheets() {
        rich.asked("0", x -> x.leastSheets(0), 0);
        rich.asked("5", x -> x.leastSheets(5), 1);
        rich.asked("19 x 50 + 2 x 20 + 5", x -> x.leastSheets(995), 22);
        rich.beyond("it can't", 6, x -> x.leastSheets(1), x -> x.leastSheets(4), x -> x.leastSheets(999));
        rich.beyond("sum", 1, x -> x.leastSheets(-1), x -> x.leastSheets(1000), x -> x.leastSheets(MIN), x -> x.leastSheets(MAX));
        Twins.in(c, "kind a worth 1;").asked("999 by 1s", x -> x.leastSheets(999), 999);
        Twins.in(c, "kind a worth 1; kind b worth 20; kind d worth 25;").asked("40: not the greatest first", x -> x.leastSheets(40), 2);
        empty.asked("0 without KINDS", x -> x.leastSheets(0), 0);
        empty.beyond("1 without KINDS", 6, x -> x.leastSheets(1), x -> x.leastSheets(999));
    }

    private static void baskets() {
        // PRICES are 21 and 30
        for (int sum : new int[] {0, 1, 20, 21, 22, 29, 30, 31, 51, 210, 630, 998, 999}) {
            rich.asked("baskets of " + sum, x -> x.baskets(sum), waysOf(sum, 21, 30));
        }
        rich.beyond("sum", 1, x -> x.baskets(-1), x -> x.baskets(1000), x -> x.baskets(MIN), x -> x.baskets(MAX));
        Twins.in(c, "good a value 1; good b value 1; good d value 1; good e value 1; good f value 1;")
            .asked("the most ways", x -> x.baskets(999), 1003L * 1002 * 1001 * 1000 / 24);
        Twins.in(c, "good a value 99 stock 0;").asked("STOCK is not asked", x -> x.baskets(990), 1);
        Twins dear = Twins.in(c, "calm 10; kind k worth 500; person p; has p k 20; good a value 1; good b value 2;");
        dear.asked("LEVEL 1,001", x -> x.told(7), 1001);
        dear.asked("PRICES above 999", x -> x.baskets(999), 0);
        dear.asked("nothing is 0", x -> x.baskets(0), 1);
        empty.asked("0 without GOODS", x -> x.baskets(0), 1);
        empty.asked("1 without GOODS", x -> x.baskets(1), 0);
    }

    private static void mostValue() {
        rich.asked("0", x -> x.mostValue(0), 0);
        rich.asked("just below a PRICE", x -> x.mostValue(20), 0);
        rich.asked("just a PRICE", x -> x.mostValue(21), 7);
        rich.asked("just below the other", x -> x.mostValue(29), 7);
        rich.asked("just the other", x -> x.mostValue(30), 10);
        rich.asked("just below two", x -> x.mostValue(41), 10);
        rich.asked("just two", x -> x.mostValue(42), 14);
        rich.asked("999", x -> x.mostValue(999), 333);
        rich.beyond("sum", 1, x -> x.mostValue(-1), x -> x.mostValue(1000), x -> x.mostValue(MIN), x -> x.mostValue(MAX));
        Twins.in(c, "good a value 99 stock 0;").asked("STOCK is not asked", x -> x.mostValue(999), 990);
        Twins.in(c, "good a value 1;").asked("all 999", x -> x.mostValue(999), 999);
        empty.asked("without GOODS", x -> x.mostValue(999), 0);
    }

    // ---- RENEWALS, MENDS

    private static void loses() {
        rich.asked("ann: 7 for 1", x -> x.loses(0, 0), 15);
        rich.asked("bo: 16 for 3", x -> x.loses(1, 0), 20);
        rich.asked("cy: none", x -> x.loses(2, 0), 0);
        rich.asked("set", x -> x.losers(0), 3);
        rich.asked("the last but one", x -> x.loses(0, 1), 20);
        rich.asked("set", x -> x.losers(1), 1);
        rich.beyond("the last KIND", 7, x -> x.loses(0, 2), x -> x.losers(2));
        rich.beyond("no such KIND", 1, x -> x.loses(0, -1), x -> x.loses(0, 3), x -> x.losers(-1), x -> x.losers(3), x -> x.loses(0, MIN), x -> x.losers(MAX));
        rich.beyond("no such PERSON", 1, x -> x.loses(-1, 0), x -> x.loses(3, 0), x -> x.loses(MIN, 0), x -> x.loses(MAX, 0));
        rich.beyond("1 is asked ahead of 7", 1, x -> x.loses(3, 2), x -> x.loses(-1, 2));
        Twins.in(c, "kind k worth 5; person p; has p k 9;").beyond("the only KIND", 7, x -> x.loses(0, 0), x -> x.losers(0));
        empty.beyond("no KINDS", 1, x -> x.loses(0, 0), x -> x.losers(0));
        Twins t = Twins.in(c, "kind k worth 2; kind l worth 10; person p; person q; person r; person s; person t; has p k 5; has q k 6; has r k 4; has t k 1;");
        t.asked("5 for 1 at 5 to 1: nothing", x -> x.loses(0, 0), 0);
        t.asked("one is left", x -> x.loses(1, 0), 2);
        t.asked("four are left", x -> x.loses(2, 0), 8);
        t.asked("who loses nothing is no loser", x -> x.losers(0), 2 + 4 + 16);
        Twins wins = Twins.in(c, "kind k worth 1; kind l worth 6; person p; person q; has p k 5; has q k 6;");
        wins.asked("-1 is no NONE", x -> x.loses(0, 0), -1);
        wins.asked("5 to 6 and 1 lost", x -> x.loses(1, 0), 0);
        wins.asked("who wins is no loser", x -> x.losers(0), 0);
        Twins cut = Twins.in(c, "kind k worth 1; kind l worth 6; person p; has p k 10;", x -> fill(x, 0, 1, 9998));
        cut.asked("cut to 9,999: 10 for 6", x -> x.loses(0, 0), 4);
        cut.asked("so he loses", x -> x.losers(0), 1);
        Twins.in(c, "kind k worth 1; kind l worth 6;").asked("nobody there", x -> x.losers(0), 0);
    }

    private static void kept() {
        // FEE is 10
        rich.asked("1", x -> x.keptOf(1), 1);
        rich.asked("10", x -> x.keptOf(10), 1);
        rich.asked("11", x -> x.keptOf(11), 2);
        rich.asked("9,999", x -> x.keptOf(9999), 1000);
        rich.beyond("n", 1, x -> x.keptOf(0), x -> x.keptOf(10000), x -> x.keptOf(-1), x -> x.keptOf(MIN), x -> x.keptOf(MAX));
        Twins.in(c, "fee 0;").asked("FEE 0", x -> x.keptOf(9999), 0);
        Twins.in(c, "fee 50;").asked("FEE 50", x -> x.keptOf(9999), 5000);
        Twins.in(c, "fee 50;").asked("FEE 50", x -> x.keptOf(9998), 4999);
        Twins.in(c, "fee 1;").asked("FEE 1", x -> x.keptOf(100), 1);
        Twins.in(c, "fee 1;").asked("FEE 1", x -> x.keptOf(101), 2);
    }

    // ---- FORGED

    private static void forged() {
        int[][] good = {{1, 0, 0}, {1, 1, 1}, {30, 0, 30}, {30, 30, 0}, {30, 30, 30}, {30, 15, 15}};
        for (int[] g : good) {
            BarkMoney y = rich.granted("forged", x -> x.forged(g[0], g[1], g[2]));
            c.due("bottom above 0", y.bottom() > 0, true);
            y.forged(5, 2, 2);
            rich.same("the FRACTION alone is changed", rich.fresh(), y);
        }
        rich.denied("n", 1, x -> x.forged(0, 0, 0), x -> x.forged(31, 1, 1), x -> x.forged(-1, 0, 0), x -> x.forged(MIN, 0, 0), x -> x.forged(MAX, 0, 0));
        rich.denied("m", 1, x -> x.forged(5, -1, 1), x -> x.forged(5, 6, 1), x -> x.forged(30, 31, 1), x -> x.forged(5, MIN, 1), x -> x.forged(5, MAX, 1));
        rich.denied("k", 1, x -> x.forged(5, 1, -1), x -> x.forged(5, 1, 6), x -> x.forged(30, 1, 31), x -> x.forged(5, 1, MIN), x -> x.forged(5, 1, MAX));
        for (int n = 1; n <= 30; n++) {
            for (int m = 0; m <= n; m++) {
                BarkMoney x = new BarkMoney();
                for (int k = 0; k <= n; k++) {
                    odds(x, n, m, k);
                }
            }
        }
    }

    /** One after another: the odds that none of k is forged are (n - m) / n times (n - m - 1) / (n - 1) .. */
    private static void odds(BarkMoney x, int n, int m, int k) {
        java.math.BigInteger none = java.math.BigInteger.ONE;
        java.math.BigInteger all = java.math.BigInteger.ONE;
        for (int i = 0; i < k; i++) {
            none = none.multiply(java.math.BigInteger.valueOf(Math.max(0, n - m - i)));
            all = all.multiply(java.math.BigInteger.valueOf(n - i));
        }
        java.math.BigInteger some = all.subtract(none);
        java.math.BigInteger common = some.gcd(all);
        boolean right = x.forged(n, m, k) && x.top() == some.divide(common).longValueExact() && x.bottom() == all.divide(common).longValueExact();
        c.due("forged(" + n + ", " + m + ", " + k + ") is " + x.top() + " by " + x.bottom(), right, true);
    }

    private static void looks() {
        rich.asked("1 of 1", x -> x.looks(1, 1), 1);
        rich.asked("1 of 30", x -> x.looks(30, 1), 15);
        rich.asked("30 of 30", x -> x.looks(30, 30), 1);
        rich.beyond("none is forged", 6, x -> x.looks(1, 0), x -> x.looks(30, 0));
        rich.beyond("n", 1, x -> x.looks(0, 0), x -> x.looks(31, 1), x -> x.looks(-1, 0), x -> x.looks(MIN, 0), x -> x.looks(MAX, 1));
        rich.beyond("m", 1, x -> x.looks(5, -1), x -> x.looks(5, 6), x -> x.looks(30, 31), x -> x.looks(5, MIN), x -> x.looks(5, MAX));
    }

    private static void looksIsAHalf() {
        for (int n = 1; n <= 30; n++) {
            BarkMoney x = new BarkMoney();
            for (int m = 1; m <= n; m++) {
                int k = x.looks(n, m);
                x.forged(n, m, k);
                c.due("a half at least: " + n + ", " + m, 2 * x.top() >= x.bottom(), true);
                x.forged(n, m, k - 1);
                c.due("one fewer does not: " + n + ", " + m, 2 * x.top() < x.bottom(), true);
            }
        }
    }

    // ---- PLAN

    private static void plans() {
        // OUT 215, CALM 100: to 299 it is LEVEL 3, UNREST 20 a MONTH
        rich.asked("a need of 0", x -> x.plan(1, 0), 20);
        rich.asked("5 MONTHS of it", x -> x.plan(5, 0), 100);
        rich.asked("just within LEVEL 3", x -> x.plan(1, 84), 20);
        rich.asked("all of it", x -> x.planFirst(1, 84), 84);
        rich.asked("1 beyond", x -> x.plan(1, 85), 30);
        rich.asked("all of it all the same", x -> x.planFirst(1, 85), 85);
        rich.asked("999", x -> x.plan(1, 999), 120);
        rich.asked("FIRST of 0", x -> x.planFirst(5, 0), 0);
        rich.beyond("months", 1, x -> x.plan(0, 9), x -> x.plan(6, 9), x -> x.plan(-1, 9), x -> x.plan(MIN, 9), x -> x.plan(MAX, 9));
        rich.beyond("need", 1, x -> x.plan(1, -1), x -> x.plan(1, 1000), x -> x.plan(5, MIN), x -> x.plan(5, MAX));
        rich.beyond("months of FIRST", 1, x -> x.planFirst(0, 9), x -> x.planFirst(6, 9), x -> x.planFirst(-1, 9), x -> x.planFirst(MIN, 9), x -> x.planFirst(MAX, 9));
        rich.beyond("need of FIRST", 1, x -> x.planFirst(1, -1), x -> x.planFirst(1, 1000), x -> x.planFirst(5, MIN), x -> x.planFirst(5, MAX));
        // one more OUT is 10 more UNREST: a need of 10 is as well paid as not, of several the least is told
        Twins edge = Twins.in(c, "calm 10; kind k worth 1; person p; has p k 9;");
        edge.asked("10 either way", x -> x.plan(1, 10), 10);
        edge.asked("of several the least", x -> x.planFirst(1, 10), 0);
        edge.asked("11: LEVEL 3 costs 20 more, 5 leaves 6", x -> x.plan(1, 11), 11);
        // quarters are rounded down: of 3 they are 0, 0, 1, 2, 3
        Twins quarter = Twins.in(c, "calm 10; kind k worth 1; person p; has p k 8;");
        quarter.asked("1 of 3", x -> x.plan(1, 3), 2);
        quarter.asked("1 of 3 comes first", x -> x.planFirst(1, 3), 1);
        quarter.asked("none of 9: a quarter is 2", x -> x.plan(1, 9), 9);
        quarter.asked("7: a quarter is 1", x -> x.plan(1, 7), 6);
        quarter.asked("7: a quarter is 1", x -> x.planFirst(1, 7), 1);
        Twins.in(c, "calm 9999; war 999;").asked("WAR is not asked", x -> x.plan(5, 0), 0);
    }

    private static void plansByTrying() {
        int[] outs = {0, 1, 99, 215};
        int[] needs = {0, 1, 2, 3, 5, 10, 39, 40, 41, 101, 998, 999};
        for (int out : outs) {
            for (int calm : new int[] {10, 99, 100, 500}) {
                BarkMoney x = Check.in("calm " + calm + "; kind k worth 1; person p; has p k " + out + ";");
                for (int need : needs) {
                    for (int months = 1; months <= 3; months++) {
                        tryAll(x, out, calm, need, months);
                    }
                }
            }
        }
        BarkMoney x = Check.in("calm 60; kind k worth 1; person p; has p k 50;");
        tryAll(x, 50, 60, 77, 4);
        tryAll(x, 50, 60, 77, 5);
        tryAll(x, 50, 60, 13, 5);
    }

    /** Every row of choices, as the digits of a number to the base 5. */
    private static void tryAll(BarkMoney x, int out, int calm, int need, int months) {
        int rows = 1;
        for (int i = 0; i < months; i++) {
            rows *= 5;
        }
        int least = MAX;
        int first = 0;
        for (int row = 0; row < rows; row++) {
            int sheets = out;
            int unrest = 0;
            for (int i = 0, choice = row; i < months; i++, choice /= 5) {
                int printed = choice % 5 == 4 ? need : choice % 5 * need / 4;
                sheets += printed;
                unrest += need - printed + 10 * (sheets / calm);
            }
            int printedFirst = row % 5 == 4 ? need : row % 5 * need / 4;
            if (unrest < least || unrest == least && printedFirst < first) {
                least = unrest;
                first = printedFirst;
            }
        }
        String what = months + " MONTHS, need " + need + ", OUT " + out + ", CALM " + calm;
        c.due("plan, " + what, x, x.plan(months, need), least, 0);
        c.due("planFirst, " + what, x, x.planFirst(months, need), first, 0);
    }

    // ---- GAME

    private static void games() {
        // ann can buy one silk, bo two, cy none
        rich.asked("0 turns", x -> x.game(0, 1, 0), 0);
        rich.asked("1 turn", x -> x.game(0, 1, 1), 10);
        rich.asked("2 turns", x -> x.game(0, 1, 2), 0);
        rich.asked("3 turns", x -> x.game(0, 1, 3), 0);
        rich.asked("the other way", x -> x.game(1, 0, 3), 10);
        rich.asked("one who can't", x -> x.game(2, 0, 1), 0);
        rich.asked("one who can't against one who can", x -> x.game(2, 0, 2), -10);
        rich.beyond("turns", 1, x -> x.game(0, 1, -1), x -> x.game(0, 1, 4), x -> x.game(0, 1, MIN), x -> x.game(0, 1, MAX));
        rich.beyond("himself", 1, x -> x.game(0, 0, 1), x -> x.game(2, 2, 0));
        rich.beyond("no such PERSON", 1, x -> x.game(-1, 0, 1), x -> x.game(3, 0, 1), x -> x.game(0, -1, 1), x -> x.game(0, 3, 1), x -> x.game(MIN, 0, 1),
            x -> x.game(0, MAX, 1));
        Twins lone = Twins.in(c, "person p;");
        lone.beyond("one alone", 1, x -> x.game(0, 1, 1), x -> x.game(0, 0, 1), x -> x.moveOf(0, 1, 1));
        Twins minus = Twins.in(c, "calm 9999; kind a worth 1; good g value 1; person p; person q; has q a 1;");
        minus.asked("-1 is no NONE", x -> x.game(0, 1, 2), -1);
        Twins none = Twins.in(c, "person p; person q;");
        none.asked("no GOODS", x -> x.game(0, 1, 3), 0);
        none.beyond("nothing to buy", 6, x -> x.moveOf(0, 1, 3));
    }

    private static void gamesAsBuyDoes() {
        // the last one of a GOOD: who takes it takes it from the other
        Twins last = Twins.in(c, "calm 9999; kind a worth 1; good g value 5 stock 1; good h value 4 stock 1; person p; person q; has p a 4; has q a 5;");
        last.asked("h by the first, g by the second", x -> x.game(0, 1, 2), -1);
        last.asked("he takes h, so that the other has nothing", x -> x.game(1, 0, 2), 4);
        last.asked("so it is the MOVE", x -> x.moveOf(1, 0, 2), 1);
        // sheets are spent: with 9 he has both, with 8 the dearer one
        Twins both = Twins.in(c, "calm 9999; kind a worth 1; good g value 5 stock 1; good h value 4 stock 1; person p; person q; has p a 9;");
        both.asked("5 + 4", x -> x.game(0, 1, 3), 9);
        Twins one = Twins.in(c, "calm 9999; kind a worth 1; good g value 5 stock 1; good h value 4 stock 1; person p; person q; has p a 8;");
        one.asked("5", x -> x.game(0, 1, 3), 5);
        // the FEWEST sheets go: 4 is PAID by a 4, so 5 can be PAID by 1s
        Twins fewest = Twins.in(c, "calm 9999; kind a worth 1; kind b worth 4; good g value 5; good h value 4; person p; person q; has p a 5; has p b 1;");
        fewest.asked("4 by a 4, 5 by 1s", x -> x.game(0, 1, 3), 9);
        // LEVEL stays, though sheets are burned: PRICE 2 x 5 and no more
        Twins level = Twins.in(c, "calm 20; kind a worth 1; good g value 5; person p; person q; has p a 20;");
        level.asked("two at 10", x -> x.game(0, 1, 3), 10);
        level.asked("PRICE above 999 or what he has", x -> x.couldBuy(0, 0), 2);
        // 9,999 of a GOOD
        Twins full = Twins.in(c, "calm 9999; kind k worth 333; kind j worth 1; good g value 1 stock 999; person p; person q; has p j 99; has q j 9;",
            x -> x.pay(0, 0, 30), x -> {
                for (int i = 0; i < 10; i++) {
                    x.buy(0, 0, 999);
                    x.bring(0, 999);
                }
                return x.buy(0, 0, 8);
            });
        full.asked("he has 9,998", x -> x.goods(0, 0), 9998);
        full.asked("one more, and no third turn", x -> x.game(0, 1, 3), 0);
        BarkMoney y = full.inside("the last", x -> x.buy(0, 0, 1), 1);
        c.due("he can't buy", y, y.game(0, 1, 1), 0, 0);
        c.due("no MOVE", y, y.moveOf(0, 1, 1), -1, 6);
    }

    private static void moves() {
        rich.asked("silk", x -> x.moveOf(0, 1, 1), 1);
        rich.asked("silk", x -> x.moveOf(0, 1, 3), 1);
        rich.beyond("nothing", 6, x -> x.moveOf(2, 0, 1), x -> x.moveOf(2, 0, 3));
        rich.beyond("turns", 1, x -> x.moveOf(0, 1, 0), x -> x.moveOf(0, 1, -1), x -> x.moveOf(0, 1, 4), x -> x.moveOf(0, 1, MIN), x -> x.moveOf(0, 1, MAX));
        rich.beyond("himself", 1, x -> x.moveOf(0, 0, 1), x -> x.moveOf(2, 2, 1));
        rich.beyond("no such PERSON", 1, x -> x.moveOf(-1, 0, 1), x -> x.moveOf(3, 0, 1), x -> x.moveOf(0, -1, 1), x -> x.moveOf(0, 3, 1));
        rich.beyond("1 is asked ahead of 6", 1, x -> x.moveOf(2, 0, 0), x -> x.moveOf(2, 2, 1));
        Twins alike = Twins.in(c, "calm 9999; kind a worth 1; good g value 2; good h value 3; good i value 3; good j value 3; person p; person q; has p a 9;");
        alike.asked("of all as good the first", x -> x.moveOf(0, 1, 1), 1);
        // in 3 turns: g and h in either order is as good as any
        Twins order = Twins.in(c, "calm 9999; kind a worth 1; good g value 2; good h value 3; person p; person q; has p a 5;");
        order.asked("2 then 3", x -> x.moveOf(0, 1, 3), 0);
        order.asked("3 alone", x -> x.moveOf(0, 1, 1), 1);
        Twins later = Twins.in(c, "calm 9999; kind a worth 3; good g value 3; person p; person q; has p a 1;");
        later.asked("now or later is as good: nothing comes last", x -> x.moveOf(0, 1, 3), 0);
    }

    /** The first has 1, the second 200: what the first leaves, the second does not take a second time. */
    private static void poorAgainstRich() {
        String goods = "good g value 1; good h value 99 stock 2;";
        Twins poor = Twins.in(c, "calm 9999; kind a worth 1;" + goods + "person p; person q; has p a 1; has q a 200;");
        poor.asked("1 - 99", x -> x.game(0, 1, 2), -98);
        poor.asked("no third for the first", x -> x.game(0, 1, 3), -98);
        poor.asked("99 - 1 + 99", x -> x.game(1, 0, 3), 197);
        poor.asked("far behind, he buys all the same", x -> x.moveOf(0, 1, 2), 0);
        poor.asked("far behind, he buys all the same", x -> x.moveOf(0, 1, 3), 0);
        Twins bare = Twins.in(c, "calm 9999; kind a worth 1;" + goods + "person p; person q; has q a 200;");
        bare.asked("nothing, 99, nothing", x -> x.game(0, 1, 3), -99);
        bare.asked("99, nothing, 99", x -> x.game(1, 0, 3), 198);
        bare.beyond("nothing in any turn", 6, x -> x.moveOf(0, 1, 1), x -> x.moveOf(0, 1, 2), x -> x.moveOf(0, 1, 3));
        // the most and the least that a GAME can be
        Twins same = Twins.in(c, "calm 9999; kind a worth 1; good h value 99 stock 3; person p; person q; has p a 198; has q a 99;");
        same.asked("99 - 99 + 99", x -> x.game(0, 1, 3), 99);
        same.asked("99 - 99", x -> x.game(1, 0, 3), 0);
    }

    // ---- TRAYS of sheets

    private static void copySheets() {
        BarkMoney y = rich.inside("5 places for 3 KINDS", x -> x.copySheets(0, 0), 3);
        int[] due = {7, 1, 0, 4, 5};
        for (int i = 0; i < 5; i++) {
            c.due("place " + i, y, y.read(0, i), due[i], 0);
        }
        y = rich.inside("just 3 places", x -> x.copySheets(2, 1), 3);
        c.due("the last KIND", y, y.read(1, 2), 1, 0);
        rich.beyond("it is MISSING", 2, x -> x.copySheets(0, 3));
        rich.beyond("no such PERSON", 1, x -> x.copySheets(-1, 0), x -> x.copySheets(3, 0), x -> x.copySheets(3, 3), x -> x.copySheets(MIN, 0), x -> x.copySheets(MAX, 0));
        rich.beyond("no such TRAY", 1, x -> x.copySheets(0, -1), x -> x.copySheets(0, 4), x -> x.copySheets(0, MIN), x -> x.copySheets(0, MAX));
        Twins few = new Twins(c, x -> {
            Twins.RICH.accept(x);
            x.tray(0, 3, 2);
            x.write(0, 1, 77);
            x.tray(1, 3, 0);
        });
        few.beyond("too few numbers", 3, x -> x.copySheets(0, 0), x -> x.copySheets(0, 1));
        few.beyond("1 is asked ahead of 3", 1, x -> x.copySheets(3, 0));
        Twins most = Twins.in(c, "kind k worth 1; kind l worth 1; person p;", x -> fill(x, 0, 0, 9999), x -> fill(x, 0, 1, 128));
        long[] cut = {15, 9999, 9999, 9999};
        long[] cut128 = {-128, 128, 128, 128};
        for (int sort = 0; sort < 4; sort++) {
            BarkMoney z = most.fresh();
            z.tray(2, sort, 2);
            c.due("sort " + sort, z, z.copySheets(0, 2), 2, 0);
            c.due("9,999 by sort " + sort, z, z.read(2, 0), cut[sort], 0);
            c.due("128 by sort " + sort, z, z.read(2, 1), cut128[sort], 0);
        }
        BarkMoney torn = Check.in("kind k worth 1; person p; has p k 9;");
        torn.tear(0, 0, 4);
        torn.tray(0, 0, 1);
        torn.copySheets(0, 0);
        c.due("whole ones alone", torn.read(0, 0), 5);
    }

    private static Twins tray(int sort, long... numbers) {
        return new Twins(c, x -> {
            Twins.take(x, "kind k worth 5; kind l worth 20; kind m worth 500; person p;", true);
            x.tray(0, sort, numbers.length);
            for (int i = 0; i < numbers.length; i++) {
                x.write(0, i, numbers[i]);
            }
        });
    }

    private static void count() {
        rich.asked("5 + 2 x 20 + 3 x 50", x -> x.count(0), 195);
        rich.beyond("it is MISSING", 2, x -> x.count(3));
        rich.beyond("no such TRAY", 1, x -> x.count(-1), x -> x.count(4), x -> x.count(MIN), x -> x.count(MAX));
        rich.beyond("-7 in it", 5, x -> x.count(1));
        tray(1, 0, 0, 0).asked("all 0", x -> x.count(0), 0);
        tray(1, 9999, 9999, 9999).asked("all 9,999", x -> x.count(0), 9999 * 525);
        tray(0, 127, 127, 127).asked("all 127", x -> x.count(0), 127 * 525);
        for (int i = 0; i < 3; i++) {
            long[] below = {1, 1, 1, 1};
            long[] above = {1, 1, 1, 1};
            below[i] = -1;
            above[i] = 10000;
            for (int sort = 1; sort < 4; sort++) {
                tray(sort, below).beyond("below 0 in " + i, 5, x -> x.count(0));
                tray(sort, above).beyond("above 9,999 in " + i, 5, x -> x.count(0));
            }
            above[i] = Long.MAX_VALUE;
            tray(3, above).beyond("far above in " + i, 5, x -> x.count(0));
            above[i] = (1L << 32) + 1;
            tray(3, above).beyond("1 in its low half", 5, x -> x.count(0));
            below[i] = Long.MIN_VALUE;
            tray(3, below).beyond("far below in " + i, 5, x -> x.count(0));
        }
        tray(3, 1, 1, 1, -1, 10000).asked("what is behind the KINDS is not asked", x -> x.count(0), 525);
        tray(3, 1, 1).beyond("too few numbers", 3, x -> x.count(0));
        tray(3, -1, 10000).beyond("3 is asked ahead of 5", 3, x -> x.count(0));
        tray(3).beyond("none", 3, x -> x.count(0));
        tray(3, 1, 1, 1).asked("just enough", x -> x.count(0), 525);
    }

    private static void withoutAnything() {
        empty.beyond("nobody there", 1, x -> x.fewest(0, 0), x -> x.payWith(0, 0, 0), x -> x.payable(0), x -> x.firstNot(0), x -> x.couldBuy(0, 0), x -> x.game(0, 1, 0),
            x -> x.copySheets(0, 0), x -> x.pay(0, 0, 1), x -> x.buy(0, 0, 1), x -> x.sell(0, 0, 1), x -> x.tear(0, 0, 1), x -> x.mend(0, 0, 1), x -> x.burn(0, 0, 1),
            x -> x.cross(0, 0, 1), x -> x.bring(0, 1));
        empty.denied("nobody there", 1, x -> x.give(0, 1, 0, 1));
        Twins alone = Twins.in(c, "person p;");
        alone.asked("0 without KINDS", x -> x.fewest(0, 0), 0);
        alone.beyond("1 without KINDS", 6, x -> x.fewest(0, 1), x -> x.fewest(0, 999));
        alone.asked("none without KINDS", x -> x.payable(0), 0);
        alone.beyond("none without KINDS", 6, x -> x.firstNot(0));
        alone.beyond("no KIND", 1, x -> x.payWith(0, 0, 0));
        Twins trays = Twins.in(c, "person p;", x -> x.tray(0, 0, 0) ? 1 : 0);
        trays.asked("no KINDS, no numbers", x -> x.count(0), 0);
        trays.inside("no KINDS, no numbers", x -> x.copySheets(0, 0), 0);
        empty.asked("plan", x -> x.plan(5, 0), 0);
        empty.asked("plan", x -> x.planFirst(5, 999), 999);
        empty.asked("kept", x -> x.keptOf(1), 1);
    }
}
