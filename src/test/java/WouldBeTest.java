/** Promises 33 to 55: what would be. */
public final class WouldBeTest {
    private static final Check c = new Check();

    public static void main(String[] args) {
        room();
        levels();
        payments();
        couldBuy();
        changes();
        baskets();
        losing();
        kept();
        forged();
        looks();
        plans();
        games();
        moves();
        nothingComesLast();
        copying();
        counting();
        asManyAsCanBe();
        c.end();
    }

    private static void room() {
        BarkMoney x = Check.in("calm 100; war 30; kind k worth 5; person p; has p k 21;");
        c.due("2 x 100 - 1 - 105", x, x.room(), 94, 0);
        x.pay(0, 0, 18);
        c.due("195 are out", x, x.room(), 4, 0);
        x.pay(0, 0, 1);
        c.due("200 are out", x, x.room(), 0, 0);
        x.pay(0, 0, 9);
        c.due("more already", x, x.room(), 0, 0);
        x = Check.in("calm 10; kind k worth 500; person p; has p k 999; kind l worth 500; has p l 999; kind m worth 500; has p m 999;");
        x.pay(0, 0, 999);
        x.month(1);
        x.rule(0, 9999);
        c.due("cut", x, x.room(), 999999999, 0);
        x.rule(0, 10);
        c.due("not cut", x, x.room(), 9, 0);
    }

    private static void levels() {
        BarkMoney x = Check.in("calm 100; war 30; kind k worth 5; person p; has p k 21;");
        x.pay(0, 0, 30);
        c.due("as it is", x, x.levelIn(0), 2, 0);
        c.due("255 + 30", x, x.levelIn(1), 3, 0);
        c.due("255 + 60", x, x.levelIn(2), 4, 0);
        c.due("255 + 999 x 30", x, x.levelIn(999), 303, 0);
        c.due("-1", x, x.levelIn(-1), -1, 1);
        c.due("1000", x, x.levelIn(1000), -1, 1);
        c.due("till above 1", x, x.monthsTill(1), 1, 0);
        c.due("till above 3", x, x.monthsTill(3), 2, 0);
        c.due("till above 302", x, x.monthsTill(302), 999, 0);
        c.due("till above 303", x, x.monthsTill(303), -1, 6);
        c.due("0", x, x.monthsTill(0), -1, 1);
        c.due("999", x, x.monthsTill(999), -1, 6);
        c.due("1000", x, x.monthsTill(1000), -1, 1);
        c.due("nothing is done", x.told(6), 0);
        x = Check.in("calm 1000; war 1;");
        c.due("999 are out in 999 months", x, x.monthsTill(1), -1, 6);
        x.rule(0, 999);
        c.due("in 999 months", x, x.monthsTill(1), 999, 0);
    }

    private static void payments() {
        BarkMoney x = Check.in("kind a worth 5; kind b worth 20; person p; person q; person r; has p a 9; has p b 2; has r a 9;");
        c.due("40", x, x.fewest(0, 40), 2, 0);
        c.due("45", x, x.fewest(0, 45), 3, 0);
        c.due("85", x, x.fewest(0, 85), 11, 0);
        c.due("0", x, x.fewest(1, 0), 0, 0);
        c.due("14", x, x.fewest(0, 14), -1, 6);
        c.due("90", x, x.fewest(0, 90), -1, 6);
        c.due("-1", x, x.fewest(0, -1), -1, 1);
        c.due("1000", x, x.fewest(0, 1000), -1, 1);
        c.due("999", x, x.fewest(0, 999), -1, 6);
        c.due("no such person", x, x.fewest(3, 5), -1, 1);
        c.due("with a", x, x.payWith(0, 85, 0), 9, 0);
        c.due("with b", x, x.payWith(0, 85, 1), 2, 0);
        c.due("none", x, x.payWith(0, 86, 1), -1, 6);
        c.due("no such kind", x, x.payWith(0, 86, 2), -1, 1);
        c.due("1000", x, x.payWith(0, 1000, 0), -1, 1);
        c.due("nothing", x, x.payWith(0, 0, 0), 0, 0);
        c.due("sums", x, x.payable(0), 17, 0);
        c.due("none", x, x.payable(1), 0, 0);
        c.due("no such person", x, x.payable(-1), -1, 1);
        c.due("first not", x, x.firstNot(0), 1, 0);
        c.due("he has nothing", x, x.firstNot(1), -1, 6);
        c.due("no such person", x, x.firstNot(3), -1, 1);
        x = Check.in("kind a worth 1; kind b worth 9; kind d worth 500; person p; has p a 7; has p b 4; person q; has q a 999; has q b 999; has q d 9;");
        c.due("8 of 43", x, x.firstNot(0), 8, 0);
        x.pay(0, 0, 1);
        c.due("every sum to 44", x, x.firstNot(0), -1, 6);
        c.due("44", x, x.payable(0), 44, 0);
        c.due("all", x, x.payable(1), 999, 0);
        c.due("none that he can't", x, x.firstNot(1), -1, 6);
        c.due("500 + 55 x 9 + 4", x, x.fewest(1, 999), 60, 0);
        x = Check.in("kind a worth 1; kind b worth 1; kind d worth 1; kind e worth 1; person p; has p a 600; has p d 100; has p e 299;");
        int[] due = {600, 0, 100, 299};
        for (int kind = 0; kind < 4; kind++) {
            c.due("all of kind " + kind, x, x.payWith(0, 999, kind), due[kind], 0);
        }
        c.due("of the last kind", x, x.payWith(0, 703, 3), 3, 0);
        x = Check.in("kind a worth 50; kind b worth 30; kind d worth 20; kind e worth 7; person p; has p a 1; has p b 2; has p d 1; has p e 2;");
        int[] less = {1, 0, 0, 2};
        for (int kind = 0; kind < 4; kind++) {
            c.due("64 with kind " + kind, x, x.payWith(0, 64, kind), less[kind], 0);
        }
        c.due("50 + 2 x 7", x, x.fewest(0, 64), 3, 0);
        c.due("of 50 and of 30 + 20 the first", x, x.fewest(0, 50), 1, 0);
        x = Check.in("person p;");
        c.due("nothing without kinds", x, x.fewest(0, 0), 0, 0);
        c.due("a sum without kinds", x, x.fewest(0, 1), -1, 6);
    }

    private static void couldBuy() {
        BarkMoney x = Check.in("calm 9999; kind a worth 5; kind b worth 20; good g value 10 stock 7; good h value 7; good i value 1 stock 999;"
            + "person p; has p a 9; has p b 2; person q;");
        c.due("80 by 10", x, x.couldBuy(0, 0), 7, 0);
        c.due("70 by 7", x, x.couldBuy(0, 1), 10, 0);
        c.due("85", x, x.couldBuy(0, 2), 85, 0);
        c.due("none", x, x.couldBuy(1, 0), 0, 0);
        c.due("no such person", x, x.couldBuy(2, 0), -1, 1);
        c.due("no such good", x, x.couldBuy(0, 3), -1, 1);
        x.pay(0, 1, 999);
        c.due("stock of 999 at 1, 995 can be paid", x, x.couldBuy(0, 2), 995, 0);
        x = Check.in("calm 10; kind a worth 500; good g value 99; person p; has p a 9;");
        c.due("too dear", x, x.couldBuy(0, 0), 0, 0);
        x = Check.in("calm 9999; kind a worth 5; good g value 15; person p; has p a 4;");
        c.due("just 1", x, x.couldBuy(0, 0), 1, 0);
        x = Check.in("calm 9999; kind a worth 1; good g value 1 stock 999; good h value 3 stock 999; person p; has p a 999;");
        c.due("for 999", x, x.couldBuy(0, 0), 999, 0);
        c.due("for 999", x, x.couldBuy(0, 1), 333, 0);
    }

    private static void changes() {
        BarkMoney x = Check.in("kind a worth 1; kind b worth 1; kind d worth 1; kind e worth 1;");
        c.due("like kinds are others", x, x.changes(2), 10, 0);
        c.due("999", x, x.changes(999), 1002L * 1001 * 1000 / 6, 0);
        c.due("0", x, x.changes(0), 1, 0);
        c.due("-1", x, x.changes(-1), -1, 1);
        c.due("1000", x, x.changes(1000), -1, 1);
        c.due("least", x, x.leastSheets(999), 999, 0);
        x = Check.in("kind a worth 6; kind b worth 10; kind d worth 15;");
        c.due("30", x, x.changes(30), 3, 0);
        c.due("30 again", x, x.changes(30), 3, 0);
        c.due("29", x, x.changes(29), 0, 0);
        c.due("least of 29", x, x.leastSheets(29), -1, 6);
        c.due("least of 30", x, x.leastSheets(30), 2, 0);
        c.due("least of 31", x, x.leastSheets(31), 3, 0);
        c.due("least of 0", x, x.leastSheets(0), 0, 0);
        c.due("-1", x, x.leastSheets(-1), -1, 1);
        c.due("1000", x, x.leastSheets(1000), -1, 1);
    }

    private static void baskets() {
        BarkMoney x = Check.in("good a value 1 stock 0; good b value 1; good d value 1; good e value 1; good f value 1;");
        c.due("999", x, x.baskets(999), 1003L * 1002 * 1001 * 1000 / 24, 0);
        c.due("0", x, x.baskets(0), 1, 0);
        c.due("-1", x, x.baskets(-1), -1, 1);
        c.due("1000", x, x.baskets(1000), -1, 1);
        x = Check.in("calm 100; kind k worth 5; person p; has p k 21; good a value 7 stock 0; good b value 10;");
        c.due("price 14 and 20", x, x.baskets(34), 1, 0);
        c.due("140", x, x.baskets(140), 2, 0);
        c.due("odd", x, x.baskets(35), 0, 0);
        c.due("499 of 7s and 10s: 7 x 7 + 45 x 10 and so on", x, x.baskets(998), 7, 0);
        c.due("17", x, x.baskets(17), 0, 0);
        c.due("most for 40", x, x.mostValue(40), 20, 0);
        c.due("most for 50", x, x.mostValue(50), 24, 0);
        c.due("most for 13", x, x.mostValue(13), 0, 0);
        c.due("most for 15", x, x.mostValue(15), 7, 0);
        c.due("most for 0", x, x.mostValue(0), 0, 0);
        c.due("-1", x, x.mostValue(-1), -1, 1);
        c.due("1000", x, x.mostValue(1000), -1, 1);
        c.due("most for 999", x, x.mostValue(999), 499, 0);
        x = Check.in("good a value 7 stock 0; good b value 10;");
        c.due("most at level 1", x, x.mostValue(23), 21, 0);
        c.due("most at level 1", x, x.mostValue(24), 24, 0);
        x = Check.in("calm 10; kind k worth 500; person p; has p k 999; good a value 99;");
        c.due("too dear", x, x.mostValue(999), 0, 0);
        c.due("too dear", x, x.baskets(999), 0, 0);
        c.due("nothing", x, x.baskets(0), 1, 0);
    }

    private static void losing() {
        BarkMoney x = Check.in("kind k worth 5; kind l worth 20; kind m worth 200; person p; person q; person r; has p k 9; has q k 4; has q l 4; has r l 5;");
        c.due("p", x, x.loses(0, 0), 25, 0);
        c.due("q", x, x.loses(1, 0), 20, 0);
        c.due("r has none", x, x.loses(2, 0), 0, 0);
        c.due("losers", x, x.losers(0), 3, 0);
        c.due("r wins", x, x.loses(2, 1), -100, 0);
        c.due("losers", x, x.losers(1), 2, 0);
        c.due("the last kind", x, x.loses(0, 2), -1, 7);
        c.due("the last kind", x, x.losers(2), -1, 7);
        c.due("no such person", x, x.loses(3, 2), -1, 1);
        c.due("no such kind", x, x.loses(0, 3), -1, 1);
        c.due("no such kind", x, x.losers(3), -1, 1);
        c.due("no such kind", x, x.losers(-1), -1, 1);
        x.tear(0, 0, 9);
        c.due("torn ones count", x, x.loses(0, 0), 25, 0);
        x = Check.in("kind k worth 1; kind l worth 4; person p; person q; has p k 5; has q k 5; has q l 1;");
        c.due("1", x, x.loses(0, 0), 1, 0);
        c.due("both lose 1", x, x.losers(0), 3, 0);
    }

    private static void kept() {
        BarkMoney x = new BarkMoney();
        c.due("1", x, x.keptOf(1), 1, 0);
        c.due("33", x, x.keptOf(33), 1, 0);
        c.due("34", x, x.keptOf(34), 2, 0);
        c.due("100", x, x.keptOf(100), 3, 0);
        c.due("67", x, x.keptOf(67), 3, 0);
        c.due("9,999", x, x.keptOf(9999), 300, 0);
        c.due("0", x, x.keptOf(0), -1, 1);
        c.due("10,000", x, x.keptOf(10000), -1, 1);
        x.rule(1, 0);
        c.due("no fee", x, x.keptOf(9999), 0, 0);
        x.rule(1, 50);
        c.due("half", x, x.keptOf(9999), 5000, 0);
    }

    private static void odds(BarkMoney x, int n, int m, int k, long top, long bottom) {
        c.due("forged", x, x.forged(n, m, k), true, 0);
        c.due("top of " + n + ", " + m + ", " + k, x.top(), top);
        c.due("bottom of " + n + ", " + m + ", " + k, x.bottom(), bottom);
    }

    private static void forged() {
        BarkMoney x = new BarkMoney();
        odds(x, 5, 2, 1, 2, 5);
        odds(x, 5, 2, 2, 7, 10);
        odds(x, 5, 2, 3, 9, 10);
        odds(x, 5, 2, 4, 1, 1);
        odds(x, 5, 2, 0, 0, 1);
        odds(x, 5, 0, 5, 0, 1);
        odds(x, 1, 1, 1, 1, 1);
        odds(x, 30, 1, 15, 1, 2);
        odds(x, 30, 15, 15, 155117519, 155117520);
        odds(x, 30, 30, 1, 1, 1);
        int[][] wrong = {{0, 0, 0}, {31, 0, 0}, {5, 6, 0}, {5, -1, 0}, {5, 0, 6}, {5, 0, -1}};
        for (int[] w : wrong) {
            c.due("wrong", x, x.forged(w[0], w[1], w[2]), false, 1);
        }
        c.due("top stays", x.top(), 1);
    }

    private static void looks() {
        BarkMoney x = new BarkMoney();
        x.forged(5, 2, 1);
        c.due("5, 2", x, x.looks(5, 2), 2, 0);
        c.due("30, 1", x, x.looks(30, 1), 15, 0);
        c.due("29, 1", x, x.looks(29, 1), 15, 0);
        c.due("30, 30", x, x.looks(30, 30), 1, 0);
        c.due("30, 15", x, x.looks(30, 15), 1, 0);
        c.due("30, 14", x, x.looks(30, 14), 2, 0);
        c.due("none", x, x.looks(30, 0), -1, 6);
        c.due("1, 1", x, x.looks(1, 1), 1, 0);
        c.due("n 0", x, x.looks(0, 0), -1, 1);
        c.due("n 31", x, x.looks(31, 1), -1, 1);
        c.due("m", x, x.looks(5, 6), -1, 1);
        c.due("m", x, x.looks(5, -1), -1, 1);
        c.due("the fraction stays", x.top() * 10 + x.bottom(), 25);
    }

    private static void plans() {
        BarkMoney x = Check.in("calm 100; war 999; kind k worth 5; person p; has p k 21;");
        c.due("40", x, x.plan(1, 40), 10, 0);
        c.due("40", x, x.planFirst(1, 40), 40, 0);
        c.due("100 twice", x, x.plan(2, 100), 50, 0);
        c.due("100 twice", x, x.planFirst(2, 100), 100, 0);
        c.due("nothing", x, x.plan(5, 0), 50, 0);
        c.due("nothing", x, x.planFirst(5, 0), 0, 0);
        c.due("999: all makes 1,104 out", x, x.plan(1, 999), 110, 0);
        c.due("999", x, x.planFirst(1, 999), 999, 0);
        c.due("0 months", x, x.plan(0, 1), -1, 1);
        c.due("6 months", x, x.plan(6, 1), -1, 1);
        c.due("need -1", x, x.plan(1, -1), -1, 1);
        c.due("need 1000", x, x.plan(1, 1000), -1, 1);
        c.due("0 months", x, x.planFirst(0, 1), -1, 1);
        c.due("6 months", x, x.planFirst(6, 1), -1, 1);
        c.due("need -1", x, x.planFirst(1, -1), -1, 1);
        c.due("need 1000", x, x.planFirst(1, 1000), -1, 1);
        x = Check.in("calm 10;");
        // 0: 7; 1: 6; 3: 4; 5: 2; 7: 0 unpaid, all below 10
        c.due("all", x, x.plan(1, 7), 0, 0);
        c.due("all", x, x.planFirst(1, 7), 7, 0);
        // of 14: 0, 3, 7, 10, 14: 7 leaves 7 unpaid, 10 costs 4 and 10
        c.due("half", x, x.plan(1, 14), 7, 0);
        c.due("half", x, x.planFirst(1, 14), 7, 0);
        // of 10 twice: 0 then 7, 2 then 7, 5 then 2, 7 then 2 (3 + 8), 7 then 0
        c.due("twice", x, x.plan(2, 10), 11, 0);
        c.due("the least first", x, x.planFirst(2, 10), 2, 0);
        // 10 and no more: 10 unrest either way
        c.due("as good", x, x.plan(1, 10), 3, 0);
        x = Check.in("calm 10; war 9;");
        x.month(1);
        // 9 are out: 1 of 1 makes 10: 10 more unrest against 1
        c.due("not paid", x, x.plan(3, 1), 3, 0);
        c.due("not paid", x, x.planFirst(3, 1), 0, 0);
        c.due("1 of 4 is too much", x, x.plan(1, 4), 4, 0);
        c.due("1 of 4 is too much", x, x.planFirst(1, 4), 0, 0);
    }

    private static final String FAIR = "calm 9999; kind a worth 5; good g value 10 stock 1; good h value 15 stock 1; good i value 20 stock 1;"
        + "person p; person q; has p a 7; has q a 4;";

    private static void games() {
        BarkMoney x = Check.in(FAIR);
        c.due("no turn", x, x.game(0, 1, 0), 0, 0);
        c.due("p buys i", x, x.game(0, 1, 1), 20, 0);
        c.due("p i, q h", x, x.game(0, 1, 2), 5, 0);
        c.due("p i, q h, p g", x, x.game(0, 1, 3), 15, 0);
        c.due("q first: q i, p h", x, x.game(1, 0, 2), 5, 0);
        c.due("q first: q i, p h, q has nothing", x, x.game(1, 0, 3), 5, 0);
        c.due("himself", x, x.game(0, 0, 1), -1, 1);
        c.due("no such person", x, x.game(2, 0, 1), -1, 1);
        c.due("no such person", x, x.game(0, 2, 1), -1, 1);
        c.due("turns -1", x, x.game(0, 1, -1), -1, 1);
        c.due("turns 4", x, x.game(0, 1, 4), -1, 1);
        c.due("nothing was bought", x.worth(0, 0) * 100 + x.good(2, 1), 3501);
        c.due("nothing was burned", x.told(11), 0);
        x = Check.in("calm 9999; kind a worth 1; kind b worth 4; good g value 3; good h value 4; person p; has p b 1; person q; has q a 5;");
        c.due("-1 is no NONE", x, x.game(0, 1, 0), 0, 0);
        c.due("p h, q h", x, x.game(0, 1, 2), 0, 0);
        x.burn(0, 1, 1);
        x.pay(0, 0, 3);
        c.due("p g, q h", x, x.game(0, 1, 2), -1, 0);
    }

    private static void moves() {
        BarkMoney x = Check.in(FAIR);
        c.due("i", x, x.moveOf(0, 1, 1), 2, 0);
        c.due("i", x, x.moveOf(0, 1, 2), 2, 0);
        c.due("i", x, x.moveOf(0, 1, 3), 2, 0);
        c.due("turns 0", x, x.moveOf(0, 1, 0), -1, 1);
        c.due("turns 4", x, x.moveOf(0, 1, 4), -1, 1);
        c.due("himself", x, x.moveOf(1, 1, 1), -1, 1);
        c.due("no such person", x, x.moveOf(0, 2, 1), -1, 1);
        x.burn(0, 0, 7);
        c.due("nothing", x, x.moveOf(0, 1, 3), -1, 6);
        x = Check.in("calm 9999; kind a worth 5; good g value 10; good h value 10; person p; person q; has p a 3;");
        c.due("of all as good the first", x, x.moveOf(0, 1, 3), 0, 0);
        x = new BarkMoney();
        c.due("no people", x, x.moveOf(0, 1, 1), -1, 1);
    }

    private static void nothingComesLast() {
        // p can buy but once: now or at the third turn is as good, now is told
        BarkMoney x = Check.in("calm 9999; kind a worth 5; good g value 10; person p; person q; has p a 2;");
        c.due("10 either way", x, x.game(0, 1, 3), 10, 0);
        c.due("nothing comes last", x, x.moveOf(0, 1, 3), 0, 0);
        // no stock at all
        x = Check.in("calm 9999; kind a worth 5; good g value 10 stock 0; person p; person q; has p a 2;");
        c.due("no stock", x, x.game(0, 1, 3), 0, 0);
        c.due("no stock", x, x.moveOf(0, 1, 3), -1, 6);
    }

    /** Rows that are full to the last place. */
    private static void asManyAsCanBe() {
        BarkMoney x = Check.in("calm 9999; kind a worth 1; kind b worth 2; kind d worth 3; kind e worth 4;"
            + "good f value 5; good g value 6; good h value 7; good i value 8; good j value 9;"
            + "person p; person q; person r; person s; person t; has t a 9; has t e 9; has s d 1; has q e 3;");
        c.due("richest", x, x.richest(), 4, 0);
        c.due("out", x, x.told(8), 60, 0);
        c.due("losers", x, x.losers(2), 8, 0);
        c.due("losers", x, x.losers(0), 16, 0);
        c.due("9 - 8 + 9", x, x.game(4, 1, 3), 10, 0);
        c.due("move", x, x.moveOf(4, 1, 3), 4, 0);
        c.due("buy", x, x.buy(4, 4, 1), 3, 0);
        c.due("1 + 4 + 4", x, x.sheets(4, 0, 0) * 10 + x.sheets(4, 3, 0), 87, 0);
        c.due("sell", x, x.sell(4, 4, 1), 3, 0);
        c.due("renew", x, x.renew(0), 7, 0);
        c.due("sheets", x, x.sheets(4, 1, 0), 1, 0);
        c.due("mark and undo", x.mark() + x.undo(), 1);
        x.tray(0, 0, 4);
        c.due("copy", x, x.copySheets(4, 0), 4, 0);
        c.due("count", x, x.count(0), 38, 0);
    }

    private static void copying() {
        BarkMoney x = Check.in("kind a worth 5; kind b worth 20; person p; person q; has q a 300; has q b 2;");
        c.due("missing", x, x.copySheets(1, 0), -1, 2);
        x.tray(0, 1, 1);
        c.due("too few", x, x.copySheets(1, 0), -1, 3);
        x.tray(0, 1, 3);
        x.write(0, 2, 77);
        c.due("copy", x, x.copySheets(1, 0), 2, 0);
        c.due("a", x.read(0, 0), 300);
        c.due("b", x.read(0, 1), 2);
        c.due("the rest stays", x.read(0, 2), 77);
        x.tray(1, 0, 2);
        c.due("8 bits", x, x.copySheets(1, 1), 2, 0);
        c.due("cut", x.read(1, 0), 44);
        c.due("no such person ahead of a missing one", x, x.copySheets(2, 3), -1, 1);
        c.due("no such tray", x, x.copySheets(1, 4), -1, 1);
        c.due("no such tray", x, x.copySheets(1, -1), -1, 1);
        x = Check.in("person p;");
        x.tray(0, 0, 0);
        c.due("no kinds", x, x.copySheets(0, 0), 0, 0);
        c.due("no kinds", x, x.count(0), 0, 0);
    }

    private static void counting() {
        BarkMoney x = Check.in("kind a worth 5; kind b worth 500;");
        c.due("missing", x, x.count(0), -1, 2);
        c.due("no such tray", x, x.count(4), -1, 1);
        c.due("no such tray", x, x.count(-1), -1, 1);
        x.tray(0, 3, 1);
        c.due("too few", x, x.count(0), -1, 3);
        x.tray(0, 3, 3);
        x.write(0, 0, 3);
        x.write(0, 1, 9999);
        x.write(0, 2, -5);
        c.due("count", x, x.count(0), 15 + 9999 * 500, 0);
        x.write(0, 0, 0);
        c.due("a 0 can be", x, x.count(0), 9999 * 500, 0);
        x.write(0, 1, 10000);
        c.due("above 9,999", x, x.count(0), -1, 5);
        x.write(0, 1, -1);
        c.due("below 0", x, x.count(0), -1, 5);
        x.write(0, 1, 1L << 32);
        c.due("far above", x, x.count(0), -1, 5);
    }
}
