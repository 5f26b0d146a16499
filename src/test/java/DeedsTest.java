/** Promises 21 to 32, 59 and 60: what is done to a LAND, and MARKS. */
public final class DeedsTest {
    private static final Check c = new Check();

    public static void main(String[] args) {
        paying();
        buying();
        buyingByTheFewest();
        selling();
        tearing();
        mending();
        giving();
        burning();
        crossing();
        renewing();
        months();
        rules();
        bringing();
        marks();
        marksOfLands();
        c.end();
    }

    private static void books(String when, BarkMoney x, int out, int printed, int burned) {
        c.due("out " + when, x.told(8), out);
        c.due("printed " + when, x.told(10), printed);
        c.due("burned " + when, x.told(11), burned);
    }

    /** PAY to so many sheets of a KIND in all. */
    private static void fill(BarkMoney x, int person, int kind, int goal) {
        for (int i = 0; i < 11 && x.sheets(person, kind, 0) < goal; i++) {
            x.pay(person, kind, Math.min(999, goal - x.sheets(person, kind, 0)));
        }
    }

    private static void paying() {
        BarkMoney x = Check.in("kind k worth 5; kind l worth 7; person p; person q; has q l 2;");
        c.due("pay", x, x.pay(1, 1, 3), 5, 0);
        c.due("whole ones", x.sheets(1, 1, 0), 5);
        books("behind pay", x, 35, 21, 0);
        c.due("level waits for a month", x.told(7), 1);
        c.due("n 0", x, x.pay(0, 0, 0), -1, 1);
        c.due("n 1000", x, x.pay(0, 0, 1000), -1, 1);
        c.due("no such person", x, x.pay(2, 0, 1), -1, 1);
        c.due("no such person", x, x.pay(-1, 0, 1), -1, 1);
        c.due("no such kind", x, x.pay(0, 2, 1), -1, 1);
        c.due("no such kind", x, x.pay(0, -1, 1), -1, 1);
        fill(x, 0, 0, 9998);
        c.due("above 9,999", x, x.pay(0, 0, 2), -1, 7);
        c.due("to 9,999", x, x.pay(0, 0, 1), 9999, 0);
        c.due("above 9,999", x, x.pay(0, 0, 1), -1, 7);
        books("at last", x, 35 + 9999 * 5, 21 + 9999 * 5, 0);
    }

    private static void buying() {
        BarkMoney x = Check.in("calm 100; kind k worth 5; kind l worth 20; good g value 7 stock 3; good h value 10;"
            + "person p; person q; has p k 9; has p l 2; has q k 4;");
        c.due("level", x.told(7), 2);
        c.due("buy", x, x.buy(0, 1, 2), 2, 0);
        c.due("kind 0 stays", x.sheets(0, 0, 0), 9);
        c.due("kind 1", x.sheets(0, 1, 0), 0);
        c.due("goods", x.goods(0, 1), 2);
        c.due("stock", x.good(1, 1), 8);
        books("behind buy", x, 65, 0, 40);
        c.due("it can't be paid", x, x.buy(0, 0, 1), -1, 7);
        c.due("more than he has", x, x.buy(1, 1, 2), -1, 7);
        c.due("above stock", x, x.buy(0, 0, 4), -1, 7);
        c.due("nothing changed", x.good(0, 1) * 100 + x.goods(0, 1), 302);
        c.due("n 0", x, x.buy(0, 0, 0), -1, 1);
        c.due("n 1000", x, x.buy(0, 0, 1000), -1, 1);
        c.due("no such person", x, x.buy(2, 0, 1), -1, 1);
        c.due("no such good", x, x.buy(0, 2, 1), -1, 1);
        c.due("no such good", x, x.buy(0, -1, 1), -1, 1);
        x = Check.in("kind k worth 1; good g value 1 stock 999; person p; calm 9999;");
        fill(x, 0, 0, 9999);
        c.due("999 at once", x, x.buy(0, 0, 999), 999, 0);
        goodsAreFull(x);
        x = Check.in("kind k worth 500; good g value 50 stock 999; person p; has p k 99; calm 9999;");
        x.month(1);
        c.due("level", x.told(7), 5);
        c.due("a sum of 1,000", x, x.buy(0, 0, 4), -1, 7);
        c.due("a sum of 500", x, x.buy(0, 0, 2), 1, 0);
    }

    private static void goodsAreFull(BarkMoney x) {
        for (int i = 0; i < 9; i++) {
            x.bring(0, 999);
            x.buy(0, 0, 999);
        }
        x.bring(0, 20);
        fill(x, 0, 0, 20);
        c.due("goods", x.goods(0, 0), 9990);
        c.due("goods above 9,999", x, x.buy(0, 0, 10), -1, 7);
        c.due("he could buy", x, x.couldBuy(0, 0), 9, 0);
        c.due("goods to 9,999", x, x.buy(0, 0, 9), 9, 0);
        c.due("no more", x, x.couldBuy(0, 0), 0, 0);
    }

    private static void buyingByTheFewest() {
        // 30 is 3 x 10, 15 + 15 or 20 + 10: of two sheets, most of kind 0 first
        BarkMoney x = Check.in("calm 9999; kind a worth 10; kind b worth 15; kind d worth 20;"
            + "good g value 30; person p; has p a 3; has p b 2; has p d 1;");
        c.due("fewest", x, x.fewest(0, 30), 2, 0);
        c.due("kind 0", x, x.payWith(0, 30, 0), 1, 0);
        c.due("kind 1", x, x.payWith(0, 30, 1), 0, 0);
        c.due("kind 2", x, x.payWith(0, 30, 2), 1, 0);
        c.due("buy", x, x.buy(0, 0, 1), 2, 0);
        c.due("left", x.sheets(0, 0, 0) * 100 + x.sheets(0, 1, 0) * 10 + x.sheets(0, 2, 0), 220);
        c.due("buy", x, x.buy(0, 0, 1), 2, 0);
        c.due("left", x.sheets(0, 0, 0) * 100 + x.sheets(0, 1, 0) * 10 + x.sheets(0, 2, 0), 200);
        c.due("20 are left", x, x.buy(0, 0, 1), -1, 7);
        // kinds of one worth: the first of them first
        x = Check.in("calm 9999; kind a worth 5; kind b worth 5; good g value 15; person p; has p a 2; has p b 9;");
        x.buy(0, 0, 1);
        c.due("both of kind 0", x.sheets(0, 0, 0) * 10 + x.sheets(0, 1, 0), 8);
        x = Check.in("calm 9999; kind a worth 2; kind b worth 1; kind d worth 3; good g value 4; person p; has p a 2; has p b 1; has p d 1;");
        x.buy(0, 0, 1);
        c.due("2 + 2 ahead of 1 + 3", x.sheets(0, 0, 0) * 100 + x.sheets(0, 1, 0) * 10 + x.sheets(0, 2, 0), 11);
        x = Check.in("calm 9999; kind a worth 1; kind b worth 3; kind d worth 2; good g value 4; person p; has p a 1; has p b 1; has p d 2;");
        x.buy(0, 0, 1);
        c.due("1 + 3 ahead of 2 + 2", x.sheets(0, 0, 0) * 100 + x.sheets(0, 1, 0) * 10 + x.sheets(0, 2, 0), 2);
        // the great sheet does not lead to the sum: 25 and 3 x 1 against 10 + 10 + 10 (no 1s)
        x = Check.in("calm 9999; kind a worth 25; kind b worth 10; good g value 30; person p; has p a 1; has p b 3;");
        c.due("buy", x, x.buy(0, 0, 1), 3, 0);
        c.due("left", x.sheets(0, 0, 0) * 10 + x.sheets(0, 1, 0), 10);
    }

    private static void selling() {
        BarkMoney x = Check.in("calm 9999; kind k worth 5; kind l worth 20; good g value 10; person p; has p k 2; good u value 7;");
        x.buy(0, 0, 1);
        c.due("he has not so much", x, x.sell(0, 0, 2), -1, 7);
        c.due("sell", x, x.sell(0, 0, 1), 2, 0);
        books("behind sell", x, 10, 10, 10);
        c.due("stock", x.good(0, 1), 10);
        c.due("goods", x.goods(0, 0), 0);
        x.pay(0, 1, 9);
        x.buy(0, 0, 6);
        c.due("price 60 by kind 1", x, x.sell(0, 0, 6), 3, 0);
        c.due("sheets", x.sheets(0, 0, 0) * 100 + x.sheets(0, 1, 0), 209);
        c.due("n 0", x, x.sell(0, 0, 0), -1, 1);
        c.due("n 1000", x, x.sell(0, 0, 1000), -1, 1);
        c.due("no such person", x, x.sell(1, 0, 1), -1, 1);
        c.due("no such good", x, x.sell(0, 2, 1), -1, 1);
        x = Check.in("calm 9999; kind k worth 7; kind l worth 500; good g value 7; person p; has p k 9; has p l 40;");
        x.buy(0, 0, 1);
        x.month(1);
        c.due("level", x.told(7), 3);
        c.due("price 21", x, x.sell(0, 0, 1), 3, 0);
        x = Check.in("calm 10; kind k worth 4; good g value 2; person p; has p k 1; person q; has q k 2;");
        c.due("level", x.told(7), 2);
        x.buy(0, 0, 1);
        x.month(1);
        c.due("level", x.told(7), 1);
        c.due("2 can't be paid by 4s", x, x.sell(0, 0, 1), -1, 7);
        stockAndSheetsAreFull();
        x = Check.in("calm 9999; kind k worth 9; good g value 9 stock 999; person p; has p k 400;");
        x.buy(0, 0, 111);
        x.buy(0, 0, 1);
        c.due("for 1,008", x, x.sell(0, 0, 112), -1, 7);
        c.due("for 999", x, x.sell(0, 0, 111), 111, 0);
    }

    private static void stockAndSheetsAreFull() {
        BarkMoney x = Check.in("calm 9999; kind k worth 1; good g value 1 stock 999; person p; has p k 9;");
        x.buy(0, 0, 2);
        for (int i = 0; i < 9; i++) {
            x.bring(0, 999);
        }
        x.bring(0, 9999 - x.good(0, 1) - 1);
        c.due("stock", x.good(0, 1), 9998);
        c.due("stock above 9,999", x, x.sell(0, 0, 2), -1, 7);
        c.due("stock to 9,999", x, x.sell(0, 0, 1), 1, 0);
        x = Check.in("calm 9999; kind k worth 1; good g value 1 stock 999; person p; has p k 9;");
        x.buy(0, 0, 2);
        fill(x, 0, 0, 9998);
        c.due("sheets above 9,999", x, x.sell(0, 0, 2), -1, 7);
        c.due("sheets to 9,999", x, x.sell(0, 0, 1), 1, 0);
        x = Check.in("calm 9999; kind a worth 2; kind b worth 1; good g value 2; person p; has p b 2;");
        x.buy(0, 0, 1);
        fill(x, 0, 0, 9999);
        c.due("the fewest is the way, though others had room", x, x.sell(0, 0, 1), -1, 7);
    }

    private static void tearing() {
        BarkMoney x = Check.in("kind k worth 5; person p; has p k 9;");
        c.due("tear", x, x.tear(0, 0, 4), 4, 0);
        c.due("whole", x.sheets(0, 0, 0), 5);
        c.due("torn", x.sheets(0, 0, 1), 4);
        books("behind tear", x, 45, 0, 0);
        c.due("he has not so many", x, x.tear(0, 0, 6), -1, 7);
        c.due("n 0", x, x.tear(0, 0, 0), -1, 1);
        c.due("n 1000", x, x.tear(0, 0, 1000), -1, 1);
        c.due("no such person", x, x.tear(1, 0, 1), -1, 1);
        c.due("no such kind", x, x.tear(0, 1, 1), -1, 1);
        for (int i = 0; i < 10; i++) {
            fill(x, 0, 0, 999);
            x.tear(0, 0, 999);
        }
        fill(x, 0, 0, 20);
        c.due("torn", x.sheets(0, 0, 1), 9994);
        c.due("above 9,999", x, x.tear(0, 0, 6), -1, 7);
        c.due("to 9,999", x, x.tear(0, 0, 5), 9999, 0);
    }

    private static void mending() {
        BarkMoney x = Check.in("fee 10; kind k worth 5; person p; has p k 30;");
        x.tear(0, 0, 25);
        c.due("11: 2 are kept", x, x.mend(0, 0, 11), 9, 0);
        c.due("whole", x.sheets(0, 0, 0), 14);
        c.due("torn", x.sheets(0, 0, 1), 14);
        books("behind mend", x, 140, 0, 10);
        c.due("1: it is kept", x, x.mend(0, 0, 1), 0, 0);
        books("behind mend", x, 135, 0, 15);
        c.due("he has not so many", x, x.mend(0, 0, 14), -1, 7);
        x.rule(1, 0);
        c.due("without a fee", x, x.mend(0, 0, 13), 13, 0);
        c.due("n 0", x, x.mend(0, 0, 0), -1, 1);
        c.due("n 1000", x, x.mend(0, 0, 1000), -1, 1);
        c.due("no such person", x, x.mend(1, 0, 1), -1, 1);
        c.due("no such kind", x, x.mend(0, 1, 1), -1, 1);
        x.tear(0, 0, 20);
        fill(x, 0, 0, 9990);
        int burned = x.told(11);
        int out = x.told(8);
        c.due("cut to 9,999", x, x.mend(0, 0, 20), 9, 0);
        c.due("whole", x.sheets(0, 0, 0), 9999);
        c.due("torn", x.sheets(0, 0, 1), 0);
        c.due("what he has not back is burned", x.told(11), burned + 55);
        c.due("out", x.told(8), out - 55);
    }

    private static void giving() {
        BarkMoney x = Check.in("kind k worth 5; person p; person q; has p k 9;");
        c.due("give", x, x.give(0, 1, 0, 4), true, 0);
        c.due("both", x.sheets(0, 0, 0) * 10 + x.sheets(1, 0, 0), 54);
        books("behind give", x, 45, 0, 0);
        c.due("himself", x, x.give(0, 0, 0, 1), false, 1);
        c.due("no such person", x, x.give(2, 0, 0, 1), false, 1);
        c.due("no such person", x, x.give(0, 2, 0, 1), false, 1);
        c.due("no such kind", x, x.give(0, 1, 1, 1), false, 1);
        c.due("n 0", x, x.give(0, 1, 0, 0), false, 1);
        c.due("n 1000", x, x.give(0, 1, 0, 1000), false, 1);
        c.due("he has not so many", x, x.give(0, 1, 0, 6), false, 7);
        fill(x, 1, 0, 9998);
        c.due("above 9,999", x, x.give(0, 1, 0, 2), false, 7);
        c.due("to 9,999", x, x.give(0, 1, 0, 1), true, 0);
        c.due("all that he has", x, x.give(0, 1, 0, 4), false, 7);
        x.burn(1, 0, 99);
        c.due("all that he has", x, x.give(0, 1, 0, 4), true, 0);
    }

    private static void burning() {
        BarkMoney x = Check.in("kind k worth 5; person p; has p k 9;");
        x.tear(0, 0, 2);
        c.due("burn", x, x.burn(0, 0, 3), 4, 0);
        books("behind burn", x, 30, 0, 15);
        c.due("torn ones don't count", x, x.burn(0, 0, 5), -1, 7);
        c.due("all", x, x.burn(0, 0, 4), 0, 0);
        c.due("n 0", x, x.burn(0, 0, 0), -1, 1);
        c.due("n 1000", x, x.burn(0, 0, 1000), -1, 1);
        c.due("no such person", x, x.burn(1, 0, 1), -1, 1);
        c.due("no such kind", x, x.burn(0, 1, 1), -1, 1);
    }

    private static void crossing() {
        BarkMoney x = Check.in("calm 20; kind k worth 5; person p silver 7; has p k 9;");
        c.due("level", x.told(7), 3);
        c.due("20 by 3", x, x.cross(0, 0, 4), 6, 0);
        c.due("silver", x.silver(0), 13);
        books("behind cross", x, 25, 0, 0);
        c.due("he has not so many", x, x.cross(0, 0, 6), -1, 7);
        c.due("n 0", x, x.cross(0, 0, 0), -1, 1);
        c.due("n 1000", x, x.cross(0, 0, 1000), -1, 1);
        c.due("no such person", x, x.cross(1, 0, 1), -1, 1);
        c.due("no such kind", x, x.cross(0, 1, 1), -1, 1);
        x = Check.in("calm 10; kind k worth 1; person p; has p k 20; kind l worth 500; has p l 1;");
        c.due("1 by 53", x, x.cross(0, 0, 1), 0, 0);
        c.due("all that he has", x, x.cross(0, 1, 1), 9, 0);
        x = Check.in("calm 9999; kind k worth 500; person p silver 999; kind l worth 1;");
        fill(x, 0, 0, 998);
        fill(x, 0, 1, 2);
        c.due("99,000", x, x.cross(0, 0, 198), 99000, 0);
        c.due("above 99,999", x, x.cross(0, 0, 1), -1, 7);
        c.due("above 99,999 by 1", x, x.cross(0, 1, 1), -1, 7);
        c.due("nothing changed", x.silver(0) + x.sheets(0, 0, 0) + x.sheets(0, 1, 0), 99999 + 800 + 2);
    }

    private static void renewing() {
        BarkMoney x = Check.in("kind k worth 5; kind l worth 20; kind m worth 30; person p; person q; has p k 14; has q k 4; has q l 1;");
        x.tear(0, 0, 6);
        c.due("p loses", x, x.loses(0, 0), 30, 0);
        c.due("q loses", x, x.loses(1, 0), 20, 0);
        c.due("losers", x, x.losers(0), 3, 0);
        c.due("renew", x, x.renew(0), 50, 0);
        c.due("p whole", x.sheets(0, 0, 0), 0);
        c.due("p torn", x.sheets(0, 0, 1), 0);
        c.due("p new", x.sheets(0, 1, 0), 2);
        c.due("q new", x.sheets(1, 1, 0), 1);
        books("behind renew", x, 60, 40, 90);
        c.due("the last kind", x, x.renew(2), -1, 7);
        c.due("no such kind", x, x.renew(3), -1, 1);
        c.due("no such kind", x, x.renew(-1), -1, 1);
        x = Check.in("kind k worth 1; kind l worth 6; person p; has p k 5;");
        c.due("he wins 1", x, x.loses(0, 0), -1, 0);
        c.due("no losers", x, x.losers(0), 0, 0);
        c.due("-1 is no NONE", x, x.renew(0), -1, 0);
        x = Check.in("kind k worth 3; kind l worth 2; person p; has p k 999;");
        fill(x, 0, 1, 9990);
        int printed = x.told(10);
        c.due("loses with the cut", x, x.loses(0, 0), 999 * 3 - 9 * 2, 0);
        c.due("cut to 9,999", x, x.renew(0), 999 * 3 - 9 * 2, 0);
        c.due("new ones", x.sheets(0, 1, 0), 9999);
        c.due("printed", x.told(10), printed + 18);
        c.due("burned", x.told(11), 2997);
        c.due("no kinds", new BarkMoney().renew(0), -1);
    }

    private static void months() {
        BarkMoney x = Check.in("calm 100; war 30; kind k worth 5; person p; has p k 9;");
        c.due("level", x.told(7), 1);
        c.due("45 + 30", x, x.month(1), 1, 0);
        c.due("soldiers", x.told(9), 30);
        c.due("105", x, x.month(1), 2, 0);
        books("behind months", x, 105, 60, 0);
        c.due("month", x.told(6), 2);
        x.pay(0, 0, 19);
        c.due("it does not know yet", x.told(7), 2);
        c.due("200 + 30", x, x.month(1), 3, 0);
        c.due("0", x, x.month(0), -1, 1);
        c.due("100", x, x.month(100), -1, 1);
        x.rule(2, 0);
        for (int i = 0; i < 100; i++) {
            x.month(99);
        }
        c.due("3 + 9,900", x.told(6), 9903);
        c.due("above 9,999", x, x.month(97), -1, 4);
        c.due("to 9,999", x, x.month(96), 3, 0);
        c.due("no more", x, x.month(1), -1, 4);
        c.due("what can't be, first", x, x.month(100), -1, 1);
    }

    private static void rules() {
        BarkMoney x = Check.in("kind k worth 5; person p; has p k 999;");
        c.due("calm", x, x.rule(0, 10), true, 0);
        c.due("calm", x, x.rule(0, 9999), true, 0);
        c.due("told", x.told(3), 9999);
        c.due("level waits", x.told(7), 10);
        c.due("month", x.month(1), 1);
        c.due("calm 9", x, x.rule(0, 9), false, 1);
        c.due("calm 10,000", x, x.rule(0, 10000), false, 1);
        c.due("fee 0", x, x.rule(1, 0), true, 0);
        c.due("fee 50", x, x.rule(1, 50), true, 0);
        c.due("fee 51", x, x.rule(1, 51), false, 1);
        c.due("fee -1", x, x.rule(1, -1), false, 1);
        c.due("war 0", x, x.rule(2, 0), true, 0);
        c.due("war 999", x, x.rule(2, 999), true, 0);
        c.due("war 1,000", x, x.rule(2, 1000), false, 1);
        c.due("war -1", x, x.rule(2, -1), false, 1);
        c.due("what 3", x, x.rule(3, 10), false, 1);
        c.due("what -1", x, x.rule(-1, 10), false, 1);
        c.due("all told", x.told(3) + x.told(4) + x.told(5), 9999 + 50 + 999);
    }

    private static void bringing() {
        BarkMoney x = Check.in("good g value 5 stock 9;");
        c.due("bring", x, x.bring(0, 999), 1008, 0);
        c.due("0", x, x.bring(0, 0), -1, 1);
        c.due("1000", x, x.bring(0, 1000), -1, 1);
        c.due("no such good", x, x.bring(1, 1), -1, 1);
        for (int i = 0; i < 8; i++) {
            x.bring(0, 999);
        }
        c.due("to 9,999", x, x.bring(0, 999), 9999, 0);
        c.due("above 9,999", x, x.bring(0, 1), -1, 7);
        c.due("stock", x.good(0, 1), 9999);
    }

    private static void marks() {
        BarkMoney x = Check.in("calm 50; war 9; kind k worth 5; kind l worth 9; good g value 3; person p; person q; has p k 20;");
        c.due("none yet", x, x.undo(), -1, 6);
        c.due("mark", x, x.mark(), 1, 0);
        x.tray(0, 0, 4);
        x.forged(3, 1, 1);
        x.pay(0, 1, 3);
        x.tear(0, 0, 2);
        x.rule(1, 44);
        c.due("mark", x, x.mark(), 2, 0);
        x.month(5);
        x.bring(0, 7);
        c.due("mark", x, x.mark(), 3, 0);
        c.due("one too many", x, x.mark(), -1, 4);
        x.renew(0);
        c.due("undo", x, x.undo(), 2, 0);
        c.due("sheets", x.sheets(0, 0, 0) * 100 + x.sheets(0, 0, 1), 1802);
        c.due("stock", x.good(0, 1), 17);
        c.due("undo", x, x.undo(), 1, 0);
        c.due("month", x.told(6), 0);
        c.due("stock", x.good(0, 1), 10);
        c.due("printed", x.told(10), 27);
        c.due("undo", x, x.undo(), 0, 0);
        c.due("fee", x.told(4), 3);
        c.due("sheets", x.sheets(0, 0, 0), 20);
        books("at last", x, 100, 0, 0);
        c.due("none left", x, x.undo(), -1, 6);
        c.due("trays stay", x, x.read(0, 3), 0, 0);
        c.due("the fraction stays", x.top() * 10 + x.bottom(), 13);
    }

    private static void marksOfLands() {
        BarkMoney x = Check.in("person p; person q; kind k worth 5; has q k 4;");
        Check.reigns(x, "pay q k 3; month 2;");
        x.mark();
        Check.land(x, "person z; good k value 3;");
        c.due("no reigns", x, x.live(0), -1, 6);
        c.due("undo", x, x.undo(), 0, 0);
        c.due("people", x.told(2), 2);
        c.due("the reigns again", x, x.live(0), 2, 0);
        c.due("sheets", x.sheets(1, 0, 0), 7);
        c.due("names again", x, Check.reigns(x, "tear q k 1;"), 1, 0);
        x.mark();
        Check.reigns(x, "stop; any;");
        x.undo();
        x.live(0);
        c.due("the reigns of the mark", x.sheets(1, 0, 1), 1);
    }
}
