/** Promises 59 and 60 at their boundaries: MARKS, and all that is taken back to them. */
public final class MarkEdgesTest {
    private static final Check c = new Check();
    private static final Twins rich = new Twins(c, Twins.RICH);
    private static final Twins empty = new Twins(c, x -> { });

    public static void main(String[] args) {
        threeAtMost();
        noneLeft();
        allIsTakenBack();
        theLatestFirst();
        marksOfLandsAndReigns();
        everyLineOfReigns();
        whatIsNoPartOfAMark();
        marksOutliveALand();
        aMarkIsKeptAsItIs();
        c.end();
    }

    private static void threeAtMost() {
        // RICH has two MARKS
        rich.inside("the third", x -> x.mark(), 3);
        Twins three = new Twins(c, x -> {
            Twins.RICH.accept(x);
            x.mark();
            x.pay(0, 0, 1);
        });
        three.beyond("a fourth", 4, x -> x.mark());
        BarkMoney y = three.inside("one is gone", x -> x.undo(), 2);
        c.due("a third again", y, y.mark(), 3, 0);
        c.due("a fourth again", y, y.mark(), -1, 4);
        empty.inside("the first", x -> x.mark(), 1);
    }

    private static void noneLeft() {
        empty.beyond("none yet", 6, x -> x.undo());
        BarkMoney y = rich.inside("the second", x -> x.undo(), 1);
        c.due("the first", y, y.undo(), 0, 0);
        c.due("none left", y, y.undo(), -1, 6);
        c.due("none left, again", y, y.undo(), -1, 6);
        c.due("a new one", y, y.mark(), 1, 0);
        c.due("and back", y, y.undo(), 0, 0);
        Twins spent = new Twins(c, x -> {
            Twins.RICH.accept(x);
            x.undo();
            x.undo();
        });
        spent.beyond("all are gone", 6, x -> x.undo());
    }

    private static void takenBack(String what, Twins.Call deed) {
        BarkMoney x = rich.fresh();
        x.mark();
        deed.on(x);
        c.due(what + " can be", x.status(), 0);
        c.due("undo of " + what, x, x.undo(), 2, 0);
        rich.same(what + " taken back", rich.fresh(), x);
    }

    private static void allIsTakenBack() {
        takenBack("nothing", x -> 0);
        takenBack("pay", x -> x.pay(0, 0, 9));
        takenBack("buy", x -> x.buy(0, 1, 1));
        takenBack("sell", x -> x.sell(0, 1, 1));
        takenBack("tear", x -> x.tear(1, 0, 2));
        takenBack("mend", x -> x.mend(1, 0, 2));
        takenBack("give", x -> x.give(1, 0, 0, 2) ? 1 : 0);
        takenBack("burn", x -> x.burn(1, 0, 2));
        takenBack("cross", x -> x.cross(1, 0, 2));
        takenBack("renew", x -> x.renew(0));
        takenBack("month", x -> x.month(9));
        takenBack("CALM", x -> x.rule(0, 10) ? 1 : 0);
        takenBack("FEE", x -> x.rule(1, 50) ? 1 : 0);
        takenBack("WAR", x -> x.rule(2, 999) ? 1 : 0);
        takenBack("bring", x -> x.bring(0, 99));
        takenBack("all of these", x -> x.pay(0, 0, 9) + x.buy(0, 1, 1) + x.tear(1, 0, 2) + x.cross(1, 0, 2) + x.renew(0) + x.month(9) + x.bring(0, 99));
    }

    private static void theLatestFirst() {
        BarkMoney x = Check.in("kind k worth 5; person p;");
        x.pay(0, 0, 1);
        x.mark();
        x.pay(0, 0, 10);
        x.mark();
        x.pay(0, 0, 100);
        x.mark();
        x.pay(0, 0, 500);
        c.due("all", x.sheets(0, 0, 0), 611);
        c.due("undo", x, x.undo(), 2, 0);
        c.due("the third MARK", x.sheets(0, 0, 0), 111);
        x.pay(0, 0, 2);
        x.mark();
        x.pay(0, 0, 900);
        c.due("undo", x, x.undo(), 2, 0);
        c.due("the new third MARK", x.sheets(0, 0, 0), 113);
        c.due("undo", x, x.undo(), 1, 0);
        c.due("the second MARK", x.sheets(0, 0, 0), 11);
        c.due("undo", x, x.undo(), 0, 0);
        c.due("the first MARK", x.sheets(0, 0, 0), 1);
    }

    private static void marksOfLandsAndReigns() {
        BarkMoney x = Check.in("kind k worth 5; person p; good g value 3; has p k 9;");
        Twins.take(x, "pay p k 3;", false);
        x.mark();
        Twins.take(x, "pay p k 4; month 1;", false);
        x.mark();
        Twins.take(x, "person k; kind p worth 7;", true);
        x.mark();
        Twins.take(x, "month 2; month 3; month 4;", false);
        c.due("the latest REIGNS", x, x.live(0), 3, 0);
        c.due("undo", x, x.undo(), 2, 0);
        c.due("no REIGNS at the third MARK", x, x.live(0), -1, 6);
        c.due("the second LAND", x, x.kind(0), 7, 0);
        c.due("its MONTH", x.told(6), 0);
        c.due("undo", x, x.undo(), 1, 0);
        c.due("the first LAND", x, x.kind(0), 5, 0);
        c.due("its second REIGNS", x, x.live(0), 2, 0);
        c.due("9 + 4", x.sheets(0, 0, 0), 13);
        c.due("undo", x, x.undo(), 0, 0);
        c.due("its first REIGNS", x, x.live(0), 1, 0);
        c.due("9 + 3", x.sheets(0, 0, 0), 12);
        c.due("its names", x, Check.reigns(x, "buy p g 1; tear p k 1;"), 2, 0);
        c.due("not those of the second LAND", x, Check.reigns(x, "pay k p 1;"), -1, 9);
    }

    /** REIGNS of every shape, to the last line, are taken back over others of every shape. */
    private static void everyLineOfReigns() {
        String[] shapes = {
            "when level > 2; pay bo leaf 2; end; loop 3; month 1; when left silk < 9; stop; end; end; any;",
            "loop 2; when holds bo = 65; tear bo leaf 5; end; when level = 3; mend bo leaf 1; end; end; buy ann silk 1; sell ann silk 1;",
            "loop 1; end; ".repeat(22),
            "any;".repeat(30),
            "loop 2; loop 2; loop 2; any; end; month 1; end; when level < 9; pay cy wood 3; end; end;",
            "loop 1;end;".repeat(26) + "pay bo leaf 9;",
            "stop;",
            ""
        };
        for (String shape : shapes) {
            Twins t = new Twins(c, x -> {
                Twins.RICH.accept(x);
                x.reigns(0);
                Twins.take(x, shape, false);
            });
            for (String other : shapes) {
                BarkMoney x = t.fresh();
                x.mark();
                Twins.take(x, other, false);
                c.due("undo", x, x.undo(), 2, 0);
                t.same("'" + other + "' in place of '" + shape + "' taken back", t.fresh(), x);
            }
        }
    }

    private static void whatIsNoPartOfAMark() {
        BarkMoney x = Check.in("kind k worth 5; person p; war 3;");
        Twins.take(x, "month 2;", false);
        x.mark();
        x.tray(0, 0, 2);
        x.write(0, 1, 7);
        x.forged(5, 2, 2);
        Check.feed(x, "fee 9;");
        x.live(0);
        Check.feed(x, "");
        x.undo();
        c.due("TRAYS stay", x, x.read(0, 1), 7, 0);
        c.due("the FRACTION stays", x.top() * 100 + x.bottom(), 710);
        c.due("what was lived stays told", x, x.lived(1), 2, 0);
        c.due("though the MONTHS are gone", x.told(6), 0);
        c.due("the tape stays", x, x.land(6), 0, 0);
        c.due("fee", x.told(4), 9);
    }

    private static void marksOutliveALand() {
        BarkMoney x = rich.fresh();
        c.due("a new LAND", x, x.land(20), 1, 0);
        c.due("MARKS stay", x, x.undo(), 1, 0);
        c.due("the old LAND", x.told(2), 3);
        BarkMoney y = rich.fresh();
        y.land(11);
        c.due("a FAULT leaves them, too", y, y.undo(), 1, 0);
        BarkMoney z = rich.fresh();
        z.undo();
        c.due("as if there had been no other LAND", x.told(8), z.told(8));
    }

    /** What is done behind a MARK, and behind an undo(), does not reach into a MARK. */
    private static void aMarkIsKeptAsItIs() {
        BarkMoney x = Check.in("kind k worth 5; person p; good g value 5;");
        x.mark();
        x.mark();
        x.undo();
        x.pay(0, 0, 9);
        x.bring(0, 9);
        x.rule(1, 9);
        c.due("undo", x, x.undo(), 0, 0);
        c.due("sheets", x.sheets(0, 0, 0), 0);
        c.due("STOCK", x.good(0, 1), 10);
        c.due("FEE", x.told(4), 3);
        x.mark();
        x.mean(0, 1);
        Check.land(x, "person q; fee");
        x.undo();
        c.due("a mean, a FAULT leave it", x.told(2) * 10 + x.told(4), 13);
    }
}
