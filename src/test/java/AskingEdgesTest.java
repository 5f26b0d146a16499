/** Promises 13 to 20 at their boundaries: what is told of a LAND, and nothing changed by asking. */
public final class AskingEdgesTest {
    private static final Check c = new Check();
    private static final Twins rich = new Twins(c, Twins.RICH);
    private static final Twins empty = new Twins(c, x -> { });
    private static final int MIN = Integer.MIN_VALUE;
    private static final int MAX = Integer.MAX_VALUE;
    private static final String FULL = "kind a worth 1;kind b worth 2;kind d worth 3;kind e worth 4;good f value 5;good g value 6;good h value 7;"
        + "good i value 8;good j value 9;person k silver 1;person l silver 2;person m silver 3;person n silver 4;person o silver 5;";

    public static void main(String[] args) {
        told();
        outCountsAll();
        kinds();
        goods();
        sheets();
        owned();
        silver();
        worth();
        richest();
        fullRows();
        emptyLand();
        c.end();
    }

    private static void told() {
        int[] due = {3, 2, 3, 100, 10, 30, 1, 3, 215, 30, 40, 30};
        for (int i = 0; i < 12; i++) {
            int what = i;
            rich.asked("told(" + what + ")", x -> x.told(what), due[what]);
        }
        rich.beyond("told, what", 1, x -> x.told(-1), x -> x.told(12), x -> x.told(MIN), x -> x.told(MAX));
    }

    private static void outCountsAll() {
        BarkMoney x = Check.in("calm 100; war 7; kind k worth 5; kind l worth 20; person p silver 99; person q; has p k 4; has q l 3; good g value 10;");
        c.due("whole of all", x.told(8), 80);
        x.tear(1, 1, 2);
        c.due("torn ones, too", x.told(8), 80);
        x.month(3);
        c.due("the soldiers', too", x.told(8), 101);
        c.due("what they have", x.told(9), 21);
        x.cross(1, 1, 1);
        c.due("not what crossed the border", x.told(8), 81);
        c.due("nor burned", x.told(11), 0);
    }

    private static void kinds() {
        rich.asked("the first KIND", x -> x.kind(0), 5);
        rich.asked("the last KIND", x -> x.kind(2), 50);
        rich.beyond("no such KIND", 1, x -> x.kind(-1), x -> x.kind(3), x -> x.kind(MIN), x -> x.kind(MAX));
    }

    private static void goods() {
        rich.asked("VALUE", x -> x.good(0, 0), 7);
        rich.asked("STOCK", x -> x.good(1, 1), 9);
        rich.asked("PRICE", x -> x.good(1, 2), 30);
        rich.beyond("no such GOOD", 1, x -> x.good(-1, 0), x -> x.good(2, 0), x -> x.good(MIN, 0), x -> x.good(MAX, 0));
        rich.beyond("good, what", 1, x -> x.good(0, -1), x -> x.good(0, 3), x -> x.good(0, MIN), x -> x.good(0, MAX));
    }

    private static void sheets() {
        rich.asked("whole", x -> x.sheets(1, 0, 0), 13);
        rich.asked("torn", x -> x.sheets(1, 0, 1), 3);
        rich.asked("the last PERSON's last KIND", x -> x.sheets(2, 2, 0), 1);
        rich.beyond("no such PERSON", 1, x -> x.sheets(-1, 0, 0), x -> x.sheets(3, 0, 0), x -> x.sheets(MIN, 0, 0), x -> x.sheets(MAX, 0, 0));
        rich.beyond("no such KIND", 1, x -> x.sheets(0, -1, 0), x -> x.sheets(0, 3, 0), x -> x.sheets(0, MIN, 0), x -> x.sheets(0, MAX, 0));
        rich.beyond("sheets, what", 1, x -> x.sheets(0, 0, -1), x -> x.sheets(0, 0, 2), x -> x.sheets(0, 0, MIN), x -> x.sheets(0, 0, MAX));
    }

    private static void owned() {
        rich.asked("ann has silk", x -> x.goods(0, 1), 1);
        rich.asked("cy has none", x -> x.goods(2, 1), 0);
        rich.beyond("no such PERSON", 1, x -> x.goods(-1, 0), x -> x.goods(3, 0), x -> x.goods(MIN, 0), x -> x.goods(MAX, 0));
        rich.beyond("no such GOOD", 1, x -> x.goods(0, -1), x -> x.goods(0, 2), x -> x.goods(0, MIN), x -> x.goods(0, MAX));
    }

    private static void silver() {
        rich.asked("ann", x -> x.silver(0), 4);
        rich.asked("cy", x -> x.silver(2), 0);
        rich.beyond("no such PERSON", 1, x -> x.silver(-1), x -> x.silver(3), x -> x.silver(MIN), x -> x.silver(MAX));
    }

    private static void worth() {
        rich.asked("whole", x -> x.worth(1, 0), 65);
        rich.asked("torn", x -> x.worth(1, 1), 15);
        rich.asked("of two KINDS", x -> x.worth(0, 0), 55);
        rich.asked("none torn", x -> x.worth(2, 1), 0);
        rich.beyond("no such PERSON", 1, x -> x.worth(-1, 0), x -> x.worth(3, 0), x -> x.worth(MIN, 0), x -> x.worth(MAX, 0));
        rich.beyond("worth, what", 1, x -> x.worth(0, -1), x -> x.worth(0, 2), x -> x.worth(0, MIN), x -> x.worth(0, MAX));
    }

    private static void richest() {
        rich.asked("bo", x -> x.richest(), 1);
        empty.beyond("no PEOPLE", 6, x -> x.richest());
        Twins.in(c, "kind k worth 5; good g value 1;").beyond("no PEOPLE, though KINDS", 6, x -> x.richest());
        Twins.in(c, "person p;").asked("one, without KINDS", x -> x.richest(), 0);
        Twins.in(c, "person p; person q;").asked("all alike: the first", x -> x.richest(), 0);
        Twins.in(c, "kind k worth 5; kind l worth 10; person p; person q; person r; has q l 2; has r k 4;").asked("two alike: the first", x -> x.richest(), 1);
        Twins.in(c, "kind k worth 5; kind l worth 1; person p; person q; person r; has p k 4; has q k 4; has r k 4; has r l 1;")
            .asked("the last by 1", x -> x.richest(), 2);
        Twins.in(c, "kind k worth 5; person p silver 99; person q; has p k 4; has q k 3;", x -> x.tear(0, 0, 2))
            .asked("torn ones and SILVER don't count", x -> x.richest(), 1);
    }

    private static void fullRows() {
        BarkMoney x = Check.in(FULL + "has k a 1; has l b 2; has m d 3; has n e 4; has o e 5;");
        for (int i = 0; i < 5; i++) {
            c.due("silver", x, x.silver(i), i + 1, 0);
            c.due("value", x, x.good(i, 0), i + 5, 0);
            c.due("worth", x, x.worth(i, 0), i < 4 ? (i + 1) * (i + 1) : 20, 0);
            for (int kind = 0; kind < 4; kind++) {
                c.due("sheets", x, x.sheets(i, kind, 0), kind == Math.min(i, 3) ? i + 1 : 0, 0);
            }
        }
        for (int kind = 0; kind < 4; kind++) {
            c.due("kind", x, x.kind(kind), kind + 1, 0);
        }
        c.due("a fifth KIND", x, x.kind(4), -1, 1);
        c.due("a sixth GOOD", x, x.good(5, 0), -1, 1);
        c.due("a sixth PERSON", x, x.silver(5), -1, 1);
        c.due("a sixth PERSON", x, x.worth(5, 0), -1, 1);
        c.due("a fifth KIND", x, x.sheets(0, 4, 0), -1, 1);
        c.due("a sixth PERSON", x, x.sheets(5, 0, 0), -1, 1);
        c.due("a sixth GOOD", x, x.goods(0, 5), -1, 1);
        c.due("a sixth PERSON", x, x.goods(5, 0), -1, 1);
    }

    private static void emptyLand() {
        int[] due = {0, 0, 0, 500, 3, 0, 0, 1, 0, 0, 0, 0};
        for (int i = 0; i < 12; i++) {
            int what = i;
            empty.asked("told(" + what + ") of a new object", x -> x.told(what), due[what]);
        }
        empty.beyond("none at all", 1, x -> x.kind(0), x -> x.good(0, 0), x -> x.sheets(0, 0, 0), x -> x.goods(0, 0), x -> x.silver(0), x -> x.worth(0, 0));
        BarkMoney x = new BarkMoney();
        c.due("top", x.top(), 0);
        c.due("bottom", x.bottom(), 1);
        c.due("no MARKS", x, x.undo(), -1, 6);
        c.due("no life", x, x.lived(0), -1, 6);
    }
}
