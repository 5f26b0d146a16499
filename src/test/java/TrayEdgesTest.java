/** Promises 1 to 9 at their boundaries: TRAYS, the tape, and that a refused call changes nothing. */
public final class TrayEdgesTest {
    private static final Check c = new Check();
    private static final Twins rich = new Twins(c, Twins.RICH);
    private static final int MIN = Integer.MIN_VALUE;
    private static final int MAX = Integer.MAX_VALUE;
    private static final int BLANKS = 0x20202020;

    public static void main(String[] args) {
        traysAreMissingAtFirst();
        trayNumbers();
        aTrayIsARowOfZeros();
        otherTraysStay();
        numbersAreCutToTheirSort();
        placesOfWrite();
        placesOfRead();
        noneAndMinusOne();
        pourAsksInItsOrder();
        pourBelowZero();
        pourToTheLastPlace();
        pourNothing();
        pourAsTheyWere();
        tapeOfNineHundred();
        feedHasNoStatus();
        highestByteFirst();
        statusOfTheLatestCall();
        c.end();
    }

    private static void traysAreMissingAtFirst() {
        Twins fresh = new Twins(c, x -> { });
        for (int tray = 0; tray < 4; tray++) {
            int t = tray;
            fresh.beyond("MISSING at first", 2, x -> x.read(t, 0), x -> x.read(t, 59), x -> x.count(t));
            fresh.denied("MISSING at first", 2, x -> x.write(t, 0, 1), x -> x.pour(t, 0, t, 0, 0));
            rich.beyond("MISSING is TRAY 3 alone", t == 3 ? 2 : 3, x -> x.read(t, 60));
        }
    }

    private static void trayNumbers() {
        rich.granted("TRAY 0, sort 0, 0 numbers", x -> x.tray(0, 0, 0));
        rich.granted("TRAY 3, sort 3, 60 numbers", x -> x.tray(3, 3, 60));
        rich.denied("no such TRAY", 1, x -> x.tray(-1, 0, 1), x -> x.tray(4, 0, 1), x -> x.tray(MIN, 0, 1), x -> x.tray(MAX, 0, 1));
        rich.denied("no such sort", 1, x -> x.tray(0, -1, 1), x -> x.tray(0, 4, 1), x -> x.tray(0, MIN, 1), x -> x.tray(0, MAX, 1));
        rich.denied("no such length", 1, x -> x.tray(0, 0, -1), x -> x.tray(0, 0, 61), x -> x.tray(3, 0, MIN), x -> x.tray(3, 0, MAX));
        for (int many = 0; many <= 60; many++) {
            BarkMoney x = new BarkMoney();
            c.due("a row of " + many, x, x.tray(1, 2, many), true, 0);
            if (many > 0) {
                c.due("its last place", x, x.read(1, many - 1), 0, 0);
            }
            c.due("the place behind it", x, x.read(1, many), -1, 3);
        }
    }

    private static void aTrayIsARowOfZeros() {
        BarkMoney x = new BarkMoney();
        x.tray(0, 3, 60);
        for (int place = 0; place < 60; place++) {
            x.write(0, place, -1 - place);
        }
        c.due("made again with fewer", x, x.tray(0, 3, 2), true, 0);
        c.due("its first", x, x.read(0, 0), 0, 0);
        c.due("no third", x, x.read(0, 2), -1, 3);
        c.due("made again with more, of another sort", x, x.tray(0, 0, 60), true, 0);
        for (int place = 0; place < 60; place++) {
            c.due("0 in place " + place, x, x.read(0, place), 0, 0);
        }
        x.write(0, 0, 300);
        c.due("the new sort holds", x, x.read(0, 0), 44, 0);
    }

    private static void otherTraysStay() {
        BarkMoney x = new BarkMoney();
        for (int tray = 0; tray < 4; tray++) {
            x.tray(tray, tray, 60);
            x.write(tray, 0, 10 + tray);
            x.write(tray, 59, 20 + tray);
        }
        x.tray(2, 0, 1);
        c.due("made anew", x, x.read(2, 0), 0, 0);
        for (int tray = 0; tray < 4; tray++) {
            if (tray != 2) {
                c.due("first of " + tray, x, x.read(tray, 0), 10 + tray, 0);
                c.due("last of " + tray, x, x.read(tray, 59), 20 + tray, 0);
            }
        }
    }

    private static void cut(int sort, long v, long want) {
        BarkMoney x = new BarkMoney();
        x.tray(sort, sort, 3);
        c.due("write of " + v, x, x.write(sort, 1, v), true, 0);
        c.due(v + " by sort " + sort, x, x.read(sort, 1), want, 0);
        c.due("the place ahead", x, x.read(sort, 0), 0, 0);
        c.due("the place behind", x, x.read(sort, 2), 0, 0);
    }

    private static void numbersAreCutToTheirSort() {
        int[] bits = {8, 16, 32};
        for (int sort = 0; sort < 3; sort++) {
            long most = (1L << bits[sort] - 1) - 1;
            cut(sort, most, most);
            cut(sort, most + 1, -most - 1);
            cut(sort, -most - 1, -most - 1);
            cut(sort, -most - 2, most);
            cut(sort, 2 * most + 1, -1);
            cut(sort, 2 * most + 2, 0);
            cut(sort, Long.MAX_VALUE, -1);
            cut(sort, Long.MIN_VALUE, 0);
        }
        cut(3, Long.MAX_VALUE, Long.MAX_VALUE);
        cut(3, Long.MIN_VALUE, Long.MIN_VALUE);
        cut(3, 1L << 32, 1L << 32);
    }

    private static void placesOfWrite() {
        rich.granted("the first place", x -> x.write(0, 0, 9));
        rich.granted("the last place", x -> x.write(0, 4, 9));
        rich.denied("a place that the TRAY has not", 3, x -> x.write(0, 5, 9), x -> x.write(0, -1, 9), x -> x.write(0, MIN, 9), x -> x.write(0, MAX, 9));
        rich.denied("it is MISSING, whatever the place", 2, x -> x.write(3, 0, 9), x -> x.write(3, -1, 9), x -> x.write(3, 60, 9));
        rich.denied("no such TRAY, whatever the place", 1, x -> x.write(-1, 0, 9), x -> x.write(4, 0, 9), x -> x.write(4, -1, 9), x -> x.write(MIN, 0, 9),
            x -> x.write(MAX, MAX, 9));
        BarkMoney x = new BarkMoney();
        x.tray(0, 0, 0);
        c.due("a TRAY of none has no place", x, x.write(0, 0, 1), false, 3);
    }

    private static void placesOfRead() {
        rich.asked("the first place", x -> x.read(0, 0), 1);
        rich.asked("the last place", x -> x.read(0, 4), 5);
        rich.beyond("a place that the TRAY has not", 3, x -> x.read(0, 5), x -> x.read(0, -1), x -> x.read(0, MIN), x -> x.read(0, MAX));
        rich.beyond("it is MISSING", 2, x -> x.read(3, 0), x -> x.read(3, -1), x -> x.read(3, 60));
        rich.beyond("no such TRAY", 1, x -> x.read(-1, 0), x -> x.read(4, 0), x -> x.read(4, -1), x -> x.read(MIN, 0), x -> x.read(MAX, MAX));
        BarkMoney x = new BarkMoney();
        x.tray(0, 0, 0);
        c.due("a TRAY of none has no place", x, x.read(0, 0), -1, 3);
    }

    private static void noneAndMinusOne() {
        for (int sort = 0; sort < 4; sort++) {
            BarkMoney x = new BarkMoney();
            x.tray(0, sort, 1);
            x.write(0, 0, -1);
            c.due("-1 is there", x, x.read(0, 0), -1, 0);
            c.due("-1 is NONE", x, x.read(0, 1), -1, 3);
        }
    }

    private static void pourAsksInItsOrder() {
        // TRAYS 0 and 1 are of one sort (5 and 3 numbers), TRAY 2 of another (4), TRAY 3 is MISSING
        rich.denied("1 ahead of 2", 1, x -> x.pour(3, -1, 0, 0, 1), x -> x.pour(0, 0, 3, -1, 1), x -> x.pour(3, 0, 3, 0, -1));
        rich.denied("1 ahead of 8", 1, x -> x.pour(0, -1, 2, 0, 1), x -> x.pour(0, 0, 2, -1, 1), x -> x.pour(2, 0, 0, 0, -1));
        rich.denied("1 ahead of 3", 1, x -> x.pour(0, -1, 1, 9, 9), x -> x.pour(0, 9, 1, -1, 9), x -> x.pour(0, 9, 1, 9, -1));
        rich.denied("2 ahead of 3", 2, x -> x.pour(3, 9, 0, 9, 9), x -> x.pour(0, 9, 3, 9, 9));
        rich.denied("2 ahead of 8", 2, x -> x.pour(3, 0, 2, 0, 1), x -> x.pour(2, 0, 3, 0, 1));
        rich.denied("8 ahead of 3", 8, x -> x.pour(0, 9, 2, 0, 1), x -> x.pour(2, 0, 0, 9, 1), x -> x.pour(2, 0, 1, 0, 9));
        rich.denied("8 alone", 8, x -> x.pour(0, 0, 2, 0, 1), x -> x.pour(2, 0, 1, 0, 0));
        for (int from = 0; from < 4; from++) {
            for (int to = 0; to < 4; to++) {
                BarkMoney x = new BarkMoney();
                x.tray(0, from, 2);
                x.tray(1, to, 2);
                c.due("sorts " + from + " and " + to, x, x.pour(0, 0, 1, 0, 2), from == to, from == to ? 0 : 8);
            }
        }
    }

    private static void pourBelowZero() {
        rich.denied("below 0", 1, x -> x.pour(0, -1, 1, 0, 1), x -> x.pour(0, 0, 1, -1, 1), x -> x.pour(0, 0, 1, 0, -1));
        rich.denied("far below 0", 1, x -> x.pour(0, MIN, 1, 0, 1), x -> x.pour(0, 0, 1, MIN, 1), x -> x.pour(0, 0, 1, 0, MIN));
        rich.denied("no such TRAY", 1, x -> x.pour(-1, 0, 1, 0, 1), x -> x.pour(4, 0, 1, 0, 1), x -> x.pour(0, 0, -1, 0, 1), x -> x.pour(0, 0, 4, 0, 1),
            x -> x.pour(MIN, 0, 1, 0, 1), x -> x.pour(0, 0, MAX, 0, 1));
    }

    private static void pourToTheLastPlace() {
        BarkMoney y = rich.granted("just all that it has", x -> x.pour(0, 2, 1, 0, 3));
        c.due("its first", y, y.read(1, 0), 3, 0);
        c.due("its last", y, y.read(1, 2), 5, 0);
        rich.denied("one too few in the first", 3, x -> x.pour(0, 3, 1, 0, 3));
        rich.denied("one too few in the second", 3, x -> x.pour(0, 0, 1, 1, 3), x -> x.pour(0, 0, 1, 0, 4));
        rich.denied("a place behind the last", 3, x -> x.pour(0, 5, 1, 0, 1), x -> x.pour(0, 0, 1, 3, 1));
        rich.denied("sums beyond an int", 3, x -> x.pour(0, MAX, 1, 0, 1), x -> x.pour(0, 0, 1, MAX, 1), x -> x.pour(0, 0, 1, 0, MAX),
            x -> x.pour(0, MAX, 1, MAX, MAX), x -> x.pour(0, 1, 1, 1, MAX));
        rich.denied("it has not so many of its own", 3, x -> x.pour(0, 1, 0, 0, 5), x -> x.pour(0, 0, 0, 1, 5));
        BarkMoney x = new BarkMoney();
        x.tray(0, 3, 60);
        x.tray(1, 3, 60);
        for (int i = 0; i < 60; i++) {
            x.write(0, i, i * 1000000007L);
        }
        c.due("all 60", x, x.pour(0, 0, 1, 0, 60), true, 0);
        for (int i = 0; i < 60; i++) {
            c.due("number " + i, x, x.read(1, i), i * 1000000007L, 0);
        }
        c.due("61", x, x.pour(0, 0, 1, 0, 61), false, 3);
    }

    private static void pourNothing() {
        BarkMoney y = rich.granted("none, from the first place", x -> x.pour(0, 0, 1, 0, 0));
        rich.same("none poured", rich.fresh(), y);
        rich.granted("none, within itself", x -> x.pour(2, 1, 2, 1, 0));
        BarkMoney x = new BarkMoney();
        x.tray(0, 0, 0);
        x.tray(1, 0, 0);
        c.due("none of none", x, x.pour(0, 0, 1, 0, 0), true, 0);
        c.due("one of none", x, x.pour(0, 0, 1, 0, 1), false, 3);
    }

    private static void pourAsTheyWere() {
        long[] upward = {1, 1, 2, 3, 4};
        long[] downward = {2, 3, 4, 5, 5};
        BarkMoney up = rich.granted("to its own next places", x -> x.pour(0, 0, 0, 1, 4));
        BarkMoney down = rich.granted("to its own places ahead", x -> x.pour(0, 1, 0, 0, 4));
        BarkMoney stay = rich.granted("to its own same places", x -> x.pour(0, 0, 0, 0, 5));
        for (int i = 0; i < 5; i++) {
            c.due("upward " + i, up, up.read(0, i), upward[i], 0);
            c.due("downward " + i, down, down.read(0, i), downward[i], 0);
            c.due("same " + i, stay, stay.read(0, i), i + 1, 0);
        }
        BarkMoney other = rich.granted("to another", x -> x.pour(1, 1, 0, 4, 1));
        c.due("-7 came", other, other.read(0, 4), -7, 0);
        c.due("-7 stays, too", other, other.read(1, 1), -7, 0);
        c.due("the place ahead stays", other, other.read(0, 3), 4, 0);
    }

    private static void tapeOfNineHundred() {
        BarkMoney x = new BarkMoney();
        for (int i = 1; i <= 44; i++) {
            x.feed(BLANKS, BLANKS, BLANKS, BLANKS, BLANKS);
        }
        c.due("just 900", x.feed(0x66656520, 0x31313b20, BLANKS, BLANKS, BLANKS), 900);
        c.due("more than 900", x.feed(-1, -1, -1, -1, -1), -1);
        c.due("more than 900, again", x.feed(-1, -1, -1, -1, -1), -1);
        c.due("the tape is as it was", x, x.land(900), 0, 0);
        c.due("fee 11 came with the last twenty", x.told(4), 11);
        c.due("it is empty then", x.feed(BLANKS, BLANKS, BLANKS, BLANKS, BLANKS), 20);
    }

    private static void feedHasNoStatus() {
        BarkMoney x = new BarkMoney();
        x.undo();
        for (int i = 1; i <= 46; i++) {
            x.feed(0, 0, 0, 0, 0);
            c.due("STATUS of undo() still", x.status(), 6);
        }
        x.fault(0);
        x.fault(7);
        x.top();
        x.bottom();
        c.due("none of these has one", x.status(), 6);
    }

    private static void highestByteFirst() {
        BarkMoney x = new BarkMoney();
        // "calm 37;" "fee 1;" "war 2;" over all five ints
        x.feed(0x63616c6d, 0x2033373b, 0x66656520, 0x313b7761, 0x7220323b);
        c.due("land", x, x.land(20), 0, 0);
        c.due("calm, fee, war", x.told(3) * 10000 + x.told(4) * 100 + x.told(5), 370102);
    }

    private static void statusOfTheLatestCall() {
        BarkMoney x = new BarkMoney();
        c.due("a new one", x.status(), 0);
        x.told(99);
        c.due("1", x.status(), 1);
        c.due("asked twice", x.status(), 1);
        x.told(0);
        c.due("0 again", x.status(), 0);
    }
}
