/** Promises 1 to 9: a new object, STATUS, the FRACTION, TRAYS, the tape. */
public final class BasicsTest {
    private static final Check c = new Check();

    public static void main(String[] args) {
        newObject();
        fraction();
        makingTrays();
        writingAndReading();
        pouring();
        feeding();
        c.end();
    }

    private static void newObject() {
        BarkMoney x = new BarkMoney();
        c.due("NONE", BarkMoney.NONE, -1);
        c.due("status of a new one", x.status(), 0);
        c.due("top", x.top(), 0);
        c.due("bottom", x.bottom(), 1);
        c.due("fault(0)", x.fault(0), -1);
        c.due("fault(1)", x.fault(1), -1);
        int[] told = {0, 0, 0, 500, 3, 0, 0, 1, 0, 0, 0, 0};
        for (int what = 0; what < told.length; what++) {
            c.due("told(" + what + ")", x, x.told(what), told[what], 0);
        }
        for (int tray = 0; tray < 4; tray++) {
            c.due("read of a missing tray", x, x.read(tray, 0), -1, 2);
        }
        c.due("live", x, x.live(0), -1, 6);
        c.due("undo", x, x.undo(), -1, 6);
        c.due("land(0): an empty tape", x, x.land(0), 0, 0);
        c.due("land(1)", x, x.land(1), -1, 1);
    }

    private static void fraction() {
        BarkMoney x = new BarkMoney();
        c.due("forged", x, x.forged(4, 2, 2), true, 0);
        c.due("top", x.top(), 5);
        c.due("bottom", x.bottom(), 6);
        c.due("refused", x, x.forged(0, 0, 0), false, 1);
        c.due("top stays", x.top(), 5);
        c.due("bottom stays", x.bottom(), 6);
        c.due("status has none of its own", x.status(), 1);
    }

    private static void makingTrays() {
        BarkMoney x = new BarkMoney();
        c.due("tray -1", x, x.tray(-1, 0, 1), false, 1);
        c.due("tray 4", x, x.tray(4, 0, 1), false, 1);
        c.due("sort -1", x, x.tray(0, -1, 1), false, 1);
        c.due("sort 4", x, x.tray(0, 4, 1), false, 1);
        c.due("many -1", x, x.tray(0, 0, -1), false, 1);
        c.due("many 61", x, x.tray(0, 0, 61), false, 1);
        c.due("it is missing still", x, x.read(0, 0), -1, 2);
        c.due("many 0", x, x.tray(0, 0, 0), true, 0);
        c.due("there, without places", x, x.read(0, 0), -1, 3);
        c.due("many 60", x, x.tray(3, 3, 60), true, 0);
        c.due("last place", x, x.read(3, 59), 0, 0);
        c.due("behind it", x, x.read(3, 60), -1, 3);
        x.write(3, 59, 7);
        x.write(3, 0, 7);
        x.tray(3, 3, 60);
        c.due("0s again", x, x.read(3, 0), 0, 0);
        c.due("0s again", x, x.read(3, 59), 0, 0);
    }

    private static void writingAndReading() {
        BarkMoney x = new BarkMoney();
        long[] last = {(byte) 0x123456789abcdef0L, (short) 0x123456789abcdef0L, (int) 0x123456789abcdef0L, 0x123456789abcdef0L};
        for (int sort = 0; sort < 4; sort++) {
            x.tray(sort, sort, 3);
            c.due("write", x, x.write(sort, 2, 0x123456789abcdef0L), true, 0);
            c.due("cut to sort " + sort, x, x.read(sort, 2), last[sort], 0);
            x.write(sort, 1, -1);
            c.due("-1 is no NONE", x, x.read(sort, 1), -1, 0);
        }
        x.write(0, 0, 128);
        c.due("128 in 8 bits", x.read(0, 0), -128);
        x.write(1, 0, 65535);
        c.due("65,535 in 16 bits", x.read(1, 0), -1);
        c.due("no such tray", x, x.write(4, 0, 1), false, 1);
        c.due("no such tray", x, x.write(-1, 0, 1), false, 1);
        c.due("no such place", x, x.write(0, 3, 1), false, 3);
        c.due("no such place", x, x.write(0, -1, 1), false, 3);
        c.due("read, no such tray", x, x.read(4, 0), -1, 1);
        c.due("read, no such place", x, x.read(0, -1), -1, 3);
        BarkMoney y = new BarkMoney();
        c.due("write to a missing one", y, y.write(0, -1, 1), false, 2);
    }

    private static void pouring() {
        BarkMoney x = new BarkMoney();
        x.tray(0, 1, 6);
        x.tray(1, 1, 3);
        x.tray(2, 2, 6);
        for (int i = 0; i < 6; i++) {
            x.write(0, i, i + 1);
        }
        c.due("within itself", x, x.pour(0, 0, 0, 2, 4), true, 0);
        long[] due = {1, 2, 1, 2, 3, 4};
        for (int i = 0; i < 6; i++) {
            c.due("as they were", x.read(0, i), due[i]);
        }
        c.due("to another", x, x.pour(0, 3, 1, 0, 3), true, 0);
        c.due("first", x.read(1, 0), 2);
        c.due("last", x.read(1, 2), 4);
        c.due("below 0 ahead of missing", x, x.pour(0, -1, 3, 0, 1), false, 1);
        c.due("below 0", x, x.pour(0, 0, 1, -1, 1), false, 1);
        c.due("below 0", x, x.pour(0, 0, 1, 0, -1), false, 1);
        c.due("no such tray", x, x.pour(4, 0, 1, 0, 1), false, 1);
        c.due("no such tray", x, x.pour(0, 0, -1, 0, 1), false, 1);
        c.due("missing", x, x.pour(0, 0, 3, 9, 1), false, 2);
        c.due("missing", x, x.pour(3, 0, 0, 9, 1), false, 2);
        c.due("unlike sorts ahead of places", x, x.pour(0, 9, 2, 9, 9), false, 8);
        c.due("too few from", x, x.pour(0, 5, 1, 0, 2), false, 3);
        c.due("too few to", x, x.pour(0, 0, 1, 1, 3), false, 3);
        c.due("far places", x, x.pour(0, Integer.MAX_VALUE, 1, 0, Integer.MAX_VALUE), false, 3);
        c.due("none, at the end", x, x.pour(0, 6, 1, 3, 0), true, 0);
        c.due("none, behind the end", x, x.pour(0, 7, 1, 3, 0), false, 3);
        c.due("nothing changed", x.read(1, 0), 2);
    }

    private static void feeding() {
        BarkMoney x = new BarkMoney();
        x.kind(9);
        for (int i = 1; i <= 45; i++) {
            c.due("feed", x.feed(0x20202020, 0x20202020, 0x20202020, 0x20202020, 0x20202020), 20 * i);
        }
        c.due("46th feed", x.feed(0, 0, 0, 0, 0), -1);
        c.due("feed has no status", x.status(), 1);
        c.due("land below 0", x, x.land(-1), -1, 1);
        c.due("land beyond the tape", x, x.land(901), -1, 1);
        c.due("reigns above 300", x, x.reigns(301), -1, 1);
        c.due("900 blanks are a land", x, x.land(900), 0, 0);
        c.due("the tape is empty", x.feed(0x66656520, 0x373b0a00, 0, 0, 0x80808080), 20);
        c.due("highest byte first", x, x.land(7), 0, 0);
        c.due("fee", x.told(4), 7);
        x.feed(0x20202020, 0x20202020, 0x20202020, 0x20202020, 0x20202080);
        c.due("a byte above 127", x, x.land(20), -1, 9);
        c.due("its fault", x.fault(0), 1);
        c.due("its place", x.fault(1), 19);
    }
}
