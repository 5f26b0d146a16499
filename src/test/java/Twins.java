import java.util.ArrayList;
import java.util.List;
import java.util.function.Consumer;

/**
 * Calls at a boundary of the document. A call that must be refused is made on one
 * of two objects that are alike; all that is asked of both behind it must be
 * answered alike, so the refused call has changed nothing but STATUS.
 */
final class Twins {
    interface Call {
        long on(BarkMoney x);
    }

    interface Asking {
        boolean on(BarkMoney x);
    }

    /** A LAND, REIGNS, two MARKS, three TRAYS, a life, a FRACTION and a tape: something of each that a call could spoil. */
    static final Consumer<BarkMoney> RICH = Twins::makeRich;
    /** The document lets an object be used so often. */
    private static final int MOST_CALLS = 512;

    private final Check c;
    private final Consumer<BarkMoney> state;

    Twins(Check c, Consumer<BarkMoney> state) {
        this.c = c;
        this.state = state;
    }

    /** Twins in a LAND alone, with what is done in it. */
    static Twins in(Check c, String land, Call... deeds) {
        return new Twins(c, x -> {
            take(x, land, true);
            for (Call deed : deeds) {
                deed.on(x);
                if (x.status() != 0) {
                    throw new IllegalStateException("STATUS " + x.status() + " while the state is made");
                }
            }
        });
    }

    BarkMoney fresh() {
        BarkMoney x = new BarkMoney();
        state.accept(x);
        return x;
    }

    /** Just inside: the answer is as due, with STATUS 0. */
    BarkMoney inside(String what, Call call, long want) {
        BarkMoney x = afterRefusal();
        c.due(what, x, call.on(x), want, 0);
        return x;
    }

    BarkMoney granted(String what, Asking asking) {
        BarkMoney x = afterRefusal();
        c.due(what, x, asking.on(x), true, 0);
        return x;
    }

    /** Just inside, by a call that asks only: nothing is changed by it. */
    void asked(String what, Call call, long want) {
        BarkMoney x = inside(what, call, want);
        same(what, fresh(), x);
    }

    /** Beyond: each of these calls gives NONE with this STATUS and changes nothing else. */
    void beyond(String what, int status, Call... calls) {
        for (int i = 0; i < calls.length; i++) {
            BarkMoney x = fresh();
            String name = what + " #" + i;
            c.due(name, x, calls[i].on(x), -1, status);
            same(name, fresh(), x);
        }
    }

    void denied(String what, int status, Asking... askings) {
        for (int i = 0; i < askings.length; i++) {
            BarkMoney x = fresh();
            String name = what + " #" + i;
            c.due(name, x, askings[i].on(x), false, status);
            same(name, fresh(), x);
        }
    }

    /** A text with a FAULT: nothing changes but the tape, which is empty, and what fault() tells. */
    void faulty(String text, boolean ofLand, int kind, int place) {
        BarkMoney x = fresh();
        emptyTape(x);
        int n = Check.feed(x, text);
        c.due("'" + text + "'", x, ofLand ? x.land(n) : x.reigns(n), -1, 9);
        c.due("the FAULT of '" + text + "'", x.fault(0), kind);
        c.due("its place in '" + text + "'", x.fault(1), place);
        c.due("the tape behind '" + text + "'", x, x.land(1), -1, 1);
        BarkMoney other = fresh();
        emptyTape(other);
        sameButFault("'" + text + "'", other, x);
    }

    void same(String what, BarkMoney x, BarkMoney y) {
        Trace a = new Trace(x);
        Trace b = new Trace(y);
        a.fractionAndFault();
        b.fractionAndFault();
        a.rest();
        b.rest();
        compare(what, a, b);
    }

    private void sameButFault(String what, BarkMoney x, BarkMoney y) {
        Trace a = new Trace(x);
        Trace b = new Trace(y);
        a.rest();
        b.rest();
        compare(what, a, b);
    }

    private void compare(String what, Trace a, Trace b) {
        c.due("calls behind " + what + " stay within the document's", a.answers.size() < MOST_CALLS - 40, true);
        c.due("as much is answered behind " + what, b.answers.size(), a.answers.size());
        for (int i = 0; i < Math.min(a.answers.size(), b.answers.size()); i++) {
            if (!a.answers.get(i).equals(b.answers.get(i))) {
                c.due(what + " changed " + a.answers.get(i) + " to " + b.answers.get(i), false, true);
                return;
            }
        }
    }

    /** STATUS is 1 ahead of the call, so that a call that leaves it is seen. */
    private BarkMoney afterRefusal() {
        BarkMoney x = fresh();
        x.told(99);
        return x;
    }

    private static void emptyTape(BarkMoney x) {
        x.feed(-1, -1, -1, -1, -1);
        x.reigns(1);
    }

    static void take(BarkMoney x, String text, boolean ofLand) {
        int n = Check.feed(x, text);
        int got = ofLand ? x.land(n) : x.reigns(n);
        if (got < 0) {
            throw new IllegalStateException("fault " + x.fault(0) + " at " + x.fault(1) + " of " + text);
        }
    }

    private static void makeRich(BarkMoney x) {
        take(x, "calm 100; fee 10; war 30; kind leaf worth 5; kind bark worth 20; kind wood worth 50;"
            + "good rice value 7 stock 30; good silk value 10; person ann silver 4; person bo; person cy;"
            + "has ann leaf 9; has ann bark 2; has bo leaf 14; has cy wood 1;", true);
        take(x, "pay bo leaf 2; month 1; any;", false);
        x.mark();
        x.live(5);
        x.tear(1, 0, 3);
        x.mark();
        x.tray(0, 1, 5);
        for (int i = 0; i < 5; i++) {
            x.write(0, i, i + 1);
        }
        x.tray(1, 1, 3);
        x.write(1, 1, -7);
        x.tray(2, 2, 4);
        x.write(2, 3, 70000);
        x.forged(5, 2, 2);
        Check.feed(x, "person tape; fee 7; ");
    }

    /** What an object answers to all that can be asked, down to the last MARK and the tape. */
    private static final class Trace {
        final BarkMoney x;
        final List<String> answers = new ArrayList<>();

        Trace(BarkMoney x) {
            this.x = x;
        }

        void note(String what, long got) {
            answers.add(what + " = " + got + " (" + x.status() + ")");
        }

        void fractionAndFault() {
            answers.add("top() = " + x.top());
            answers.add("bottom() = " + x.bottom());
            answers.add("fault(0) = " + x.fault(0));
            answers.add("fault(1) = " + x.fault(1));
        }

        void rest() {
            land();
            lives();
            trays();
            note("live", x.live(77));
            lives();
            land();
            // three MARKS at most, and once more to see that there are none
            for (int i = 0; i < 4; i++) {
                note("undo", x.undo());
                if (x.status() != 0) {
                    break;
                }
                land();
                note("live behind undo", x.live(3));
                note("lived(0)", x.lived(0));
                note("out behind live", x.told(8));
            }
            int n = x.feed(0x20202020, 0x20202020, 0x20202020, 0x20202020, 0x20202020);
            answers.add("the tape " + n);
            note("land", x.land(n));
            fractionAndFault();
            land();
        }

        void lives() {
            for (int what = 0; what < 5; what++) {
                note("lived(" + what + ")", x.lived(what));
            }
        }

        void trays() {
            for (int tray = 0; tray < 4; tray++) {
                for (int place = 0; place <= 60; place++) {
                    note("read(" + tray + ", " + place + ")", x.read(tray, place));
                    if (x.status() != 0) {
                        break;
                    }
                }
            }
        }

        void land() {
            for (int what = 0; what < 12; what++) {
                note("told(" + what + ")", x.told(what));
            }
            int kinds = x.told(0);
            int goods = x.told(1);
            int people = x.told(2);
            for (int kind = 0; kind < kinds; kind++) {
                note("kind(" + kind + ")", x.kind(kind));
            }
            for (int good = 0; good < goods; good++) {
                note("stock of " + good, x.good(good, 1));
                note("price of " + good, x.good(good, 2));
            }
            for (int person = 0; person < people; person++) {
                note("silver(" + person + ")", x.silver(person));
                for (int kind = 0; kind < kinds; kind++) {
                    note("whole(" + person + ", " + kind + ")", x.sheets(person, kind, 0));
                    note("torn(" + person + ", " + kind + ")", x.sheets(person, kind, 1));
                }
                for (int good = 0; good < goods; good++) {
                    note("goods(" + person + ", " + good + ")", x.goods(person, good));
                }
            }
        }
    }
}
