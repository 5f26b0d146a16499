/** Promises 11 and 12: REIGNS as a text and its FAULTS. */
public final class ReignsTextTest {
    private static final Check c = new Check();
    private static final String LAND = "kind k worth 5; good g value 3; person p; person q;";

    public static void main(String[] args) {
        ordinary();
        tokensAndSigns();
        names();
        allNames();
        numbers();
        counts();
        nesting();
        limits();
        c.end();
    }

    private static void fine(String text, int steps) {
        BarkMoney x = Check.in(LAND);
        c.due("reigns of '" + text + "'", x, Check.reigns(x, text), steps, 0);
        c.due("no fault in '" + text + "'", x.fault(0), 0);
        c.due("no place in '" + text + "'", x.fault(1), -1);
    }

    private static void faulty(String text, int kind, int place) {
        BarkMoney x = Check.in(LAND);
        Check.reigns(x, "month 3;");
        c.due("reigns of '" + text + "'", x, Check.reigns(x, text), -1, 9);
        c.due("fault of '" + text + "'", x.fault(0), kind);
        c.due("place of '" + text + "'", x.fault(1), place);
        c.due("the tape is empty", x.feed(0, 0, 0, 0, 0), 20);
        x.live(0);
        c.due("the old ones stay", x.told(6), 3);
    }

    private static void ordinary() {
        fine("", 0);
        fine("pay p k 1;", 1);
        fine("pay p k 1; buy p g 1; sell p g 1; tear p k 1; mend p k 1; month 1; any; stop;", 8);
        fine("when level > 3; any; end; loop 3; any; any; end;", 5);
        fine("when level<3;end;when holds p=3;end;when left g>3;end;", 3);
        fine("loop 9;loop 9;when level = 1;any;end;end;end;loop 1;end;", 5);
    }

    private static void tokensAndSigns() {
        faulty("pay p k 1; any; ?", 1, 16);
        faulty("pay p k 00001;", 1, 8);
        faulty("calm 100;", 2, 0);
        faulty("has p k 1;", 2, 0);
        faulty("level > 1;", 2, 0);
        faulty("p;", 2, 0);
        faulty(";", 2, 0);
        faulty("7", 2, 0);
        faulty("any", 2, 3);
        faulty("any 1;", 2, 4);
        faulty("stop 1;", 2, 5);
        faulty("month;", 2, 5);
        faulty("month 3 3;", 2, 8);
        faulty("pay;", 2, 3);
        faulty("pay p;", 2, 5);
        faulty("pay p k;", 2, 7);
        faulty("pay p k 1", 2, 9);
        faulty("pay p 1;", 2, 6);
        faulty("when;", 2, 4);
        faulty("when p > 1;", 2, 5);
        faulty("when month > 1;", 2, 5);
        faulty("when level 1;", 2, 11);
        faulty("when level ; 1;", 2, 11);
        faulty("when level >> 1;", 2, 12);
        faulty("when level > p;", 2, 13);
        faulty("when level > 1 any; end;", 2, 15);
        faulty("when holds > 1;", 2, 11);
        faulty("when left > 1;", 2, 10);
        faulty("when left g 1;", 2, 12);
        faulty("loop any; end;", 2, 5);
        faulty("loop 3 any; end;", 2, 7);
        faulty("end;", 2, 0);
        faulty("any; end;", 2, 5);
        faulty("loop 3; end; end;", 2, 13);
        faulty("loop 3; end", 2, 11);
        faulty("loop 3; end any;", 2, 12);
        faulty("loop 3; any;", 2, 12);
        faulty("loop 3; any; ", 2, 13);
        faulty("when level = 1; loop 3; end;", 2, 28);
    }

    private static void names() {
        faulty("pay x k 1;", 3, 4);
        faulty("pay k k 1;", 3, 4);
        faulty("pay p p 1;", 3, 6);
        faulty("pay p g 1;", 3, 6);
        faulty("tear p g 1;", 3, 7);
        faulty("mend p g 1;", 3, 7);
        faulty("mend g k 1;", 3, 5);
        faulty("buy p k 1;", 3, 6);
        faulty("buy g g 1;", 3, 4);
        faulty("sell p k 1;", 3, 7);
        faulty("when holds g > 1;", 3, 11);
        faulty("when left p > 1;", 3, 10);
        faulty("pay abcdefghi k 1;", 2, 4);
        faulty("pay abcdefgh k 1;", 3, 4);
        faulty("pay any k 1;", 2, 4);
    }

    /** Every name of a LAND with as many as can be means its own thing. */
    private static void allNames() {
        BarkMoney x = Check.in(FULL);
        c.due("pay", x, Check.reigns(x, "pay pd ka 1; pay pc kb 2; pay pb kc 3; pay pa kd 4; pay pe ka 5;"), 5, 0);
        x.live(0);
        c.due("sheets", x.sheets(3, 0, 0) * 10000 + x.sheets(2, 1, 0) * 1000 + x.sheets(1, 2, 0) * 100 + x.sheets(0, 3, 0) * 10
            + x.sheets(4, 0, 0), 12345);
        c.due("buy", x, Check.reigns(x, "buy pe ga 1; buy pe gb 1; buy pe gc 1; buy pe gd 1; buy pe ge 1;"), 5, 0);
        x.live(0);
        c.due("all can be bought but the dearest three", x, x.lived(0), 3, 0);
        c.due("goods", x.goods(4, 0) + x.goods(4, 1) * 10 + x.goods(4, 2) * 100, 11);
    }

    private static final String FULL = "calm 9999; kind ka worth 1; kind kb worth 2; kind kc worth 3; kind kd worth 4;"
        + "good ga value 1; good gb value 2; good gc value 3; good gd value 4; good ge value 5;"
        + "person pa; person pb; person pc; person pd; person pe;";

    private static void numbers() {
        String[] deeds = {"pay p k ", "buy p g ", "sell p g ", "tear p k ", "mend p k "};
        for (String deed : deeds) {
            fine(deed + "1;", 1);
            fine(deed + "99;", 1);
            faulty(deed + "0;", 4, deed.length());
            faulty(deed + "100;", 4, deed.length());
        }
        fine("month 20;", 1);
        faulty("month 0;", 4, 6);
        faulty("month 21;", 4, 6);
        fine("loop 1; end; loop 99; end;", 2);
        faulty("loop 0; end;", 4, 5);
        faulty("loop 100; end;", 4, 5);
        fine("when level = 0; end; when level = 999; end;", 2);
        faulty("when level = 1000; end;", 4, 13);
        fine("when holds p = 0; end; when holds p = 9999; end;", 2);
        fine("when left g = 0; end; when left g = 9999; end;", 2);
    }

    private static void counts() {
        StringBuilder text = new StringBuilder();
        for (int i = 0; i < 28; i++) {
            text.append("any;");
        }
        fine(text + "loop 2;any;end;", 30);
        faulty(text + "loop 2;any;end; stop", 6, text.length() + 16);
        faulty(text + "any;any;any", 6, text.length() + 8);
        faulty(text + "any;any;end", 2, text.length() + 8);
        faulty(text + "any;any;calm", 2, text.length() + 8);
        fine("loop 1;end;".repeat(27), 27);
    }

    private static void nesting() {
        fine("loop 2;loop 2;when level=1;end;end;end;", 3);
        faulty("loop 2;loop 2;when level=1;loop 3;", 7, 27);
        faulty("loop 2;loop 2;when level=1;when", 7, 27);
        fine("loop 2;loop 2;loop 2;end;loop 2;any;end;end;end;", 5);
        StringBuilder text = new StringBuilder("loop 2;loop 2;loop 2;");
        for (int i = 0; i < 27; i++) {
            text.append("any;");
        }
        faulty(text + "loop 2;", 6, text.length());
    }

    private static void limits() {
        BarkMoney x = Check.in(LAND);
        StringBuilder text = new StringBuilder("any;");
        while (text.length() < 300) {
            text.append(' ');
        }
        Check.feed(x, text + "          ");
        c.due("above 300", x, x.reigns(301), -1, 1);
        c.due("the tape stays", x, x.reigns(300), 1, 0);
        c.due("below 0", x, x.reigns(-1), -1, 1);
        c.due("beyond the tape", x, x.reigns(1), -1, 1);
    }
}
