public final class Example {
    public static void main(String[] args) {
        BarkMoney x = new BarkMoney();

        // texts come by the tape: feed it, then say how many of its bytes are the text
        int n = feed(x, "calm 100; kind leaf worth 5; kind bark worth 20;"
            + "good rice value 10; good silk value 15 stock 3;"
            + "person ann silver 4; person bo; has ann leaf 9; has ann bark 2; has bo bark 1;");
        System.out.println(x.land(n) + " people, LEVEL " + x.told(7) + ", OUT " + x.told(8));

        // all are numbered as they stand in the text: ann is 0, bo is 1
        System.out.println("rice costs " + x.good(0, 2) + ", ann buys one with " + x.buy(0, 0, 1) + " sheet");

        // what can't be answered is NONE (or false), and status() says why
        System.out.println("a fourth silk: " + x.buy(0, 1, 4) + ", STATUS " + x.status());
        System.out.println("a PERSON 7: " + x.silver(7) + ", STATUS " + x.status());

        // a text with a FAULT changes nothing; fault() tells which it is, and where
        n = feed(x, "pay bo gold 1;");
        System.out.println(x.reigns(n) + ", FAULT " + x.fault(0) + " at " + x.fault(1));

        // REIGNS are lived by a seed; a MARK is what all can be taken back to
        n = feed(x, "loop 3; pay bo leaf 2; month 1; end; when holds bo > 40; buy bo rice 1; end;");
        System.out.println(x.reigns(n) + " STEPS, MARK " + x.mark());
        System.out.println(x.live(0) + " done, bought " + x.lived(2) + ", OUT " + x.told(8));
        System.out.println("MARKS left " + x.undo() + ", OUT " + x.told(8));

        // FRACTIONS are told by top() and bottom()
        System.out.println(x.forged(6, 2, 1) + ": " + x.top() + " by " + x.bottom());

        // TRAYS are rows of numbers
        x.tray(0, 2, 5);
        System.out.println(x.copySheets(0, 0) + " KINDS, ann has " + x.read(0, 0) + " leaf, WORTH " + x.count(0));
    }

    /** Twenty bytes a call, the highest byte of each int first; answers the text's length. */
    static int feed(BarkMoney x, String text) {
        int[] v = new int[5];
        for (int i = 0; i < text.length(); i += 20) {
            for (int k = 0; k < 20; k++) {
                int at = i + k;
                v[k / 4] = v[k / 4] << 8 | (at < text.length() ? text.charAt(at) & 255 : ' ');
            }
            x.feed(v[0], v[1], v[2], v[3], v[4]);
        }
        return text.length();
    }
}
