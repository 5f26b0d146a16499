import java.util.ArrayList;
import java.util.Arrays;
import java.util.List;

/** Promise 11 and the REIGNS' text: each number, count, depth, NAME and FAULT at its boundary. */
public final class ReignsEdgesTest {
    private static final Check c = new Check();
    private static final Twins rich = new Twins(c, Twins.RICH);
    private static final int MIN = Integer.MIN_VALUE;
    private static final int MAX = Integer.MAX_VALUE;
    private static final String[] WORDS = {"calm", "fee", "war", "kind", "worth", "good", "value", "stock", "person", "silver", "has", "pay", "buy",
        "sell", "tear", "mend", "month", "any", "when", "level", "holds", "left", "loop", "end", "stop"};
    private static final List<String> STEPS = Arrays.asList("pay", "buy", "sell", "tear", "mend", "month", "any", "when", "loop", "stop");

    public static void main(String[] args) {
        bytesOfTheTape();
        noneAtFirst();
        everyByte();
        wordsThatBeginAStep();
        namesBehindWords();
        reservedNames();
        numbers();
        compares();
        testWords();
        endOfTheText();
        endsAndBeginnings();
        countOfSteps();
        depth();
        leastKindOfAToken();
        firstAlongTheText();
        namesOfTheLandThatIs();
        c.end();
    }

    /** In the LAND of RICH: KINDS leaf, bark, wood; GOODS rice, silk; PEOPLE ann, bo, cy. */
    private static void faulty(String text, int kind, int place) {
        rich.faulty(text, false, kind, place);
    }

    private static BarkMoney fine(String text, int steps) {
        BarkMoney x = rich.fresh();
        x.land(99);
        c.due("STATUS 1 ahead", x.status(), 1);
        x.feed(-1, -1, -1, -1, -1);
        x.reigns(1);
        int n = Check.feed(x, text);
        c.due("reigns of '" + text + "'", x, x.reigns(n), steps, 0);
        c.due("no FAULT in '" + text + "'", x.fault(0), 0);
        c.due("no place in '" + text + "'", x.fault(1), -1);
        c.due("the LAND stays", x.told(2), 3);
        return x;
    }

    private static Twins withTape(String text) {
        return new Twins(c, x -> {
            Twins.take(x, "person p; war 1;", true);
            Twins.take(x, "month 1;", false);
            Check.feed(x, text);
        });
    }

    private static void bytesOfTheTape() {
        String steps = "any; ".repeat(29);
        String just = steps + " ".repeat(300 - steps.length() - 4) + "any;";
        Twins full = withTape(just + " ".repeat(20));
        full.inside("300 bytes", x -> x.reigns(300), 30);
        full.inside("0 bytes", x -> x.reigns(0), 0);
        full.inside("296 bytes", x -> x.reigns(296), 29);
        full.beyond("above 300, though the tape has them", 1, x -> x.reigns(301), x -> x.reigns(320), x -> x.reigns(900));
        full.beyond("below 0", 1, x -> x.reigns(-1), x -> x.reigns(MIN));
        full.beyond("more than the tape has", 1, x -> x.reigns(321), x -> x.reigns(MAX));
        Twins short20 = withTape("any; any; any; any; ");
        short20.inside("just the tape", x -> x.reigns(20), 4);
        short20.beyond("one more than the tape has", 1, x -> x.reigns(21), x -> x.reigns(300));
        BarkMoney x = short20.fresh();
        x.reigns(4);
        c.due("the rest of the tape is gone", x, x.reigns(1), -1, 1);
        x = short20.fresh();
        c.due("a FAULT", x, x.reigns(3), -1, 9);
        c.due("2 at the text's length", x.fault(0) * 100 + x.fault(1), 203);
        c.due("the tape is empty, too", x, x.reigns(1), -1, 1);
        x = new BarkMoney();
        c.due("an empty tape", x, x.reigns(1), -1, 1);
        c.due("no FAULT told", x.fault(0), -1);
        c.due("none of an empty tape", x, x.reigns(0), 0, 0);
    }

    private static void noneAtFirst() {
        BarkMoney x = new BarkMoney();
        c.due("none at first", x, x.live(0), -1, 6);
        Check.reigns(x, "any; ?");
        c.due("none behind a FAULT", x, x.live(0), -1, 6);
        Check.reigns(x, "month 1;");
        c.due("now there are", x, x.live(0), 1, 0);
        Check.reigns(x, "month 2; month 3;");
        c.due("in place of those ahead", x, x.live(0), 2, 0);
        c.due("months", x.told(6), 6);
        x.land(0);
        c.due("none in a new LAND", x, x.live(0), -1, 6);
    }

    private static void everyByte() {
        for (int b = 0; b < 256; b++) {
            String text = "any ; " + (char) b;
            boolean sign = b == ';' || b == '<' || b == '>' || b == '=';
            if (b == 10 || b == 32) {
                fine(text, 1);
            } else {
                faulty(text, b >= 'a' && b <= 'z' || b >= '0' && b <= '9' || sign ? 2 : 1, 6);
            }
        }
    }

    private static void wordsThatBeginAStep() {
        for (String word : WORDS) {
            if (!STEPS.contains(word)) {
                faulty(word + " 1;", 2, 0);
                faulty("any; " + word + " ann leaf 1;", 2, 5);
            }
        }
        faulty("ann leaf 1;", 2, 0);
        faulty("qwertyuio;", 2, 0);
        faulty("anyany;", 2, 0);
    }

    private static void namesBehindWords() {
        String[] byKind = {"pay", "tear", "mend"};
        String[] byGood = {"buy", "sell"};
        for (String word : byKind) {
            fine(word + " cy wood 1;", 1);
            for (String no : new String[] {"rice", "ann", "x", "abcdefgh", "leav", "leafs"}) {
                faulty(word + " ann " + no + " 1;", 3, word.length() + 5);
            }
        }
        for (String word : byGood) {
            fine(word + " cy silk 1;", 1);
            for (String no : new String[] {"leaf", "ann", "x", "abcdefgh", "ric", "rices"}) {
                faulty(word + " ann " + no + " 1;", 3, word.length() + 5);
            }
        }
        for (String word : new String[] {"pay", "tear", "mend", "buy", "sell"}) {
            for (String no : new String[] {"rice", "leaf", "x", "abcdefgh", "an", "anns"}) {
                faulty(word + " " + no + " leaf 1;", 3, word.length() + 1);
            }
            faulty(word + " abcdefghi leaf 1;", 2, word.length() + 1);
            faulty(word + " ann abcdefghi 1;", 2, word.length() + 5);
        }
        fine("when holds cy = 1; end;", 1);
        fine("when left silk = 1; end;", 1);
        for (String no : new String[] {"rice", "leaf", "x", "abcdefgh"}) {
            faulty("when holds " + no + " = 1; end;", 3, 11);
        }
        for (String no : new String[] {"ann", "leaf", "x", "abcdefgh"}) {
            faulty("when left " + no + " = 1; end;", 3, 10);
        }
        faulty("when holds abcdefghi = 1; end;", 2, 11);
        faulty("when left abcdefghi = 1; end;", 2, 10);
    }

    private static void reservedNames() {
        for (String word : WORDS) {
            faulty("pay " + word + " leaf 1;", 2, 4);
            faulty("pay ann " + word + " 1;", 2, 8);
            faulty("when holds " + word + " = 1; end;", 2, 11);
            faulty("when left " + word + " = 1; end;", 2, 10);
        }
    }

    /** A NUMBER of the text: what stands ahead of it, its least and its most. */
    private static void range(String ahead, String behind, int least, int most) {
        fine(ahead + least + behind, 1);
        fine(ahead + most + behind, 1);
        if (least > 0) {
            faulty(ahead + (least - 1) + behind, 4, ahead.length());
        }
        if (most < 9999) {
            faulty(ahead + (most + 1) + behind, 4, ahead.length());
            faulty(ahead + 9999 + behind, 4, ahead.length());
        }
        faulty(ahead + 10000 + behind, 1, ahead.length());
        faulty(ahead + "00001" + behind, 1, ahead.length());
        faulty(ahead + "x" + behind, 2, ahead.length());
    }

    private static void numbers() {
        range("pay ann leaf ", ";", 1, 99);
        range("buy ann rice ", ";", 1, 99);
        range("sell ann rice ", ";", 1, 99);
        range("tear ann leaf ", ";", 1, 99);
        range("mend ann leaf ", ";", 1, 99);
        range("month ", ";", 1, 20);
        range("loop ", ";end;", 1, 99);
        for (String sign : new String[] {"<", ">", "="}) {
            range("when level " + sign + " ", ";end;", 0, 999);
            range("when holds ann " + sign + " ", ";end;", 0, 9999);
            range("when left rice " + sign + " ", ";end;", 0, 9999);
        }
    }

    private static void compares() {
        for (String test : new String[] {"level", "holds ann", "left rice"}) {
            int place = 6 + test.length();
            faulty("when " + test + " ; 1; end;", 2, place);
            faulty("when " + test + " 1; end;", 2, place);
            faulty("when " + test + " ann 1; end;", 2, place);
            faulty("when " + test + " == 1; end;", 2, place + 1);
            faulty("when " + test + " <= 1; end;", 2, place + 1);
            faulty("when " + test + " <> 1; end;", 2, place + 1);
            faulty("when " + test + " ! 1; end;", 1, place);
            fine("when " + test + "<1;end;when " + test + ">1;end;when " + test + "=1;end;", 3);
        }
    }

    private static void testWords() {
        for (String word : WORDS) {
            if (!word.equals("level") && !word.equals("holds") && !word.equals("left")) {
                faulty("when " + word + " = 1; end;", 2, 5);
            }
        }
        faulty("when ann = 1; end;", 2, 5);
        faulty("when 1 = 1; end;", 2, 5);
        faulty("when ; end;", 2, 5);
        faulty("when level ann = 1; end;", 2, 11);
        faulty("when holds = 1; end;", 2, 11);
        faulty("when left = 1; end;", 2, 10);
    }

    private static void endOfTheText() {
        String text = "pay ann leaf 1 ; buy ann rice 1 ; sell ann rice 1 ; tear ann leaf 1 ; mend ann leaf 1 ; month 1 ; any ; stop ;"
            + " when level < 1 ; any ; end ; when holds ann > 1 ; end ; when left rice = 1 ; end ; loop 2 ; any ; end ;";
        List<String> ahead = new ArrayList<>();
        int depth = 0;
        int steps = 0;
        for (String token : text.split(" ")) {
            steps += STEPS.contains(token) ? 1 : 0;
            depth += token.equals("when") || token.equals("loop") ? 1 : token.equals("end") ? -1 : 0;
            ahead.add(token);
            String cut = String.join(" ", ahead);
            for (String blanks : Arrays.asList("", "\n ")) {
                if (token.equals(";") && depth == 0) {
                    fine(cut + blanks, steps);
                } else {
                    faulty(cut + blanks, 2, cut.length() + blanks.length());
                }
            }
        }
    }

    private static void endsAndBeginnings() {
        faulty("end;", 2, 0);
        faulty("any; end;", 2, 5);
        faulty("loop 2; end; end;", 2, 13);
        faulty("when level = 1; end; end;", 2, 21);
        faulty("loop 2; loop 2; end; end; end;", 2, 26);
        faulty("loop 2; loop 2; end;", 2, 20);
        faulty("loop 2; end", 2, 11);
        faulty("loop 2; end 2;", 2, 12);
        faulty("loop 2; end loop;", 2, 12);
        fine("loop 2; end;", 1);
        fine("when level = 1; end;", 1);
        fine("loop 2; when level = 1; end; loop 2; end; end;", 3);
    }

    private static void countOfSteps() {
        String any29 = "any;".repeat(29);
        fine(any29, 29);
        for (String step : new String[] {"any;", "stop;", "month 1;", "pay ann leaf 1;", "buy ann rice 1;", "sell ann rice 1;", "tear ann leaf 1;",
            "mend ann leaf 1;", "loop 2;end;", "when level=1;end;"}) {
            fine(any29 + step, 30);
            faulty(any29 + "any;" + step, 6, 120);
            faulty(any29 + "any; " + step.substring(0, step.indexOf(step.contains(" ") ? ' ' : ';')), 6, 121);
        }
        // end is no STEP: thirty may be closed, behind the thirtieth, too
        fine("loop 2;end;".repeat(26), 26);
        fine("loop 2;loop 2;loop 2;" + "any;".repeat(27) + "end;end;end;", 30);
        faulty("loop 2;loop 2;loop 2;" + "any;".repeat(27) + "end;end;end;any;", 6, 21 + 108 + 12);
        faulty("loop 2;loop 2;loop 2;" + "any;".repeat(28), 6, 21 + 108);
        faulty("any;".repeat(30) + "end;", 2, 120);
        // STEPS are counted as they stand, whatever is done of them
        fine("loop 99;loop 99;loop 99;any;end;end;end;", 4);
    }

    private static void depth() {
        String[] open = {"loop 2;", "when level=1;"};
        for (int shape = 0; shape < 8; shape++) {
            String three = open[shape & 1] + open[shape >> 1 & 1] + open[shape >> 2 & 1];
            fine(three + "end;end;end;", 3);
            fine(three + "any;end;any;end;any;end;any;", 7);
            faulty(three + "loop 2;end;end;end;end;", 7, three.length());
            faulty(three + "when level=1;end;end;end;end;", 7, three.length());
            faulty(three + "loop", 7, three.length());
            faulty(three + "when", 7, three.length());
            faulty(three + "any;" + "loop ?", 7, three.length() + 4);
            fine(three + "end;" + open[0] + "end;" + open[1] + "end;end;end;", 5);
            faulty(three + "end;" + open[0] + "loop 2;", 7, three.length() + 4 + open[0].length());
            fine(three + "end;end;end;" + three + "end;end;end;", 6);
        }
    }

    private static void leastKindOfAToken() {
        String three = "loop 2;loop 2;loop 2;";
        // a 31st STEP that is a loop within three: 6; where it can't stand: 2
        faulty(three + "any;".repeat(27) + "loop 2;", 6, three.length() + 108);
        faulty(three + "any;".repeat(27) + "when level=1;", 6, three.length() + 108);
        faulty(three + "any;".repeat(26) + "loop 2;", 7, three.length() + 104);
        faulty(three + "any loop 2;", 2, three.length() + 4);
        faulty("any;".repeat(29) + "any any;", 2, 29 * 4 + 4);
        faulty("any;".repeat(30) + "level", 2, 120);
        faulty("any;".repeat(30) + "12345", 1, 120);
        faulty("pay ann leaf 00100;", 1, 13);
        faulty("pay 9999 leaf 1;", 2, 4);
        faulty("month 1 99;", 2, 8);
    }

    private static void firstAlongTheText() {
        faulty("pay x y 100;", 3, 4);
        faulty("pay ann y 100;", 3, 8);
        faulty("pay ann leaf 100?", 4, 13);
        faulty("pay ann leaf? 100;", 1, 12);
        faulty("when holds x ? 1;", 3, 11);
        faulty("when level = 1000; end; end;", 4, 13);
        faulty("loop 100; loop 2; loop 2; loop 2;", 4, 5);
        faulty("loop 0;", 4, 5);
    }

    private static void namesOfTheLandThatIs() {
        BarkMoney x = Check.in("person p; kind k worth 1;");
        c.due("a name of it", x, Check.reigns(x, "pay p k 1;"), 1, 0);
        Check.land(x, "person k; kind p worth 1;");
        c.due("its names are others now", x, Check.reigns(x, "pay p k 1;"), -1, 9);
        c.due("3 at 4", x.fault(0) * 10 + x.fault(1), 34);
        c.due("the other way", x, Check.reigns(x, "pay k p 1;"), 1, 0);
        Check.land(x, "person q; kind r worth 1; fee");
        c.due("those of a FAULTY text are none", x, Check.reigns(x, "pay q r 1;"), -1, 9);
        c.due("those of the LAND are", x, Check.reigns(x, "pay k p 2;"), 1, 0);
        x.live(0);
        c.due("paid", x.sheets(0, 0, 0), 2);
    }
}
