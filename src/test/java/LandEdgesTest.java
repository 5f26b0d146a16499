import java.util.ArrayList;
import java.util.Arrays;
import java.util.List;

/** Promises 10 and 12, and the LAND's text: each number, count, TOKEN and FAULT at its boundary. */
public final class LandEdgesTest {
    private static final Check c = new Check();
    private static final Twins rich = new Twins(c, Twins.RICH);
    private static final int MIN = Integer.MIN_VALUE;
    private static final int MAX = Integer.MAX_VALUE;
    private static final String[] WORDS = {"calm", "fee", "war", "kind", "worth", "good", "value", "stock", "person", "silver", "has", "pay", "buy",
        "sell", "tear", "mend", "month", "any", "when", "level", "holds", "left", "loop", "end", "stop"};

    public static void main(String[] args) {
        bytesOfTheTape();
        theTapeIsEmptyThen();
        faultIsOfTheLatest();
        everyByte();
        everyByteBehindANumber();
        asLongAsTheyGo();
        digits();
        letters();
        reserved();
        numbers();
        withoutANumber();
        oneNameOneThing();
        toldAhead();
        counts();
        toldAlready();
        toldAgain();
        endOfTheText();
        leastKindOfAToken();
        firstAlongTheText();
        numberedAsTheyStand();
        whatALandBeginsWith();
        levelOfALand();
        c.end();
    }

    private static void faulty(String text, int kind, int place) {
        rich.faulty(text, true, kind, place);
    }

    private static BarkMoney fine(String text, int people) {
        BarkMoney x = new BarkMoney();
        x.land(1);
        int n = Check.feed(x, text);
        c.due("land of '" + text + "'", x, x.land(n), people, 0);
        c.due("no FAULT in '" + text + "'", x.fault(0), 0);
        c.due("no place in '" + text + "'", x.fault(1), -1);
        return x;
    }

    private static void bytesOfTheTape() {
        // the tape of RICH has 20 bytes
        rich.inside("n 0", x -> x.land(0), 0);
        rich.inside("n as the tape has", x -> x.land(20), 1);
        rich.inside("n less than the tape has", x -> x.land(12), 1);
        rich.beyond("n below 0", 1, x -> x.land(-1), x -> x.land(MIN));
        rich.beyond("n more than the tape has", 1, x -> x.land(21), x -> x.land(900), x -> x.land(901), x -> x.land(MAX));
        BarkMoney x = new BarkMoney();
        c.due("an empty tape: 1", x, x.land(1), -1, 1);
        c.due("an empty tape: no FAULT is told", x.fault(0), -1);
        c.due("an empty tape: 0", x, x.land(0), 0, 0);
        c.due("now one is told", x.fault(0), 0);
        String part = "person p; kind k worth 1; has p k 1;";
        String full = part + " ".repeat(900 - part.length() - 10) + "has p k 2;";
        x = fine(full, 1);
        c.due("all 900 bytes are read", x.sheets(0, 0, 0), 2);
        x = new BarkMoney();
        Check.feed(x, full);
        c.due("901 of 900", x, x.land(901), -1, 1);
        c.due("899 of 900: the last sign is not read", x, x.land(899), -1, 9);
        c.due("2 at the text's length", x.fault(0) * 1000 + x.fault(1), 2899);
    }

    private static void theTapeIsEmptyThen() {
        BarkMoney x = rich.fresh();
        x.land(12);
        c.due("the rest is gone, too", x, x.land(1), -1, 1);
        c.due("feed begins again", x.feed(0, 0, 0, 0, 0), 20);
        x = rich.fresh();
        x.land(0);
        c.due("n 0 empties it, too", x, x.land(1), -1, 1);
        x = rich.fresh();
        c.due("a FAULT", x, x.land(11), -1, 9);
        c.due("empties it, too", x, x.land(1), -1, 1);
        x = rich.fresh();
        x.land(21);
        c.due("STATUS 1 does not", x, x.land(20), 1, 0);
    }

    private static void faultIsOfTheLatest() {
        BarkMoney x = new BarkMoney();
        for (int what = -2; what < 4; what++) {
            c.due("ahead of any: fault(" + what + ")", x.fault(what), -1);
        }
        Check.land(x, "fee 3");
        c.due("FAULT", x.fault(0), 2);
        c.due("place", x.fault(1), 5);
        c.due("others", x.fault(2), -1);
        c.due("others", x.fault(-1), -1);
        c.due("others", x.fault(MAX), -1);
        c.due("others", x.fault(MIN), -1);
        x.land(1);
        x.reigns(-1);
        x.land(MAX);
        c.due("STATUS 1 leaves the FAULT", x.fault(0), 2);
        c.due("STATUS 1 leaves the place", x.fault(1), 5);
        Check.reigns(x, "any; ?");
        c.due("of reigns()", x.fault(0), 1);
        c.due("of reigns()", x.fault(1), 5);
        x.land(0);
        c.due("without one", x.fault(0), 0);
        c.due("without a place", x.fault(1), -1);
        Check.land(x, ";");
        c.due("place 0", x.fault(1), 0);
        x.reigns(0);
        c.due("reigns() without one", x.fault(0), 0);
        c.due("reigns() without a place", x.fault(1), -1);
    }

    private static boolean isLetter(int b) {
        return b >= 'a' && b <= 'z';
    }

    private static boolean isDigit(int b) {
        return b >= '0' && b <= '9';
    }

    private static boolean isSign(int b) {
        return b == ';' || b == '<' || b == '>' || b == '=';
    }

    private static void everyByte() {
        for (int b = 0; b < 256; b++) {
            String text = "fee 3; " + (char) b;
            if (b == 10 || b == 32) {
                fine(text, 0);
            } else {
                faulty(text, isLetter(b) || isDigit(b) || isSign(b) ? 2 : 1, 7);
            }
        }
    }

    private static void everyByteBehindANumber() {
        for (int b = 0; b < 256; b++) {
            String text = "fee 3" + (char) b + ";";
            if (b == 10 || b == 32 || isDigit(b)) {
                fine(text, 0);
            } else if (b == ';') {
                faulty(text, 2, 6);
            } else {
                faulty(text, isLetter(b) || isSign(b) ? 2 : 1, 5);
            }
        }
    }

    private static void asLongAsTheyGo() {
        c.due("no blanks but between WORDS", fine("fee7;kind k worth5;person p silver9;has p k3;", 1).worth(0, 0), 15);
        c.due("blanks all over", fine("\n fee \n\n 7 \n; \n", 0).told(4), 7);
        faulty("feefee 3;", 2, 0);
        faulty("personp;", 2, 0);
        faulty("kind kworth 5;", 2, 12);
        faulty("fee 3 3;", 2, 6);
        faulty("f ee 3;", 2, 0);
        c.due("a WORD ends where a NUMBER begins", fine("person a silver9;", 1).silver(0), 9);
    }

    private static void digits() {
        c.due("4 digits", fine("calm 0010;", 0).told(3), 10);
        c.due("4 digits", fine("calm 9999;", 0).told(3), 9999);
        c.due("4 digits", fine("fee 0000;", 0).told(4), 0);
        faulty("calm 10000;", 1, 5);
        faulty("calm 00010;", 1, 5);
        faulty("fee 00000;", 1, 4);
        faulty("fee 123456789012345678901234567890;", 1, 4);
        faulty("fee 3; 12345", 1, 7);
        faulty("fee 3; 1234", 2, 7);
    }

    private static void letters() {
        String[] new9 = {"kind ", "good ", "person "};
        String[] rest = {" worth 5;", " value 5;", ";"};
        for (int i = 0; i < 3; i++) {
            fine(new9[i] + "q" + rest[i], i == 2 ? 1 : 0);
            fine(new9[i] + "qwertyui" + rest[i], i == 2 ? 1 : 0);
            faulty(new9[i] + "qwertyuio" + rest[i], 2, new9[i].length());
            faulty(new9[i] + "q".repeat(100) + rest[i], 2, new9[i].length());
        }
        String pair = "person qwertyui; kind asdfghjk worth 5; ";
        c.due("8 letters", fine(pair + "has qwertyui asdfghjk 7;", 1).worth(0, 0), 35);
        faulty(pair + "has qwertyuio asdfghjk 7;", 2, pair.length() + 4);
        faulty(pair + "has qwertyui asdfghjkl 7;", 2, pair.length() + 13);
        faulty(pair + "has qwertyu asdfghjk 7;", 3, pair.length() + 4);
        faulty(pair + "has qwertyui asdfghj 7;", 3, pair.length() + 13);
        faulty(pair + "has qwertyuj asdfghjk 7;", 3, pair.length() + 4);
        faulty(pair + "has awertyui asdfghjk 7;", 3, pair.length() + 4);
        fine("person abcdefgh; person abcdefg; person bcdefgh; person abcdefgi; person h;", 5);
    }

    private static void reserved() {
        for (String word : WORDS) {
            faulty("kind " + word + " worth 5;", 2, 5);
            faulty("good " + word + " value 5;", 2, 5);
            faulty("person " + word + ";", 2, 7);
            faulty("has " + word + " k 5;", 2, 4);
            faulty("person p; has p " + word + " 5;", 2, 16);
            String less = word.substring(0, word.length() - 1);
            String twin = word.length() < 8 ? word + word.charAt(0) : word;
            fine("kind " + less + " worth 5; good " + twin + " value 5;", 0);
        }
    }

    /** A NUMBER of the text: what stands ahead of it, its least and its most. */
    private static void range(String ahead, String behind, int least, int most) {
        int people = ahead.contains("person") ? 1 : 0;
        fine(ahead + least + behind, people);
        fine(ahead + most + behind, people);
        if (least > 0) {
            faulty(ahead + (least - 1) + behind, 4, ahead.length());
            faulty(ahead + 0 + behind, 4, ahead.length());
        }
        if (most < 9999) {
            faulty(ahead + (most + 1) + behind, 4, ahead.length());
            faulty(ahead + 9999 + behind, 4, ahead.length());
        } else {
            faulty(ahead + 10000 + behind, 1, ahead.length());
        }
    }

    private static void numbers() {
        range("calm ", ";", 10, 9999);
        range("fee ", ";", 0, 50);
        range("war ", ";", 0, 999);
        range("kind k worth ", ";", 1, 500);
        range("good g value ", ";", 1, 99);
        range("good g value ", " stock 5;", 1, 99);
        range("good g value 5 stock ", ";", 0, 999);
        range("person p silver ", ";", 0, 9999);
        range("person p; kind k worth 5; has p k ", ";", 0, 999);
        BarkMoney x = fine("calm 9999; fee 50; war 999; kind k worth 500; good g value 99 stock 999; person p silver 9999; has p k 999;", 1);
        c.due("the most: calm, fee, war", x.told(3) + x.told(4) + x.told(5), 9999 + 50 + 999);
        c.due("the most: worth", x.kind(0), 500);
        c.due("the most: value", x.good(0, 0), 99);
        c.due("the most: stock", x.good(0, 1), 999);
        c.due("the most: silver", x.silver(0), 9999);
        c.due("the most: has", x.sheets(0, 0, 0), 999);
        x = fine("calm 10; fee 0; war 0; kind k worth 1; good g value 1 stock 0; person p silver 0; has p k 0;", 1);
        c.due("the least: calm, fee, war", x.told(3) + x.told(4) + x.told(5), 10);
        c.due("the least: worth", x.kind(0), 1);
        c.due("the least: value", x.good(0, 0), 1);
        c.due("the least: stock", x.good(0, 1), 0);
        c.due("the least: silver", x.silver(0), 0);
        c.due("the least: has", x.sheets(0, 0, 0), 0);
    }

    private static void withoutANumber() {
        BarkMoney x = fine("good g value 5; good h value 5 stock 0; good i value 5; person p; person q silver 7; person r; kind k worth 5;", 3);
        c.due("CALM without", x.told(3), 500);
        c.due("FEE without", x.told(4), 3);
        c.due("WAR without", x.told(5), 0);
        c.due("STOCK without", x.good(0, 1) * 10000 + x.good(1, 1) * 100 + x.good(2, 1), 100010);
        c.due("SILVER without", x.silver(0) * 100 + x.silver(1) * 10 + x.silver(2), 70);
        c.due("sheets without", x.sheets(0, 0, 0), 0);
        x = Check.in("calm 44; fee 44; war 44;");
        x.land(0);
        c.due("they come back in the next LAND", x.told(3) * 10000 + x.told(4) * 100 + x.told(5), 5000300);
    }

    private static void oneNameOneThing() {
        String[] things = {"kind a worth 5;", "good a value 5;", "person a;"};
        int[] place = {5, 5, 7};
        for (String first : things) {
            for (int second = 0; second < 3; second++) {
                faulty(first + things[second], 3, first.length() + place[second]);
            }
        }
        fine("kind a worth 5; good b value 5; person d;", 1);
        // a fourth KIND's, a fifth GOOD's, a fifth PERSON's name is taken as the first's is
        String full = "kind a worth 5;kind b worth 5;kind d worth 5;kind e worth 5;good f value 5;good g value 5;good h value 5;"
            + "good i value 5;good j value 5;person k;person l;person m;person n;";
        for (char taken = 'a'; taken <= 'n'; taken++) {
            if (taken != 'c') {
                faulty(full + "person " + taken + ";", 3, full.length() + 7);
            }
        }
        fine(full + "person c;", 5);
    }

    private static void toldAhead() {
        faulty("has p k 5;", 3, 4);
        faulty("has p k 5; person p; kind k worth 5;", 3, 4);
        faulty("person p; has p k 5; kind k worth 5;", 3, 16);
        faulty("kind k worth 5; has p k 5; person p;", 3, 20);
        String all = "kind k worth 5; good g value 5; person p; ";
        faulty(all + "has k k 5;", 3, all.length() + 4);
        faulty(all + "has g k 5;", 3, all.length() + 4);
        faulty(all + "has p g 5;", 3, all.length() + 6);
        faulty(all + "has p p 5;", 3, all.length() + 6);
        fine(all + "has p k 5;", 1);
        // what an old LAND had is not told ahead
        faulty("has ann leaf 5;", 3, 4);
        faulty("person ann; has ann leaf 5;", 3, 20);
        // a name that a FAULTY text told is free again
        BarkMoney x = new BarkMoney();
        Check.land(x, "person p; kind k worth");
        c.due("free again", x, Check.land(x, "kind p worth 5; person k; has k p 3;"), 1, 0);
        c.due("worth", x.worth(0, 0), 15);
    }

    private static void counts() {
        String kinds = "kind a worth 5;kind b worth 5;kind d worth 5;kind e worth 5;";
        String goods = "good f value 5;good g value 5;good h value 5;good i value 5;good j value 5;";
        String people = "person k;person l;person m;person n;person o;";
        BarkMoney x = fine(kinds + goods + people, 5);
        c.due("four KINDS", x.told(0), 4);
        c.due("five GOODS", x.told(1), 5);
        String all = kinds + goods + people;
        faulty(all + "kind z worth 5;", 6, all.length());
        faulty(all + "good z value 5;", 6, all.length());
        faulty(all + "person z;", 6, all.length());
        faulty(all + " kind", 6, all.length() + 1);
        faulty(all + " good ?", 6, all.length() + 1);
        faulty(all + " person k", 6, all.length() + 1);
        faulty(kinds + "kind a", 6, kinds.length());
        faulty(goods + "good f", 6, goods.length());
        faulty(people + "person k", 6, people.length());
        // a full row of one thing lets the others be
        fine(kinds + people + goods + "has o e 5;fee 5;", 5);
    }

    private static void toldAlready() {
        String[] rules = {"calm 10;", "fee 10;", "war 10;"};
        for (String rule : rules) {
            faulty(rule + rule, 5, rule.length());
            faulty(rule + "person p; " + rule, 5, rule.length() + 10);
            faulty(rule + rule.substring(0, rule.indexOf(' ')), 5, rule.length());
            faulty(rule + rule.substring(0, rule.indexOf(' ')) + " ?", 5, rule.length());
            for (String other : rules) {
                if (!rule.equals(other)) {
                    fine(rule + other, 0);
                    faulty(rule + other + rule, 5, rule.length() + other.length());
                }
            }
        }
        // told already is asked of one text alone
        BarkMoney x = new BarkMoney();
        Check.land(x, "fee 5;");
        c.due("in the next text", x, Check.land(x, "fee 6;"), 0, 0);
        Check.land(x, "fee 7; fee 8;");
        c.due("behind a FAULT", x, Check.land(x, "fee 9;"), 0, 0);
        c.due("fee", x.told(4), 9);
        // it is told, though it is as it would be without
        faulty("calm 500; calm 10;", 5, 10);
        faulty("fee 3; fee 10;", 5, 7);
        faulty("war 0; war 10;", 5, 7);
    }

    private static void toldAgain() {
        String pair = "person p; kind k worth 5; person q; kind l worth 7;";
        c.due("the latest", fine(pair + "has p k 9; has p k 4;", 2).sheets(0, 0, 0), 4);
        c.due("the latest, a 0", fine(pair + "has p k 9; has p k 0;", 2).told(8), 0);
        BarkMoney x = fine(pair + "has p k 9; has q k 8; has p l 7; has q l 6; has p k 1;", 2);
        c.due("of these two alone", x.sheets(0, 0, 0) * 1000 + x.sheets(1, 0, 0) * 100 + x.sheets(0, 1, 0) * 10 + x.sheets(1, 1, 0), 1876);
        c.due("OUT by the latest", x.told(8), 5 + 40 + 49 + 42);
    }

    /** Whatever TOKEN is the last, the FAULT of a PART that lacks its end is 2 at the text's length. */
    private static void endOfTheText() {
        String text = "calm 100 ; fee 10 ; war 30 ; kind k worth 5 ; good g value 7 stock 3 ; good h value 7 ; person p silver 4 ; person q ; has p k 9 ;";
        List<String> ahead = new ArrayList<>();
        int people = 0;
        for (String token : text.split(" ")) {
            people += ahead.size() > 1 && token.equals(";") && lastPart(ahead).startsWith("person") ? 1 : 0;
            ahead.add(token);
            String cut = String.join(" ", ahead);
            for (String blanks : Arrays.asList("", " ", " \n\n ")) {
                if (token.equals(";")) {
                    fine(cut + blanks, people);
                } else {
                    faulty(cut + blanks, 2, cut.length() + blanks.length());
                }
            }
        }
        c.due("two people", people, 2);
    }

    private static String lastPart(List<String> tokens) {
        String all = String.join(" ", tokens);
        return all.substring(all.lastIndexOf(';') + 1).trim();
    }

    private static void leastKindOfAToken() {
        faulty("fee 00051;", 1, 4);
        faulty("99999", 1, 0);
        // where a NAME must stand, a WORD told already or one too many is 2
        faulty("calm 10; person calm;", 2, 16);
        faulty("kind a worth 5;kind b worth 5;kind d worth 5;kind e worth 5;person kind", 2, 67);
        // where a sign must stand, a number that can't be is 2
        faulty("fee 3 9999;", 2, 6);
        // where a sign must stand, a NAME that is taken is 2
        faulty("person p p;", 2, 9);
        // a taken NAME of 9 letters is none
        faulty("person abcdefgh; person abcdefghi;", 2, 24);
    }

    private static void firstAlongTheText() {
        faulty("fee 51; ?", 4, 4);
        faulty("fee 51?", 4, 4);
        faulty("person p? fee 51;", 1, 8);
        faulty("fee 3 ? fee 3;", 1, 6);
        faulty("has x y 1000;", 3, 4);
        faulty("person p; has p y 1000;", 3, 16);
        faulty("kind k worth 501 stock", 4, 13);
        faulty("good g value 0 stock 1000;", 4, 13);
        faulty("fee ; fee 3; fee 3;", 2, 4);
    }

    private static void numberedAsTheyStand() {
        BarkMoney x = fine("person z; good y value 9; kind x worth 8; good b value 7; person a; kind c worth 6; has a c 3; has z x 2;", 2);
        c.due("KINDS", x.kind(0) * 10 + x.kind(1), 86);
        c.due("GOODS", x.good(0, 0) * 10 + x.good(1, 0), 97);
        c.due("a has c", x.sheets(1, 1, 0), 3);
        c.due("z has x", x.sheets(0, 0, 0), 2);
        c.due("no others", x.sheets(0, 1, 0) + x.sheets(1, 0, 0), 0);
    }

    private static void whatALandBeginsWith() {
        BarkMoney x = rich.fresh();
        x.month(3);
        x.renew(0);
        x.buy(0, 1, 1);
        c.due("some were printed, some burned", x.told(10) > 0 && x.told(11) > 0, true);
        x.land(20);
        int[] due = {0, 0, 1, 500, 7, 0, 0, 1, 0, 0, 0, 0};
        for (int what = 0; what < 12; what++) {
            c.due("told(" + what + ")", x, x.told(what), due[what], 0);
        }
        c.due("no REIGNS", x, x.live(0), -1, 6);
        c.due("no REIGNS for a mean", x, x.mean(0, 1), false, 6);
        c.due("MARKS stay", x, x.mark(), 3, 0);
        // the same LAND again: nothing of the one ahead is left in any row
        String full = "kind a worth 5;kind b worth 5;kind d worth 5;kind e worth 5;good f value 5;good g value 5;good h value 5;"
            + "good i value 5;good j value 5;person k;person l;person m;person n;person o;";
        BarkMoney y = new BarkMoney();
        for (int turn = 0; turn < 3; turn++) {
            Check.land(y, full + "has k a 99;has l b 99;has m d 99;has n e 99;has o e 99;");
            for (int person = 0; person < 5; person++) {
                int kind = Math.min(person, 3);
                c.due("tear", y, y.tear(person, kind, 9), 9, 0);
                c.due("cross", y, y.cross(person, kind, 9) >= 0, true, 0);
                c.due("buy", y, y.buy(person, person, 1) > 0, true, 0);
            }
            y.month(2);
        }
        Check.land(y, full);
        for (int person = 0; person < 5; person++) {
            c.due("silver of the new LAND", y.silver(person), 0);
            c.due("stock of the new LAND", y.good(person, 1), 10);
            for (int i = 0; i < 5; i++) {
                c.due("goods of the new LAND", y.goods(person, i), 0);
                c.due("sheets of the new LAND", i == 4 ? 0 : y.sheets(person, i, 0) + y.sheets(person, i, 1), 0);
            }
        }
    }

    private static void levelOfALand() {
        c.due("OUT 99 by 100", fine("calm 100; person p; kind k worth 1; has p k 99;", 1).told(7), 1);
        c.due("OUT 100 by 100", fine("person p; kind k worth 1; has p k 100; calm 100;", 1).told(7), 2);
        c.due("OUT 101 by 100", fine("calm 100; person p; kind k worth 1; has p k 101;", 1).told(7), 2);
        c.due("OUT 499 without CALM", fine("person p; kind k worth 1; has p k 499;", 1).told(7), 1);
        c.due("OUT 500 without CALM", fine("person p; kind k worth 1; has p k 500;", 1).told(7), 2);
        c.due("WAR is not asked", fine("calm 10; war 999;", 0).told(7), 1);
        c.due("SILVER is not asked", fine("calm 10; person p silver 9999;", 1).told(7), 1);
        c.due("the most by the least", fine("calm 10; person p; kind k worth 500; has p k 999;", 1).told(7), 49951);
    }
}
