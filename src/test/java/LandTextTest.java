/** Promises 10 and 12 to 20: a LAND as a text, its FAULTS, what is told of it. */
public final class LandTextTest {
    private static final Check c = new Check();
    private static final String FULL = "calm 100;\nfee 10; war 30; kind leaf worth 5; kind bark worth 20;"
        + "good rice value 7 stock 3; good silk value 10; person ann silver 4; person bo;"
        + "has ann leaf 9; has ann bark 2; has bo leaf 4; has bo leaf 6;";

    public static void main(String[] args) {
        ordinary();
        tokens();
        faultsOfSigns();
        faultsOfNames();
        faultsOfNumbers();
        faultsOfCounts();
        reservedWords();
        limits();
        oldOneStays();
        told();
        wrongAsking();
        richest();
        c.end();
    }

    private static void faulty(String text, int kind, int place) {
        BarkMoney x = Check.in("person old; fee 9;");
        c.due("land of '" + text + "'", x, Check.land(x, text), -1, 9);
        c.due("fault of '" + text + "'", x.fault(0), kind);
        c.due("place of '" + text + "'", x.fault(1), place);
        c.due("the old one stays", x.told(2) * 100 + x.told(4), 109);
        c.due("the tape is empty behind '" + text + "'", x.feed(0, 0, 0, 0, 0), 20);
    }

    private static void fine(String text, int people) {
        BarkMoney x = new BarkMoney();
        c.due("land of '" + text + "'", x, Check.land(x, text), people, 0);
        c.due("no fault in '" + text + "'", x.fault(0), 0);
        c.due("no place in '" + text + "'", x.fault(1), -1);
    }

    private static void ordinary() {
        fine("", 0);
        fine(" \n ", 0);
        fine(FULL, 2);
        BarkMoney x = Check.in(FULL);
        c.due("fault(2)", x.fault(2), -1);
        c.due("fault(-1)", x.fault(-1), -1);
        int status = x.told(99);
        c.due("refused", status, -1);
        x.fault(0);
        c.due("fault has no status", x.status(), 1);
        x.land(5);
        c.due("land refused with 1 tells no fault", x.fault(0), 0);
    }

    private static void tokens() {
        fine("fee5;", 0);
        fine("person a;person b;", 2);
        fine("person\na\n;\n", 1);
        fine("kind k worth 0005;", 0);
        fine("person calmer;person perso;person fees;", 3);
        fine("person abcdefgh;", 1);
        fine("person abcdefgh; person abcdefgi; person bbcdefgh;", 3);
        faulty("calm 100;\tfee 3;", 1, 9);
        faulty("Calm 100;", 1, 0);
        faulty("calm 00100;", 1, 5);
        faulty("12345", 1, 0);
        faulty("1234", 2, 0);
        faulty("person p 12345;", 1, 9);
        faulty("person p.", 1, 8);
        faulty("person p; -", 1, 10);
        faulty("fee 3;\0", 1, 6);
        faulty("fee 99999 %", 1, 4);
        faulty("fee fee %", 2, 4);
    }

    private static void faultsOfSigns() {
        faulty(";", 2, 0);
        faulty("fee 3;;", 2, 6);
        faulty("fee ;", 2, 4);
        faulty("fee", 2, 3);
        faulty("fee  \n", 2, 6);
        faulty("fee 3", 2, 5);
        faulty("fee 3 fee 4;", 2, 6);
        faulty("fee < 3;", 2, 4);
        faulty("fee = 3;", 2, 4);
        faulty("fee > 3;", 2, 4);
        faulty("pay p k 3;", 2, 0);
        faulty("leaf worth 3;", 2, 0);
        faulty("worth 3;", 2, 0);
        faulty("kind k value 3;", 2, 7);
        faulty("kind k 3;", 2, 7);
        faulty("kind k worth;", 2, 12);
        faulty("kind 3 worth 3;", 2, 5);
        faulty("good g worth 3;", 2, 7);
        faulty("good g value 3 stock;", 2, 20);
        faulty("good g value 3 silver 3;", 2, 15);
        faulty("good g stock 3 value 3;", 2, 7);
        faulty("person p stock 3;", 2, 9);
        faulty("person p silver;", 2, 15);
        faulty("person ;", 2, 7);
        faulty("person", 2, 6);
        faulty("has", 2, 3);
        faulty("has 3", 2, 4);
        faulty("person p; has p", 2, 15);
        faulty("person p; has p 3", 2, 16);
        faulty("person p; kind k worth 3; has p k", 2, 33);
        faulty("person p; kind k worth 3; has p k ;", 2, 34);
        faulty("person p; kind k worth 3; has p k 3", 2, 35);
    }

    private static void faultsOfNames() {
        faulty("person abcdefghi;", 2, 7);
        faulty("person a; person a;", 3, 17);
        faulty("kind a worth 3; person a;", 3, 23);
        faulty("kind a worth 3; good a value 3;", 3, 21);
        faulty("good a value 3; kind a worth 3;", 3, 21);
        faulty("person a; good a value 3;", 3, 15);
        faulty("has a k 3;", 3, 4);
        faulty("kind k worth 3; has k k 3;", 3, 20);
        faulty("person p; has p p 3;", 3, 16);
        faulty("person p; good g value 3; has p g 3;", 3, 32);
        faulty("person p; has p k 3; kind k worth 3;", 3, 16);
        faulty("person p; has p abcdefghi 3;", 2, 16);
        faulty("person p; has p calm 3;", 2, 16);
        faulty("person p; has pp k 3;", 3, 14);
    }

    private static void faultsOfNumbers() {
        fine("calm 10; fee 0; war 0;", 0);
        fine("calm 9999; fee 50; war 999;", 0);
        faulty("calm 9;", 4, 5);
        faulty("fee 51;", 4, 4);
        faulty("war 1000;", 4, 4);
        fine("kind a worth 1; kind b worth 500;", 0);
        faulty("kind a worth 0;", 4, 13);
        faulty("kind a worth 501;", 4, 13);
        fine("good a value 1 stock 0; good b value 99 stock 999;", 0);
        faulty("good a value 0;", 4, 13);
        faulty("good a value 100;", 4, 13);
        faulty("good a value 1 stock 1000;", 4, 21);
        fine("person a silver 0; person b silver 9999;", 2);
        fine("person a; kind k worth 3; has a k 0; has a k 999;", 1);
        faulty("person a; kind k worth 3; has a k 1000;", 4, 34);
    }

    private static void faultsOfCounts() {
        faulty("calm 100; calm 100;", 5, 10);
        faulty("fee 3; war 3; fee 3;", 5, 14);
        faulty("war 3; war", 5, 7);
        StringBuilder kinds = new StringBuilder();
        StringBuilder goods = new StringBuilder();
        StringBuilder people = new StringBuilder();
        for (char k = 'a'; k <= 'd'; k++) {
            kinds.append("kind ").append(k).append(" worth 3;");
        }
        for (char k = 'a'; k <= 'e'; k++) {
            goods.append("good ").append(k).append(" value 3;");
            people.append("person ").append(k).append(";");
        }
        fine(kinds.toString(), 0);
        fine(goods.toString(), 0);
        fine(people.toString(), 5);
        faulty(kinds + "kind", 6, kinds.length());
        faulty(goods + "good a", 6, goods.length());
        faulty(people + "person a", 6, people.length());
    }

    private static void reservedWords() {
        String[] words = {"calm", "fee", "war", "kind", "worth", "good", "value", "stock", "person", "silver", "has",
            "pay", "buy", "sell", "tear", "mend", "month", "any", "when", "level", "holds", "left", "loop", "end", "stop"};
        for (String word : words) {
            faulty("person " + word + ";", 2, 7);
            fine("person " + word + "x;", 1);
            fine("person x" + word + ";", 1);
        }
        String[] beginning = {"calm", "fee", "war", "kind", "good", "person", "has"};
        for (String word : words) {
            if (!java.util.Arrays.asList(beginning).contains(word)) {
                faulty(word + " 3;", 2, 0);
            }
        }
    }

    private static void limits() {
        StringBuilder text = new StringBuilder("person a; kind k worth 1;");
        while (text.length() + 11 <= 900) {
            text.append("has a k 7;\n");
        }
        while (text.length() < 900) {
            text.append(' ');
        }
        fine(text.toString(), 1);
        text.setCharAt(899, 'q');
        faulty(text.toString(), 2, 899);
    }

    private static void oldOneStays() {
        BarkMoney x = Check.in("person p; kind k worth 5; has p k 3;");
        Check.reigns(x, "month 1;");
        Check.land(x, "person q; person r; kind");
        c.due("the old reigns stay, too", x, x.live(0), 1, 0);
        c.due("worth", x.worth(0, 0), 15);
        c.due("n of the tape alone", x, x.land(0), 0, 0);
        c.due("no reigns in a new land", x, x.live(0), -1, 6);
        Check.feed(x, "person p; person q;");
        c.due("the first bytes alone", x, x.land(9), 1, 0);
        String rich = "person a; person b; kind k worth 5; kind l worth 6; has a k 1; has a l 2; has b k 3; has b l 4; good g value 1;";
        for (int i = 0; i < 3; i++) {
            Check.land(x, rich);
            x.tear(0, 0, 1);
            x.tear(1, 1, 1);
            x.burn(1, 1, 1);
            x.pay(0, 0, 9);
            x.buy(0, 0, 5);
            x.month(1);
        }
        Check.land(x, "person a; person b; kind k worth 5; kind l worth 6; good g value 1;");
        for (int what = 6; what < 12; what++) {
            c.due("told(" + what + ") of a new land", x.told(what), what == 7 ? 1 : 0);
        }
        c.due("goods of a new land", x.goods(0, 0), 0);
    }

    private static void told() {
        BarkMoney x = Check.in(FULL);
        int[] due = {2, 2, 2, 100, 10, 30, 0, 2, 115, 0, 0, 0};
        for (int what = 0; what < due.length; what++) {
            c.due("told(" + what + ")", x, x.told(what), due[what], 0);
        }
        c.due("kind", x, x.kind(0), 5, 0);
        c.due("kind", x, x.kind(1), 20, 0);
        c.due("value", x, x.good(0, 0), 7, 0);
        c.due("stock", x, x.good(0, 1), 3, 0);
        c.due("price", x, x.good(0, 2), 14, 0);
        c.due("stock without", x, x.good(1, 1), 10, 0);
        c.due("told again: the latest", x, x.sheets(1, 0, 0), 6, 0);
        c.due("torn", x, x.sheets(1, 0, 1), 0, 0);
        c.due("goods", x, x.goods(1, 1), 0, 0);
        c.due("silver", x, x.silver(0), 4, 0);
        c.due("silver without", x, x.silver(1), 0, 0);
        c.due("worth whole", x, x.worth(0, 0), 85, 0);
        x.tear(0, 1, 1);
        c.due("worth whole", x, x.worth(0, 0), 65, 0);
        c.due("worth torn", x, x.worth(0, 1), 20, 0);
        c.due("out has torn ones", x, x.told(8), 115, 0);
        x = Check.in("person p; kind k worth 500; has p k 999; calm 10; good g value 99;");
        c.due("calm told behind", x.told(7), 49951);
        c.due("war waits for a month", Check.in("calm 10; war 999;").told(7), 1);
        c.due("price", x.good(0, 2), 99 * 49951);
    }

    private static void wrongAsking() {
        BarkMoney x = Check.in(FULL);
        c.due("told(-1)", x, x.told(-1), -1, 1);
        c.due("told(12)", x, x.told(12), -1, 1);
        c.due("kind(-1)", x, x.kind(-1), -1, 1);
        c.due("kind(2)", x, x.kind(2), -1, 1);
        c.due("good(2, 0)", x, x.good(2, 0), -1, 1);
        c.due("good(-1, 0)", x, x.good(-1, 0), -1, 1);
        c.due("good(0, 3)", x, x.good(0, 3), -1, 1);
        c.due("good(0, -1)", x, x.good(0, -1), -1, 1);
        c.due("sheets(2, 0, 0)", x, x.sheets(2, 0, 0), -1, 1);
        c.due("sheets(0, 2, 0)", x, x.sheets(0, 2, 0), -1, 1);
        c.due("sheets(0, 0, 2)", x, x.sheets(0, 0, 2), -1, 1);
        c.due("sheets(-1, 0, 0)", x, x.sheets(-1, 0, 0), -1, 1);
        c.due("goods(2, 0)", x, x.goods(2, 0), -1, 1);
        c.due("goods(0, 2)", x, x.goods(0, 2), -1, 1);
        c.due("silver(2)", x, x.silver(2), -1, 1);
        c.due("silver(-1)", x, x.silver(-1), -1, 1);
        c.due("worth(2, 0)", x, x.worth(2, 0), -1, 1);
        c.due("worth(0, 2)", x, x.worth(0, 2), -1, 1);
        c.due("worth(0, -1)", x, x.worth(0, -1), -1, 1);
        c.due("sheets(0, 0, -1)", x, x.sheets(0, 0, -1), -1, 1);
    }

    private static void richest() {
        BarkMoney x = new BarkMoney();
        c.due("no people", x, x.richest(), -1, 6);
        x = Check.in("person a; person b; person d; kind k worth 5; kind l worth 10; has b l 2; has d k 4;");
        c.due("of several the first", x, x.richest(), 1, 0);
        x.tear(1, 1, 1);
        c.due("whole sheets alone", x, x.richest(), 2, 0);
        x.burn(2, 0, 4);
        x.burn(1, 1, 1);
        c.due("all without", x, x.richest(), 0, 0);
    }
}
