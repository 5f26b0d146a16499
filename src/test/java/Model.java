import java.math.BigInteger;
import java.util.ArrayList;
import java.util.HashMap;
import java.util.List;
import java.util.Map;
import java.util.function.LongSupplier;

/**
 * The document once more, in the plainest and slowest form: ways are tried one
 * by one, REIGNS are a tree, faults and refusals are thrown. ModelTest runs it
 * beside BarkMoney.
 */
final class Model {
    private static final class Refused extends RuntimeException {
        private static final long serialVersionUID = 1L;
        final int status;

        Refused(int status) {
            super(null, null, false, false);
            this.status = status;
        }
    }

    private static final class Fault extends RuntimeException {
        private static final long serialVersionUID = 1L;
        final int kind;
        final int place;

        Fault(int kind, int place) {
            super(null, null, false, false);
            this.kind = kind;
            this.place = place;
        }
    }

    private static final class Halt extends RuntimeException {
        private static final long serialVersionUID = 1L;

        Halt() {
            super(null, null, false, false);
        }
    }

    /** A token: its text, its place, and its sort: w, n, s, e (the end), x (none). */
    private record Token(String text, int place, char sort) { }

    private static final class Step {
        String word;
        int a;
        int b;
        int n;
        String test;
        String sign;
        final List<Step> body = new ArrayList<>();
    }

    private static final class World {
        int calm = 500;
        int fee = 3;
        int war = 0;
        int month = 0;
        int level = 1;
        int soldiers = 0;
        long printed = 0;
        long burned = 0;
        List<String> kinds = new ArrayList<>();
        List<String> goods = new ArrayList<>();
        List<String> people = new ArrayList<>();
        int[] worth = new int[4];
        int[] value = new int[5];
        int[] stock = new int[5];
        int[] silver = new int[5];
        int[][][] sheets = new int[2][5][4];
        int[][] owned = new int[5][5];
        List<Step> reigns = null;

        World copy() {
            World w = new World();
            w.calm = calm;
            w.fee = fee;
            w.war = war;
            w.month = month;
            w.level = level;
            w.soldiers = soldiers;
            w.printed = printed;
            w.burned = burned;
            w.kinds.addAll(kinds);
            w.goods.addAll(goods);
            w.people.addAll(people);
            w.worth = worth.clone();
            w.value = value.clone();
            w.stock = stock.clone();
            w.silver = silver.clone();
            for (int p = 0; p < 5; p++) {
                w.sheets[0][p] = sheets[0][p].clone();
                w.sheets[1][p] = sheets[1][p].clone();
                w.owned[p] = owned[p].clone();
            }
            w.reigns = reigns;
            return w;
        }

        int worthOf(int what, int p) {
            int sum = 0;
            for (int k = 0; k < kinds.size(); k++) {
                sum += sheets[what][p][k] * worth[k];
            }
            return sum;
        }

        int out() {
            int sum = soldiers;
            for (int p = 0; p < people.size(); p++) {
                sum += worthOf(0, p) + worthOf(1, p);
            }
            return sum;
        }
    }

    private World w = new World();
    private final List<World> marks = new ArrayList<>();
    private int status = 0;
    private BigInteger top = BigInteger.ZERO;
    private BigInteger bottom = BigInteger.ONE;
    private final long[][] trays = new long[4][];
    private final int[] sorts = new int[4];
    private final List<Byte> tape = new ArrayList<>();
    private int faultKind = -1;
    private int faultPlace = -1;
    private int[] lived = null;

    // ---- asking

    private long ask(LongSupplier s) {
        try {
            long v = s.getAsLong();
            status = 0;
            return v;
        } catch (Refused r) {
            status = r.status;
            return -1;
        }
    }

    private boolean does(LongSupplier s) {
        ask(s);
        return status == 0;
    }

    private static void need(boolean fine, int status) {
        if (!fine) {
            throw new Refused(status);
        }
    }

    private static void range(long v, long a, long b) {
        need(a <= v && v <= b, 1);
    }

    private void kindIs(int k) {
        range(k, 0, w.kinds.size() - 1);
    }

    private void goodIs(int g) {
        range(g, 0, w.goods.size() - 1);
    }

    private void personIs(int p) {
        range(p, 0, w.people.size() - 1);
    }

    private void fraction(BigInteger a, BigInteger b) {
        BigInteger d = a.gcd(b);
        top = a.divide(d);
        bottom = b.divide(d);
    }

    public int status() {
        return status;
    }

    public long top() {
        return top.longValueExact();
    }

    public long bottom() {
        return bottom.longValueExact();
    }

    // ---- trays

    private static long cut(int sort, long v) {
        int bits = 64 - (8 << sort);
        return v << bits >> bits;
    }

    public boolean tray(int tray, int sort, int many) {
        return does(() -> {
            range(tray, 0, 3);
            range(sort, 0, 3);
            range(many, 0, 60);
            trays[tray] = new long[many];
            sorts[tray] = sort;
            return 0;
        });
    }

    private void place(int tray, int place) {
        range(tray, 0, 3);
        need(trays[tray] != null, 2);
        need(place >= 0 && place < trays[tray].length, 3);
    }

    public boolean write(int tray, int place, long v) {
        return does(() -> {
            place(tray, place);
            trays[tray][place] = cut(sorts[tray], v);
            return 0;
        });
    }

    public long read(int tray, int place) {
        return ask(() -> {
            place(tray, place);
            return trays[tray][place];
        });
    }

    public boolean pour(int from, int place, int to, int at, int many) {
        return does(() -> {
            range(from, 0, 3);
            range(to, 0, 3);
            need(place >= 0 && at >= 0 && many >= 0, 1);
            need(trays[from] != null && trays[to] != null, 2);
            need(sorts[from] == sorts[to], 8);
            need((long) place + many <= trays[from].length && (long) at + many <= trays[to].length, 3);
            long[] were = trays[from].clone();
            for (int i = 0; i < many; i++) {
                trays[to][at + i] = were[place + i];
            }
            return 0;
        });
    }

    // ---- texts

    public int feed(int a, int b, int c, int d, int e) {
        if (tape.size() > 880) {
            return -1;
        }
        for (int v : new int[] {a, b, c, d, e}) {
            for (int bit = 24; bit >= 0; bit -= 8) {
                tape.add((byte) (v >> bit));
            }
        }
        return tape.size();
    }

    private static final List<String> RESERVED = List.of(("calm fee war kind worth good value stock person silver has pay buy sell"
        + " tear mend month any when level holds left loop end stop").split(" "));

    private List<Token> tokens;
    private int at;

    private void tokenise(int n) {
        StringBuilder text = new StringBuilder();
        for (int i = 0; i < n; i++) {
            text.append((char) (tape.get(i) & 255));
        }
        tape.clear();
        java.util.regex.Matcher m = java.util.regex.Pattern.compile("([a-z]+)|([0-9]+)|([;<>=])|[ \n]+|(?s:.)").matcher(text);
        tokens = new ArrayList<>();
        at = 0;
        while (m.find()) {
            String s = m.group();
            if (m.group(1) != null) {
                tokens.add(new Token(s, m.start(), 'w'));
            } else if (m.group(2) != null) {
                tokens.add(new Token(s, m.start(), s.length() > 4 ? 'x' : 'n'));
            } else if (m.group(3) != null) {
                tokens.add(new Token(s, m.start(), 's'));
            } else if (s.charAt(0) != ' ' && s.charAt(0) != '\n') {
                tokens.add(new Token(s, m.start(), 'x'));
            }
        }
        tokens.add(new Token("", n, 'e'));
    }

    private Token peek() {
        Token t = tokens.get(at);
        if (t.sort == 'x') {
            throw new Fault(1, t.place);
        }
        return t;
    }

    private boolean sees(String s) {
        return peek().text.equals(s) && peek().sort != 'e';
    }

    private Token here(int kind, boolean fine) {
        Token t = peek();
        if (!fine) {
            throw new Fault(kind, t.place);
        }
        return t;
    }

    private void expect(String s) {
        here(2, sees(s));
        at++;
    }

    private int number(int a, int b) {
        Token t = peek();
        here(2, t.sort == 'n');
        int v = Integer.parseInt(t.text);
        here(4, a <= v && v <= b);
        at++;
        return v;
    }

    private String name() {
        Token t = peek();
        here(2, t.sort == 'w' && t.text.length() <= 8 && !RESERVED.contains(t.text));
        return t.text;
    }

    private int old(List<String> names) {
        int i = names.indexOf(name());
        here(3, i >= 0);
        at++;
        return i;
    }

    private void fresh(World v, List<String> names) {
        String s = name();
        here(3, !v.kinds.contains(s) && !v.goods.contains(s) && !v.people.contains(s));
        names.add(s);
        at++;
    }

    private World parseLand() {
        World v = new World();
        List<String> told = new ArrayList<>();
        while (peek().sort != 'e') {
            String word = peek().text;
            switch (word) {
                case "calm", "fee", "war" -> {
                    here(5, !told.contains(word));
                    told.add(word);
                    at++;
                    if (word.equals("calm")) {
                        v.calm = number(10, 9999);
                    } else if (word.equals("fee")) {
                        v.fee = number(0, 50);
                    } else {
                        v.war = number(0, 999);
                    }
                }
                case "kind" -> {
                    here(6, v.kinds.size() < 4);
                    at++;
                    fresh(v, v.kinds);
                    expect("worth");
                    v.worth[v.kinds.size() - 1] = number(1, 500);
                }
                case "good" -> {
                    here(6, v.goods.size() < 5);
                    at++;
                    fresh(v, v.goods);
                    expect("value");
                    v.value[v.goods.size() - 1] = number(1, 99);
                    int stock = 10;
                    if (sees("stock")) {
                        at++;
                        stock = number(0, 999);
                    }
                    v.stock[v.goods.size() - 1] = stock;
                }
                case "person" -> {
                    here(6, v.people.size() < 5);
                    at++;
                    fresh(v, v.people);
                    if (sees("silver")) {
                        at++;
                        v.silver[v.people.size() - 1] = number(0, 9999);
                    }
                }
                case "has" -> {
                    at++;
                    int p = old(v.people);
                    int k = old(v.kinds);
                    v.sheets[0][p][k] = number(0, 999);
                }
                default -> here(2, false);
            }
            expect(";");
        }
        v.level = 1 + v.out() / v.calm;
        return v;
    }

    private int stepCount;

    private List<Step> parseSteps(int depth) {
        List<Step> list = new ArrayList<>();
        while (peek().sort != 'e' && !(depth > 0 && sees("end"))) {
            Step s = new Step();
            s.word = peek().text;
            here(2, List.of("pay", "buy", "sell", "tear", "mend", "month", "any", "when", "loop", "stop").contains(s.word));
            stepCount++;
            here(6, stepCount <= 30);
            boolean block = s.word.equals("when") || s.word.equals("loop");
            here(7, !block || depth < 3);
            at++;
            switch (s.word) {
                case "pay", "tear", "mend" -> {
                    s.a = old(w.people);
                    s.b = old(w.kinds);
                    s.n = number(1, 99);
                }
                case "buy", "sell" -> {
                    s.a = old(w.people);
                    s.b = old(w.goods);
                    s.n = number(1, 99);
                }
                case "month" -> s.n = number(1, 20);
                case "loop" -> s.n = number(1, 99);
                case "when" -> parseTest(s);
                default -> { }
            }
            expect(";");
            if (block) {
                s.body.addAll(parseSteps(depth + 1));
                expect("end");
                expect(";");
            }
            list.add(s);
        }
        return list;
    }

    private void parseTest(Step s) {
        s.test = peek().text;
        here(2, List.of("level", "holds", "left").contains(s.test));
        at++;
        if (s.test.equals("holds")) {
            s.a = old(w.people);
        } else if (s.test.equals("left")) {
            s.a = old(w.goods);
        }
        s.sign = peek().text;
        here(2, List.of("<", ">", "=").contains(s.sign));
        at++;
        s.n = number(0, s.test.equals("level") ? 999 : 9999);
    }

    private long text(int n, int most, LongSupplier parse) {
        range(n, 0, Math.min(most, tape.size()));
        tokenise(n);
        try {
            long v = parse.getAsLong();
            faultKind = 0;
            faultPlace = -1;
            return v;
        } catch (Fault f) {
            faultKind = f.kind;
            faultPlace = f.place;
            throw new Refused(9);
        }
    }

    public int land(int n) {
        return (int) ask(() -> text(n, 900, () -> {
            w = parseLand();
            return w.people.size();
        }));
    }

    public int reigns(int n) {
        return (int) ask(() -> text(n, 300, () -> {
            stepCount = 0;
            w.reigns = parseSteps(0);
            return stepCount;
        }));
    }

    public int fault(int what) {
        return what == 0 ? faultKind : what == 1 ? faultPlace : -1;
    }

    public int told(int what) {
        return (int) ask(() -> {
            range(what, 0, 11);
            long[] all = {w.kinds.size(), w.goods.size(), w.people.size(), w.calm, w.fee, w.war, w.month, w.level, w.out(), w.soldiers,
                Math.min(999999999, w.printed), Math.min(999999999, w.burned)};
            return all[what];
        });
    }

    public int kind(int kind) {
        return (int) ask(() -> {
            kindIs(kind);
            return w.worth[kind];
        });
    }

    public int good(int good, int what) {
        return (int) ask(() -> {
            goodIs(good);
            range(what, 0, 2);
            return new long[] {w.value[good], w.stock[good], (long) w.value[good] * w.level}[what];
        });
    }

    public int sheets(int person, int kind, int what) {
        return (int) ask(() -> {
            personIs(person);
            kindIs(kind);
            range(what, 0, 1);
            return w.sheets[what][person][kind];
        });
    }

    public int goods(int person, int good) {
        return (int) ask(() -> {
            personIs(person);
            goodIs(good);
            return w.owned[person][good];
        });
    }

    public int silver(int person) {
        return (int) ask(() -> {
            personIs(person);
            return w.silver[person];
        });
    }

    public int worth(int person, int what) {
        return (int) ask(() -> {
            personIs(person);
            range(what, 0, 1);
            return w.worthOf(what, person);
        });
    }

    public int richest() {
        return (int) ask(() -> {
            need(!w.people.isEmpty(), 6);
            int best = 0;
            for (int p = w.people.size() - 1; p >= 0; p--) {
                if (w.worthOf(0, p) >= w.worthOf(0, best)) {
                    best = p;
                }
            }
            return best;
        });
    }

    // ---- paying

    private static boolean better(int[] a, int[] b) {
        if (b == null) {
            return true;
        }
        int na = 0;
        int nb = 0;
        for (int i = 0; i < a.length; i++) {
            na += a[i];
            nb += b[i];
        }
        if (na != nb) {
            return na < nb;
        }
        for (int i = 0; i < a.length; i++) {
            if (a[i] != b[i]) {
                return a[i] > b[i];
            }
        }
        return false;
    }

    /** All ways, one by one; null if there is none. */
    private static int[] bestWay(int[] worth, int[] have, int kinds, long sum) {
        if (sum < 0 || sum > 999) {
            return null;
        }
        int[][] best = new int[1][];
        tryKinds(worth, have, kinds, 0, (int) sum, new int[kinds], best);
        return best[0];
    }

    private static void tryKinds(int[] worth, int[] have, int kinds, int k, int sum, int[] now, int[][] best) {
        if (k == kinds) {
            if (sum == 0 && better(now, best[0])) {
                best[0] = now.clone();
            }
            return;
        }
        if (k == kinds - 1) {
            if (sum % worth[k] == 0 && sum / worth[k] <= have[k]) {
                now[k] = sum / worth[k];
                tryKinds(worth, have, kinds, k + 1, 0, now, best);
                now[k] = 0;
            }
            return;
        }
        for (int c = 0; c <= have[k] && c * worth[k] <= sum; c++) {
            now[k] = c;
            tryKinds(worth, have, kinds, k + 1, sum - c * worth[k], now, best);
        }
        now[k] = 0;
    }

    private static int[] wayOf(World v, int p, long sum) {
        return bestWay(v.worth, v.sheets[0][p], v.kinds.size(), sum);
    }

    private static int[] anyWay(World v, long sum) {
        return bestWay(v.worth, new int[] {9999, 9999, 9999, 9999}, v.kinds.size(), sum);
    }

    private static int total(int[] way) {
        int n = 0;
        for (int c : way) {
            n += c;
        }
        return n;
    }

    // ---- deeds, each on a world that may be another than the land's

    private static int doPay(World v, int p, int k, int n) {
        need(v.sheets[0][p][k] + n <= 9999, 7);
        v.sheets[0][p][k] += n;
        v.printed += n * v.worth[k];
        return v.sheets[0][p][k];
    }

    private static int doBuy(World v, int p, int g, int n) {
        long sum = (long) n * v.value[g] * v.level;
        need(v.stock[g] >= n && v.owned[p][g] + n <= 9999, 7);
        int[] way = wayOf(v, p, sum);
        need(way != null, 7);
        for (int k = 0; k < way.length; k++) {
            v.sheets[0][p][k] -= way[k];
        }
        v.stock[g] -= n;
        v.owned[p][g] += n;
        v.burned += sum;
        return total(way);
    }

    private static int doSell(World v, int p, int g, int n) {
        long sum = (long) n * v.value[g] * v.level;
        need(v.owned[p][g] >= n && v.stock[g] + n <= 9999, 7);
        int[] way = anyWay(v, sum);
        need(way != null, 7);
        for (int k = 0; k < way.length; k++) {
            need(v.sheets[0][p][k] + way[k] <= 9999, 7);
        }
        for (int k = 0; k < way.length; k++) {
            v.sheets[0][p][k] += way[k];
        }
        v.stock[g] += n;
        v.owned[p][g] -= n;
        v.printed += sum;
        return total(way);
    }

    private static int doTear(World v, int p, int k, int n) {
        need(v.sheets[0][p][k] >= n && v.sheets[1][p][k] + n <= 9999, 7);
        v.sheets[0][p][k] -= n;
        v.sheets[1][p][k] += n;
        return v.sheets[1][p][k];
    }

    private static int doMend(World v, int p, int k, int n) {
        need(v.sheets[1][p][k] >= n, 7);
        int before = v.out();
        int back = n - (int) Math.ceil(n * v.fee / 100.0 - 1e-9);
        v.sheets[1][p][k] -= n;
        int room = 9999 - v.sheets[0][p][k];
        if (back > room) {
            back = room;
        }
        v.sheets[0][p][k] += back;
        v.burned += before - v.out();
        return back;
    }

    private static int doMonths(World v, int n) {
        need(v.month + n <= 9999, 4);
        for (int i = 0; i < n; i++) {
            v.soldiers += v.war;
            v.printed += v.war;
            v.level = 1 + v.out() / v.calm;
            v.month++;
        }
        return v.level;
    }

    private void deedOf(int person, int kind, int n) {
        personIs(person);
        kindIs(kind);
        range(n, 1, 999);
    }

    private void tradeOf(int person, int good, int n) {
        personIs(person);
        goodIs(good);
        range(n, 1, 999);
    }

    public int pay(int person, int kind, int n) {
        return (int) ask(() -> {
            deedOf(person, kind, n);
            return doPay(w, person, kind, n);
        });
    }

    public int buy(int person, int good, int n) {
        return (int) ask(() -> {
            tradeOf(person, good, n);
            return doBuy(w, person, good, n);
        });
    }

    public int sell(int person, int good, int n) {
        return (int) ask(() -> {
            tradeOf(person, good, n);
            return doSell(w, person, good, n);
        });
    }

    public int tear(int person, int kind, int n) {
        return (int) ask(() -> {
            deedOf(person, kind, n);
            return doTear(w, person, kind, n);
        });
    }

    public int mend(int person, int kind, int n) {
        return (int) ask(() -> {
            deedOf(person, kind, n);
            return doMend(w, person, kind, n);
        });
    }

    public boolean give(int person, int other, int kind, int n) {
        return does(() -> {
            deedOf(person, kind, n);
            personIs(other);
            need(person != other, 1);
            need(w.sheets[0][person][kind] >= n && w.sheets[0][other][kind] + n <= 9999, 7);
            w.sheets[0][person][kind] -= n;
            w.sheets[0][other][kind] += n;
            return 0;
        });
    }

    public int burn(int person, int kind, int n) {
        return (int) ask(() -> {
            deedOf(person, kind, n);
            need(w.sheets[0][person][kind] >= n, 7);
            w.burned += n * w.worth[kind];
            return w.sheets[0][person][kind] -= n;
        });
    }

    public int cross(int person, int kind, int n) {
        return (int) ask(() -> {
            deedOf(person, kind, n);
            need(w.sheets[0][person][kind] >= n, 7);
            int got = n * w.worth[kind] / w.level;
            need(w.silver[person] + got <= 99999, 7);
            w.sheets[0][person][kind] -= n;
            w.silver[person] += got;
            return got;
        });
    }

    private static void doRenew(World v, int k) {
        for (int p = 0; p < v.people.size(); p++) {
            int old = v.sheets[0][p][k] + v.sheets[1][p][k];
            v.burned += old * v.worth[k];
            v.sheets[0][p][k] = 0;
            v.sheets[1][p][k] = 0;
            for (int i = 0; i < old / 5 && v.sheets[0][p][k + 1] < 9999; i++) {
                v.sheets[0][p][k + 1]++;
                v.printed += v.worth[k + 1];
            }
        }
    }

    public int renew(int kind) {
        return (int) ask(() -> {
            kindIs(kind);
            need(kind < w.kinds.size() - 1, 7);
            int before = w.out();
            doRenew(w, kind);
            return before - w.out();
        });
    }

    public int month(int many) {
        return (int) ask(() -> {
            range(many, 1, 99);
            return doMonths(w, many);
        });
    }

    public boolean rule(int what, int much) {
        return does(() -> {
            range(what, 0, 2);
            if (what == 0) {
                range(much, 10, 9999);
                w.calm = much;
            } else if (what == 1) {
                range(much, 0, 50);
                w.fee = much;
            } else {
                range(much, 0, 999);
                w.war = much;
            }
            return 0;
        });
    }

    public int bring(int good, int much) {
        return (int) ask(() -> {
            goodIs(good);
            range(much, 1, 999);
            need(w.stock[good] + much <= 9999, 7);
            return w.stock[good] += much;
        });
    }

    // ---- what would be

    public int room() {
        return (int) ask(() -> {
            long most = (long) w.calm * w.level - 1 - w.out();
            return most < 0 ? 0 : Math.min(most, 999999999);
        });
    }

    private int levelLater(int months) {
        World v = w.copy();
        v.month = 0;
        return months == 0 ? v.level : doMonths(v, months);
    }

    public int levelIn(int months) {
        return (int) ask(() -> {
            range(months, 0, 999);
            return levelLater(months);
        });
    }

    public int monthsTill(int level) {
        return (int) ask(() -> {
            range(level, 1, 999);
            World v = w.copy();
            v.month = 0;
            for (int m = 1; m <= 999; m++) {
                if (doMonths(v, 1) > level) {
                    return m;
                }
            }
            throw new Refused(6);
        });
    }

    public int fewest(int person, int sum) {
        return (int) ask(() -> {
            personIs(person);
            range(sum, 0, 999);
            int[] way = wayOf(w, person, sum);
            need(way != null, 6);
            return total(way);
        });
    }

    public int payWith(int person, int sum, int kind) {
        return (int) ask(() -> {
            personIs(person);
            kindIs(kind);
            range(sum, 0, 999);
            int[] way = wayOf(w, person, sum);
            need(way != null, 6);
            return way[kind];
        });
    }

    /** Every sum up to 999 that can be PAID, by laying down sheet after sheet. */
    private boolean[] sums(int person) {
        boolean[] can = new boolean[1000];
        can[0] = true;
        for (int k = 0; k < w.kinds.size(); k++) {
            for (int i = 0; i < Math.min(999, w.sheets[0][person][k]); i++) {
                boolean more = false;
                for (int s = 999; s >= w.worth[k]; s--) {
                    if (can[s - w.worth[k]] && !can[s]) {
                        can[s] = true;
                        more = true;
                    }
                }
                if (!more) {
                    break;
                }
            }
        }
        return can;
    }

    public int payable(int person) {
        return (int) ask(() -> {
            personIs(person);
            int n = 0;
            for (boolean b : sums(person)) {
                n += b ? 1 : 0;
            }
            return n - 1;
        });
    }

    public int firstNot(int person) {
        return (int) ask(() -> {
            personIs(person);
            boolean[] can = sums(person);
            for (int s = 1; s <= 999 && s <= w.worthOf(0, person); s++) {
                if (!can[s]) {
                    return s;
                }
            }
            throw new Refused(6);
        });
    }

    public int couldBuy(int person, int good) {
        return (int) ask(() -> {
            personIs(person);
            goodIs(good);
            int most = 0;
            for (int n = 1; n <= 999 && (long) n * w.value[good] * w.level <= 999; n++) {
                try {
                    doBuy(w.copy(), person, good, n);
                    most = n;
                } catch (Refused r) {
                    continue;
                }
            }
            return most;
        });
    }

    private static long waysTo(long[] sizes, int k, long sum, Map<Long, Long> known) {
        if (k == sizes.length) {
            return sum == 0 ? 1 : 0;
        }
        long key = k * 10000L + sum;
        Long old = known.get(key);
        if (old != null) {
            return old;
        }
        long n = 0;
        for (long c = 0; c * sizes[k] <= sum; c++) {
            n += waysTo(sizes, k + 1, sum - c * sizes[k], known);
        }
        known.put(key, n);
        return n;
    }

    private long[] prices() {
        long[] prices = new long[w.goods.size()];
        for (int g = 0; g < prices.length; g++) {
            prices[g] = (long) w.value[g] * w.level;
        }
        return prices;
    }

    public long changes(int sum) {
        return ask(() -> {
            range(sum, 0, 999);
            long[] sizes = new long[w.kinds.size()];
            for (int k = 0; k < sizes.length; k++) {
                sizes[k] = w.worth[k];
            }
            return waysTo(sizes, 0, sum, new HashMap<>());
        });
    }

    public int leastSheets(int sum) {
        return (int) ask(() -> {
            range(sum, 0, 999);
            int[] way = anyWay(w, sum);
            need(way != null, 6);
            return total(way);
        });
    }

    public long baskets(int sum) {
        return ask(() -> {
            range(sum, 0, 999);
            return waysTo(prices(), 0, sum, new HashMap<>());
        });
    }

    public int mostValue(int sum) {
        return (int) ask(() -> {
            range(sum, 0, 999);
            for (int s = sum; ; s--) {
                if (waysTo(prices(), 0, s, new HashMap<>()) > 0) {
                    return s / w.level;
                }
            }
        });
    }

    private int loss(int person, int kind) {
        World v = w.copy();
        doRenew(v, kind);
        return w.worthOf(0, person) + w.worthOf(1, person) - v.worthOf(0, person) - v.worthOf(1, person);
    }

    public int loses(int person, int kind) {
        return (int) ask(() -> {
            personIs(person);
            kindIs(kind);
            need(kind < w.kinds.size() - 1, 7);
            return loss(person, kind);
        });
    }

    public int losers(int kind) {
        return (int) ask(() -> {
            kindIs(kind);
            need(kind < w.kinds.size() - 1, 7);
            int set = 0;
            for (int p = 0; p < w.people.size(); p++) {
                set += loss(p, kind) > 0 ? 1 << p : 0;
            }
            return set;
        });
    }

    public int keptOf(int n) {
        return (int) ask(() -> {
            range(n, 1, 9999);
            int kept = 0;
            while (kept * 100 < n * w.fee) {
                kept++;
            }
            return kept;
        });
    }

    private static BigInteger[] found(int n, int m, int k) {
        BigInteger none = BigInteger.ONE;
        BigInteger all = BigInteger.ONE;
        for (int i = 0; i < k; i++) {
            none = none.multiply(BigInteger.valueOf(Math.max(0, n - m - i)));
            all = all.multiply(BigInteger.valueOf(n - i));
        }
        return new BigInteger[] {all.subtract(none), all};
    }

    public boolean forged(int n, int m, int k) {
        return does(() -> {
            range(n, 1, 30);
            range(m, 0, n);
            range(k, 0, n);
            BigInteger[] f = found(n, m, k);
            fraction(f[0], f[1]);
            return 0;
        });
    }

    public int looks(int n, int m) {
        return (int) ask(() -> {
            range(n, 1, 30);
            range(m, 0, n);
            for (int k = 0; k <= n; k++) {
                BigInteger[] f = found(n, m, k);
                if (f[0].shiftLeft(1).compareTo(f[1]) >= 0) {
                    return k;
                }
            }
            throw new Refused(6);
        });
    }

    /** Least UNREST and what is printed first by it, over all rows of choices. */
    private int[] bestPlan(int months, int need) {
        range(months, 1, 5);
        range(need, 0, 999);
        int rows = (int) Math.pow(5, months);
        int[] best = {Integer.MAX_VALUE, 0};
        for (int row = 0; row < rows; row++) {
            int rest = row;
            int out = w.out();
            int unrest = 0;
            int first = -1;
            for (int m = 0; m < months; m++) {
                int q = rest % 5;
                rest /= 5;
                int print = q == 4 ? need : (int) Math.floor(need * q / 4.0);
                first = first < 0 ? print : first;
                out += print;
                int level = 1 + out / w.calm;
                unrest += need - print + 10 * (level - 1);
            }
            if (unrest < best[0] || unrest == best[0] && first < best[1]) {
                best = new int[] {unrest, first};
            }
        }
        return best;
    }

    public int plan(int months, int need) {
        return (int) ask(() -> bestPlan(months, need)[0]);
    }

    public int planFirst(int months, int need) {
        return (int) ask(() -> bestPlan(months, need)[1]);
    }

    /** What the first of all gains over the second; which of both is to buy is told by the turn. */
    private static int play(World v, int one, int two, int turn, int turns) {
        if (turn == turns) {
            return 0;
        }
        boolean firsts = turn % 2 == 0;
        int best = play(v, one, two, turn + 1, turns);
        for (int g = 0; g < v.goods.size(); g++) {
            World u = v.copy();
            try {
                doBuy(u, firsts ? one : two, g, 1);
            } catch (Refused r) {
                continue;
            }
            int later = play(u, one, two, turn + 1, turns);
            best = firsts ? Math.max(best, later + v.value[g]) : Math.min(best, later - v.value[g]);
        }
        return best;
    }

    public int game(int person, int other, int turns) {
        return (int) ask(() -> {
            personIs(person);
            personIs(other);
            need(person != other, 1);
            range(turns, 0, 3);
            return play(w, person, other, 0, turns);
        });
    }

    public int moveOf(int person, int other, int turns) {
        return (int) ask(() -> {
            personIs(person);
            personIs(other);
            need(person != other, 1);
            range(turns, 1, 3);
            int best = play(w, person, other, 0, turns);
            for (int g = 0; g < w.goods.size(); g++) {
                World u = w.copy();
                try {
                    doBuy(u, person, g, 1);
                } catch (Refused r) {
                    continue;
                }
                if (play(u, person, other, 1, turns) + w.value[g] == best) {
                    return g;
                }
            }
            throw new Refused(6);
        });
    }

    public int copySheets(int person, int tray) {
        return (int) ask(() -> {
            personIs(person);
            range(tray, 0, 3);
            need(trays[tray] != null, 2);
            need(trays[tray].length >= w.kinds.size(), 3);
            for (int k = 0; k < w.kinds.size(); k++) {
                trays[tray][k] = cut(sorts[tray], w.sheets[0][person][k]);
            }
            return w.kinds.size();
        });
    }

    public int count(int tray) {
        return (int) ask(() -> {
            range(tray, 0, 3);
            need(trays[tray] != null, 2);
            need(trays[tray].length >= w.kinds.size(), 3);
            long sum = 0;
            for (int k = 0; k < w.kinds.size(); k++) {
                need(trays[tray][k] >= 0 && trays[tray][k] <= 9999, 5);
                sum += trays[tray][k] * w.worth[k];
            }
            return sum;
        });
    }

    // ---- reigns

    private final class Living {
        final World v;
        long s;
        int done = 0;
        int[] told = new int[5];

        Living(World v, int seed) {
            this.v = v;
            this.s = seed;
        }

        int draw(int n) {
            s = (s * 3079 + 11299) % 65536;
            return (int) (s / 8 % n);
        }

        void run() {
            long before = v.printed;
            try {
                doAll(v.reigns);
            } catch (Halt h) {
                done += 0;
            }
            told[3] = (int) (v.printed - before);
        }

        void doAll(List<Step> steps) {
            for (Step step : steps) {
                if (done == 300) {
                    told[4] = 1;
                    throw new Halt();
                }
                done++;
                if (step.word.equals("stop")) {
                    throw new Halt();
                } else if (step.word.equals("loop")) {
                    for (int i = 0; i < step.n; i++) {
                        doAll(step.body);
                    }
                } else if (step.word.equals("when")) {
                    int seen = step.test.equals("level") ? v.level : step.test.equals("holds") ? v.worthOf(0, step.a) : v.stock[step.a];
                    int c = Integer.compare(seen, step.n);
                    if (step.sign.equals(c < 0 ? "<" : c > 0 ? ">" : "=")) {
                        doAll(step.body);
                    }
                } else {
                    tryOne(step);
                }
            }
        }

        void tryOne(Step step) {
            try {
                doOne(step);
            } catch (Refused r) {
                told[0]++;
            }
        }

        void doOne(Step step) {
            switch (step.word) {
                case "pay" -> doPay(v, step.a, step.b, step.n);
                case "sell" -> doSell(v, step.a, step.b, step.n);
                case "tear" -> doTear(v, step.a, step.b, step.n);
                case "mend" -> doMend(v, step.a, step.b, step.n);
                case "buy" -> {
                    doBuy(v, step.a, step.b, step.n);
                    told[2] += step.n;
                }
                case "month" -> {
                    doMonths(v, step.n);
                    told[1] += step.n;
                }
                default -> {
                    need(!v.people.isEmpty() && !v.goods.isEmpty(), 7);
                    int p = draw(v.people.size());
                    int g = draw(v.goods.size());
                    doBuy(v, p, g, 1);
                    told[2]++;
                }
            }
        }
    }

    public int live(int seed) {
        return (int) ask(() -> {
            range(seed, 0, 9999);
            need(w.reigns != null, 6);
            Living l = new Living(w, seed);
            l.run();
            lived = l.told;
            return l.done;
        });
    }

    public int lived(int what) {
        return (int) ask(() -> {
            range(what, 0, 4);
            need(lived != null, 6);
            return lived[what];
        });
    }

    public boolean mean(int seed, int many) {
        return does(() -> {
            range(seed, 0, 9999);
            range(many, 1, 20);
            range(seed + many - 1, 0, 9999);
            need(w.reigns != null, 6);
            long sum = 0;
            for (int i = 0; i < many; i++) {
                Living l = new Living(w.copy(), seed + i);
                l.run();
                sum += l.v.out();
            }
            fraction(BigInteger.valueOf(sum), BigInteger.valueOf(many));
            return 0;
        });
    }

    // ---- marks

    public int mark() {
        return (int) ask(() -> {
            need(marks.size() < 3, 4);
            marks.add(w.copy());
            return marks.size();
        });
    }

    public int undo() {
        return (int) ask(() -> {
            need(!marks.isEmpty(), 6);
            w = marks.remove(marks.size() - 1);
            return marks.size();
        });
    }
}
