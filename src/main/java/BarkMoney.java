/**
 * A land that pays in sheets of bark. The numbered promises of the document
 * say what each call answers; words in capitals are the document's terms.
 */
public final class BarkMoney {

    public static final int NONE = -1;

    private static final int MAX_KINDS = 4;
    private static final int MAX_GOODS = 5;
    private static final int MAX_PEOPLE = 5;
    /** CALM, FEE and WAR, as rule() and the words of a LAND number them. */
    private static final int[] LEAST_RULE = {10, 0, 0};
    private static final int[] MOST_RULE = {9999, 50, 999};
    private static final int RULES = 3;
    private static final int MAX_HELD = 9999;
    private static final int MAX_SILVER = 99999;
    private static final int MAX_MONTH = 9999;
    private static final int MAX_SUM = 999;
    private static final int MAX_AT_ONCE = 999;
    private static final int MAX_SEED = 9999;
    private static final long MAX_TOLD = 999999999L;

    private static final int TAPE_BYTES = 900;
    private static final int REIGNS_BYTES = 300;
    private static final int MAX_STEPS = 30;
    private static final int MAX_LINES = 2 * MAX_STEPS;
    private static final int MAX_NESTED = 3;
    private static final int MAX_STEPS_DONE = 300;
    private static final int MAX_MARKS = 3;
    private static final int TRAYS = 4;
    private static final int TRAY_PLACES = 60;

    private static final int FINE = 0;
    private static final int BAD_NUMBER = 1;
    private static final int TRAY_MISSING = 2;
    private static final int NO_PLACE = 3;
    private static final int ONE_TOO_MANY = 4;
    private static final int BAD_CONTENT = 5;
    private static final int NONE_SUCH = 6;
    private static final int CANNOT_BE = 7;
    private static final int UNLIKE_SORTS = 8;
    private static final int FAULTY = 9;

    private int lastStatus;
    private long fractionTop;
    private long fractionBottom;
    private final Tray[] trays;
    private final TextReader tape;
    private int tapeBytes;
    private int faultKind;
    private int faultPlace;
    private Land realm;
    private Land spareRealm;
    private Reigns story;
    private Reigns spareStory;
    private final Land[] markedRealms;
    private final Reigns[] markedStories;
    private int marks;
    private final Teller teller;
    private final Match match;
    private final Life lastLife;
    private final Life trialLife;
    private boolean everLived;

    public BarkMoney() {
        lastStatus = FINE;
        fractionTop = 0;
        fractionBottom = 1;
        trays = new Tray[TRAYS];
        for (int i = 0; i < TRAYS; i++) {
            trays[i] = new Tray();
        }
        tape = new TextReader();
        tapeBytes = 0;
        faultKind = NONE;
        faultPlace = NONE;
        realm = new Land();
        spareRealm = new Land();
        story = new Reigns();
        spareStory = new Reigns();
        markedRealms = new Land[MAX_MARKS];
        markedStories = new Reigns[MAX_MARKS];
        for (int i = 0; i < MAX_MARKS; i++) {
            markedRealms[i] = new Land();
            markedStories[i] = new Reigns();
        }
        marks = 0;
        teller = new Teller();
        match = new Match(teller);
        lastLife = new Life(teller);
        trialLife = new Life(teller);
        everLived = false;
    }

    public int status() {
        return lastStatus;
    }

    public long top() {
        return fractionTop;
    }

    public long bottom() {
        return fractionBottom;
    }

    // ---- TRAYS

    public boolean tray(int tray, int sort, int many) {
        if (!isTray(tray) || !within(sort, 0, 3) || !within(many, 0, TRAY_PLACES)) {
            return refused(BAD_NUMBER);
        }
        trays[tray].begin(sort, many);
        return agreed();
    }

    public boolean write(int tray, int place, long v) {
        int wrong = wrongPlace(tray, place);
        if (wrong != FINE) {
            return refused(wrong);
        }
        trays[tray].put(place, v);
        return agreed();
    }

    public long read(int tray, int place) {
        int wrong = wrongPlace(tray, place);
        if (wrong != FINE) {
            return refuse(wrong);
        }
        lastStatus = FINE;
        return trays[tray].numbers[place];
    }

    public boolean pour(int from, int place, int to, int at, int many) {
        if (!isTray(from) || !isTray(to) || place < 0 || at < 0 || many < 0) {
            return refused(BAD_NUMBER);
        }
        Tray source = trays[from];
        Tray goal = trays[to];
        if (source.isMissing() || goal.isMissing()) {
            return refused(TRAY_MISSING);
        }
        if (source.sort != goal.sort) {
            return refused(UNLIKE_SORTS);
        }
        if ((long) place + many > source.length || (long) at + many > goal.length) {
            return refused(NO_PLACE);
        }
        System.arraycopy(source.numbers, place, goal.numbers, at, many);
        return agreed();
    }

    // ---- texts

    public int feed(int a, int b, int c, int d, int e) {
        if (tapeBytes + 20 > TAPE_BYTES) {
            return NONE;
        }
        tape.putInt(tapeBytes, a);
        tape.putInt(tapeBytes + 4, b);
        tape.putInt(tapeBytes + 8, c);
        tape.putInt(tapeBytes + 12, d);
        tape.putInt(tapeBytes + 16, e);
        tapeBytes += 20;
        return tapeBytes;
    }

    public int land(int n) {
        if (!within(n, 0, tapeBytes)) {
            return refuse(BAD_NUMBER);
        }
        tape.open(n);
        spareRealm.clear();
        boolean taken = new LandText(tape, spareRealm).isTaken();
        if (!endText(taken)) {
            return refuse(FAULTY);
        }
        Land old = realm;
        realm = spareRealm;
        spareRealm = old;
        story.clear();
        return answer(realm.people);
    }

    public int reigns(int n) {
        if (!within(n, 0, Math.min(tapeBytes, REIGNS_BYTES))) {
            return refuse(BAD_NUMBER);
        }
        tape.open(n);
        spareStory.clear();
        boolean taken = new ReignsText(tape, realm, spareStory).isTaken();
        if (!endText(taken)) {
            return refuse(FAULTY);
        }
        Reigns old = story;
        story = spareStory;
        spareStory = old;
        return answer(story.steps);
    }

    public int fault(int what) {
        if (what == 0) {
            return faultKind;
        }
        return what == 1 ? faultPlace : NONE;
    }

    public int told(int what) {
        if (!within(what, 0, 11)) {
            return refuse(BAD_NUMBER);
        }
        return answer(what < 6 ? realm.toldOfText(what) : realm.toldOfTime(what));
    }

    public int kind(int kind) {
        if (!realm.hasKind(kind)) {
            return refuse(BAD_NUMBER);
        }
        return answer(realm.worths[kind]);
    }

    public int good(int good, int what) {
        if (!realm.hasGood(good) || !within(what, 0, 2)) {
            return refuse(BAD_NUMBER);
        }
        if (what == 0) {
            return answer(realm.values[good]);
        }
        return answer(what == 1 ? realm.stocks[good] : (int) realm.priceOf(good));
    }

    public int sheets(int person, int kind, int what) {
        if (!realm.hasPurse(person, kind) || !within(what, 0, 1)) {
            return refuse(BAD_NUMBER);
        }
        int place = Land.purse(person, kind);
        return answer(what == 0 ? realm.whole[place] : realm.torn[place]);
    }

    public int goods(int person, int good) {
        if (!realm.hasPerson(person) || !realm.hasGood(good)) {
            return refuse(BAD_NUMBER);
        }
        return answer(realm.owned[Land.chest(person, good)]);
    }

    public int silver(int person) {
        if (!realm.hasPerson(person)) {
            return refuse(BAD_NUMBER);
        }
        return answer(realm.silvers[person]);
    }

    public int worth(int person, int what) {
        if (!realm.hasPerson(person) || !within(what, 0, 1)) {
            return refuse(BAD_NUMBER);
        }
        return answer(realm.worthOf(what == 0 ? realm.whole : realm.torn, person));
    }

    public int richest() {
        if (realm.people == 0) {
            return refuse(NONE_SUCH);
        }
        int best = 0;
        for (int person = 1; person < realm.people; person++) {
            if (realm.wealthOf(person) > realm.wealthOf(best)) {
                best = person;
            }
        }
        return answer(best);
    }

    // ---- what is done

    public int pay(int person, int kind, int n) {
        if (!realm.hasPurse(person, kind) || !isAmount(n)) {
            return refuse(BAD_NUMBER);
        }
        return answerIfDone(realm.printFor(person, kind, n));
    }

    public int buy(int person, int good, int n) {
        if (!realm.hasPerson(person) || !realm.hasGood(good) || !isAmount(n)) {
            return refuse(BAD_NUMBER);
        }
        long way = realm.wayToBuy(teller, person, good, n);
        return answerIfDone(realm.purchase(person, good, n, way));
    }

    public int sell(int person, int good, int n) {
        if (!realm.hasPerson(person) || !realm.hasGood(good) || !isAmount(n)) {
            return refuse(BAD_NUMBER);
        }
        return answerIfDone(realm.takeGoods(teller, person, good, n));
    }

    public int tear(int person, int kind, int n) {
        if (!realm.hasPurse(person, kind) || !isAmount(n)) {
            return refuse(BAD_NUMBER);
        }
        return answerIfDone(realm.tearUp(person, kind, n));
    }

    public int mend(int person, int kind, int n) {
        if (!realm.hasPurse(person, kind) || !isAmount(n)) {
            return refuse(BAD_NUMBER);
        }
        return answerIfDone(realm.mendTorn(person, kind, n));
    }

    public boolean give(int person, int other, int kind, int n) {
        if (!realm.hasPurse(person, kind) || !realm.hasPerson(other) || person == other || !isAmount(n)) {
            return refused(BAD_NUMBER);
        }
        return realm.handOver(person, other, kind, n) ? agreed() : refused(CANNOT_BE);
    }

    public int burn(int person, int kind, int n) {
        if (!realm.hasPurse(person, kind) || !isAmount(n)) {
            return refuse(BAD_NUMBER);
        }
        return answerIfDone(realm.burnWhole(person, kind, n));
    }

    public int cross(int person, int kind, int n) {
        if (!realm.hasPurse(person, kind) || !isAmount(n)) {
            return refuse(BAD_NUMBER);
        }
        return answerIfDone(realm.carryOut(person, kind, n));
    }

    public int renew(int kind) {
        int wrong = wrongRenewal(kind);
        if (wrong != FINE) {
            return refuse(wrong);
        }
        int before = realm.outNow();
        realm.renewAll(kind);
        return answer(before - realm.outNow());
    }

    public int month(int many) {
        if (!within(many, 1, 99)) {
            return refuse(BAD_NUMBER);
        }
        if (!realm.passMonths(many)) {
            return refuse(ONE_TOO_MANY);
        }
        return answer(realm.level);
    }

    public boolean rule(int what, int much) {
        if (!within(what, 0, RULES - 1) || !within(much, LEAST_RULE[what], MOST_RULE[what])) {
            return refused(BAD_NUMBER);
        }
        realm.rules[what] = much;
        return agreed();
    }

    public int bring(int good, int much) {
        if (!realm.hasGood(good) || !isAmount(much)) {
            return refuse(BAD_NUMBER);
        }
        if (realm.stocks[good] + much > MAX_HELD) {
            return refuse(CANNOT_BE);
        }
        realm.stocks[good] += much;
        return answer(realm.stocks[good]);
    }

    // ---- what would be

    public int room() {
        long most = (long) realm.level * realm.rules[Land.CALM] - 1;
        return answer((int) Math.min(MAX_TOLD, Math.max(0, most - realm.outNow())));
    }

    public int levelIn(int months) {
        if (!within(months, 0, 999)) {
            return refuse(BAD_NUMBER);
        }
        return answer(months == 0 ? realm.level : realm.levelAfter(months, realm.outNow()));
    }

    public int monthsTill(int level) {
        if (!within(level, 1, 999)) {
            return refuse(BAD_NUMBER);
        }
        int out = realm.outNow();
        for (int months = 1; months <= 999; months++) {
            if (realm.levelAfter(months, out) > level) {
                return answer(months);
            }
        }
        return refuse(NONE_SUCH);
    }

    public int fewest(int person, int sum) {
        if (!realm.hasPerson(person) || !isSum(sum)) {
            return refuse(BAD_NUMBER);
        }
        long way = teller.wayFromPurse(realm, person, sum);
        return way == Teller.NO_WAY ? refuse(NONE_SUCH) : answer(Teller.sheetsIn(way));
    }

    public int payWith(int person, int sum, int kind) {
        if (!realm.hasPurse(person, kind) || !isSum(sum)) {
            return refuse(BAD_NUMBER);
        }
        long way = teller.wayFromPurse(realm, person, sum);
        return way == Teller.NO_WAY ? refuse(NONE_SUCH) : answer(Teller.sheetsOfKind(way, kind));
    }

    public int payable(int person) {
        if (!realm.hasPerson(person)) {
            return refuse(BAD_NUMBER);
        }
        teller.fillFromPurse(realm, person, MAX_SUM, realm.kinds);
        int many = 0;
        for (int sum = 1; sum <= MAX_SUM; sum++) {
            many += teller.isPayable(sum) ? 1 : 0;
        }
        return answer(many);
    }

    public int firstNot(int person) {
        if (!realm.hasPerson(person)) {
            return refuse(BAD_NUMBER);
        }
        int most = Math.min(MAX_SUM, realm.wealthOf(person));
        teller.fillFromPurse(realm, person, most, realm.kinds);
        for (int sum = 1; sum <= most; sum++) {
            if (!teller.isPayable(sum)) {
                return answer(sum);
            }
        }
        return refuse(NONE_SUCH);
    }

    public int couldBuy(int person, int good) {
        if (!realm.hasPerson(person) || !realm.hasGood(good)) {
            return refuse(BAD_NUMBER);
        }
        long price = realm.priceOf(good);
        int most = Math.min(MAX_AT_ONCE, realm.stocks[good]);
        most = Math.min(most, MAX_HELD - realm.owned[Land.chest(person, good)]);
        teller.fillFromPurse(realm, person, MAX_SUM, realm.kinds);
        for (int n = most; n >= 1; n--) {
            if (n * price <= MAX_SUM && teller.isPayable((int) (n * price))) {
                return answer(n);
            }
        }
        return answer(0);
    }

    public long changes(int sum) {
        if (!isSum(sum)) {
            return refuse(BAD_NUMBER);
        }
        lastStatus = FINE;
        teller.fillWithCounts(realm.worths, realm.kinds, sum);
        return teller.table[sum];
    }

    public int leastSheets(int sum) {
        if (!isSum(sum)) {
            return refuse(BAD_NUMBER);
        }
        long way = teller.wayOfPrint(realm, sum);
        return way == Teller.NO_WAY ? refuse(NONE_SUCH) : answer(Teller.sheetsIn(way));
    }

    public long baskets(int sum) {
        if (!isSum(sum)) {
            return refuse(BAD_NUMBER);
        }
        lastStatus = FINE;
        int level = Math.max(1, realm.level);
        if (sum % level != 0) {
            return 0;
        }
        teller.fillWithCounts(realm.values, realm.goods, sum / level);
        return teller.table[sum / level];
    }

    public int mostValue(int sum) {
        if (!isSum(sum)) {
            return refuse(BAD_NUMBER);
        }
        int value = sum / Math.max(1, realm.level);
        teller.fillWithCounts(realm.values, realm.goods, value);
        while (value > 0 && teller.table[value] == 0) {
            value--;
        }
        return answer(value);
    }

    public int loses(int person, int kind) {
        int wrong = realm.hasPerson(person) ? wrongRenewal(kind) : BAD_NUMBER;
        if (wrong != FINE) {
            return refuse(wrong);
        }
        return answer(realm.lossOf(person, kind));
    }

    public int losers(int kind) {
        int wrong = wrongRenewal(kind);
        if (wrong != FINE) {
            return refuse(wrong);
        }
        int set = 0;
        for (int person = 0; person < realm.people; person++) {
            if (realm.lossOf(person, kind) > 0) {
                set |= 1 << person;
            }
        }
        return answer(set);
    }

    public int keptOf(int n) {
        if (!within(n, 1, MAX_HELD)) {
            return refuse(BAD_NUMBER);
        }
        return answer(realm.keptFrom(n));
    }

    public boolean forged(int n, int m, int k) {
        if (!within(n, 1, 30) || !within(m, 0, n) || !within(k, 0, n)) {
            return refused(BAD_NUMBER);
        }
        long all = setsOf(n, k);
        tellFraction(all - setsOf(n - m, k), all);
        return agreed();
    }

    public int looks(int n, int m) {
        if (!within(n, 1, 30) || !within(m, 0, n)) {
            return refuse(BAD_NUMBER);
        }
        for (int k = 0; k <= n; k++) {
            long all = setsOf(n, k);
            if (2 * (all - setsOf(n - m, k)) >= all) {
                return answer(k);
            }
        }
        return refuse(NONE_SUCH);
    }

    public int plan(int months, int need) {
        if (!within(months, 1, 5) || !within(need, 0, 999)) {
            return refuse(BAD_NUMBER);
        }
        return answer(leastUnrest(months, realm.outNow(), need, realm.rules[Land.CALM]));
    }

    public int planFirst(int months, int need) {
        if (!within(months, 1, 5) || !within(need, 0, 999)) {
            return refuse(BAD_NUMBER);
        }
        int out = realm.outNow();
        int calm = realm.rules[Land.CALM];
        int least = leastUnrest(months, out, need, calm);
        int quarters = 0;
        while (quarters < 4 && unrestPrinting(quarters, months, out, need, calm) > least) {
            quarters++;
        }
        return answer(need * quarters / 4);
    }

    public int game(int person, int other, int turns) {
        if (!arePair(person, other) || !within(turns, 0, 3)) {
            return refuse(BAD_NUMBER);
        }
        return answer(match.lead(realm, person, other, turns));
    }

    public int moveOf(int person, int other, int turns) {
        if (!arePair(person, other) || !within(turns, 1, 3)) {
            return refuse(BAD_NUMBER);
        }
        int move = match.bestGood(realm, person, other, turns);
        return move == NONE ? refuse(NONE_SUCH) : answer(move);
    }

    public int copySheets(int person, int tray) {
        int wrong = realm.hasPerson(person) ? wrongForKinds(tray) : BAD_NUMBER;
        if (wrong != FINE) {
            return refuse(wrong);
        }
        for (int kind = 0; kind < realm.kinds; kind++) {
            trays[tray].put(kind, realm.whole[Land.purse(person, kind)]);
        }
        return answer(realm.kinds);
    }

    public int count(int tray) {
        int wrong = wrongForKinds(tray);
        if (wrong != FINE) {
            return refuse(wrong);
        }
        int sum = 0;
        for (int kind = 0; kind < realm.kinds; kind++) {
            long many = trays[tray].numbers[kind];
            if (many < 0 || many > MAX_HELD) {
                return refuse(BAD_CONTENT);
            }
            sum += (int) many * realm.worths[kind];
        }
        return answer(sum);
    }

    // ---- REIGNS

    public int live(int seed) {
        if (!within(seed, 0, MAX_SEED)) {
            return refuse(BAD_NUMBER);
        }
        if (!story.isThere) {
            return refuse(NONE_SUCH);
        }
        lastLife.unfold(realm, story, seed);
        everLived = true;
        return answer(lastLife.steps);
    }

    public int lived(int what) {
        if (!within(what, 0, 4)) {
            return refuse(BAD_NUMBER);
        }
        if (!everLived) {
            return refuse(NONE_SUCH);
        }
        return answer(lastLife.toldOf(what));
    }

    public boolean mean(int seed, int many) {
        if (!within(seed, 0, MAX_SEED) || !within(many, 1, 20) || seed + many - 1 > MAX_SEED) {
            return refused(BAD_NUMBER);
        }
        if (!story.isThere) {
            return refused(NONE_SUCH);
        }
        long sum = 0;
        for (int i = 0; i < many; i++) {
            spareRealm.copyFrom(realm);
            trialLife.unfold(spareRealm, story, seed + i);
            sum += spareRealm.outNow();
        }
        tellFraction(sum, many);
        return agreed();
    }

    // ---- MARKS

    public int mark() {
        if (marks >= MAX_MARKS) {
            return refuse(ONE_TOO_MANY);
        }
        markedRealms[marks].copyFrom(realm);
        markedStories[marks].copyFrom(story);
        marks++;
        return answer(marks);
    }

    public int undo() {
        if (marks <= 0) {
            return refuse(NONE_SUCH);
        }
        marks--;
        realm.copyFrom(markedRealms[marks]);
        story.copyFrom(markedStories[marks]);
        return answer(marks);
    }

    // ---- answers and what is asked ahead of them

    private int answer(int value) {
        lastStatus = FINE;
        return value;
    }

    private int refuse(int wrong) {
        lastStatus = wrong;
        return NONE;
    }

    private int answerIfDone(int value) {
        return value == NONE ? refuse(CANNOT_BE) : answer(value);
    }

    private boolean agreed() {
        lastStatus = FINE;
        return true;
    }

    private boolean refused(int wrong) {
        lastStatus = wrong;
        return false;
    }

    private static boolean within(int value, int least, int most) {
        return value >= least && value <= most;
    }

    private static boolean isAmount(int n) {
        return within(n, 1, MAX_AT_ONCE);
    }

    private static boolean isSum(int sum) {
        return within(sum, 0, MAX_SUM);
    }

    private static boolean isTray(int tray) {
        return within(tray, 0, TRAYS - 1);
    }

    private boolean arePair(int person, int other) {
        return realm.hasPerson(person) && realm.hasPerson(other) && person != other;
    }

    private int wrongPlace(int tray, int place) {
        if (!isTray(tray)) {
            return BAD_NUMBER;
        }
        if (trays[tray].isMissing()) {
            return TRAY_MISSING;
        }
        return place < 0 || place >= trays[tray].length ? NO_PLACE : FINE;
    }

    private int wrongForKinds(int tray) {
        if (!isTray(tray)) {
            return BAD_NUMBER;
        }
        if (trays[tray].isMissing()) {
            return TRAY_MISSING;
        }
        return trays[tray].length < realm.kinds ? NO_PLACE : FINE;
    }

    private int wrongRenewal(int kind) {
        if (!realm.hasKind(kind)) {
            return BAD_NUMBER;
        }
        return kind == realm.kinds - 1 ? CANNOT_BE : FINE;
    }

    /** A text that is read is off the tape, whether it was taken or not. */
    private boolean endText(boolean taken) {
        tapeBytes = 0;
        faultKind = taken ? 0 : tape.faultKind;
        faultPlace = taken ? NONE : tape.faultPlace;
        return taken;
    }

    // ---- numbers

    private void tellFraction(long top, long bottom) {
        long a = top;
        long b = bottom;
        // Euclid's steps on longs are fewer than a hundred
        for (int i = 0; i < 100 && b != 0; i++) {
            long rest = a % b;
            a = b;
            b = rest;
        }
        long divisor = Math.max(1, a);
        fractionTop = top / divisor;
        fractionBottom = bottom / divisor;
    }

    /** How many sets of k there are among n, both at most 30. */
    private static long setsOf(int n, int k) {
        if (k > n) {
            return 0;
        }
        long sets = 1;
        for (int i = 1; i <= k; i++) {
            sets = sets * (n - k + i) / i;
        }
        return sets;
    }

    private static int leastUnrest(int months, int out, int need, int calm) {
        if (months <= 0) {
            return 0;
        }
        int least = unrestPrinting(0, months, out, need, calm);
        for (int quarters = 1; quarters <= 4; quarters++) {
            least = Math.min(least, unrestPrinting(quarters, months, out, need, calm));
        }
        return least;
    }

    private static int unrestPrinting(int quarters, int months, int out, int need, int calm) {
        int printed = need * quarters / 4;
        int outThen = out + printed;
        int unrest = need - printed + 10 * (Land.levelBy(outThen, calm) - 1);
        return unrest + leastUnrest(months - 1, outThen, need, calm);
    }

    // ---- classes inside

    /** A row of numbers; the row stands from the first, so that no call makes one. */
    private static final class Tray {
        final long[] numbers = new long[TRAY_PLACES];
        int length = NONE;
        int sort;

        boolean isMissing() {
            return length == NONE;
        }

        void begin(int newSort, int many) {
            sort = newSort;
            length = many;
            for (int i = 0; i < TRAY_PLACES; i++) {
                numbers[i] = 0;
            }
        }

        void put(int place, long v) {
            if (place < 0 || place >= TRAY_PLACES) {
                return;
            }
            if (sort == 0) {
                numbers[place] = (byte) v;
            } else if (sort == 1) {
                numbers[place] = (short) v;
            } else {
                numbers[place] = sort == 2 ? (int) v : v;
            }
        }
    }

    /** The LAND: what its text told, and all that became of it. */
    private static final class Land {
        /** Names stand in one row: those of KINDS, then of GOODS, then of PEOPLE. */
        static final int KIND_NAMES = 0;
        static final int GOOD_NAMES = MAX_KINDS;
        static final int PERSON_NAMES = MAX_KINDS + MAX_GOODS;
        static final int ALL_NAMES = MAX_KINDS + MAX_GOODS + MAX_PEOPLE;

        static final int CALM = 0;
        static final int FEE = 1;
        static final int WAR = 2;

        int kinds;
        int goods;
        int people;
        int months;
        int level;
        int soldiers;
        long printed;
        long burned;
        final int[] rules = new int[RULES];
        final long[] names = new long[ALL_NAMES];
        final int[] worths = new int[MAX_KINDS];
        final int[] values = new int[MAX_GOODS];
        final int[] stocks = new int[MAX_GOODS];
        final int[] silvers = new int[MAX_PEOPLE];
        final int[] whole = new int[MAX_PEOPLE * MAX_KINDS];
        final int[] torn = new int[MAX_PEOPLE * MAX_KINDS];
        final int[] owned = new int[MAX_PEOPLE * MAX_GOODS];

        Land() {
            clear();
        }

        void clear() {
            kinds = 0;
            goods = 0;
            people = 0;
            rules[CALM] = 500;
            rules[FEE] = 3;
            rules[WAR] = 0;
            months = 0;
            level = 1;
            soldiers = 0;
            printed = 0;
            burned = 0;
            for (int i = 0; i < whole.length; i++) {
                whole[i] = 0;
                torn[i] = 0;
            }
            for (int i = 0; i < owned.length; i++) {
                owned[i] = 0;
            }
        }

        void copyFrom(Land other) {
            kinds = other.kinds;
            goods = other.goods;
            people = other.people;
            months = other.months;
            level = other.level;
            soldiers = other.soldiers;
            printed = other.printed;
            burned = other.burned;
            System.arraycopy(other.rules, 0, rules, 0, rules.length);
            System.arraycopy(other.names, 0, names, 0, names.length);
            System.arraycopy(other.worths, 0, worths, 0, worths.length);
            System.arraycopy(other.values, 0, values, 0, values.length);
            System.arraycopy(other.stocks, 0, stocks, 0, stocks.length);
            System.arraycopy(other.silvers, 0, silvers, 0, silvers.length);
            System.arraycopy(other.whole, 0, whole, 0, whole.length);
            System.arraycopy(other.torn, 0, torn, 0, torn.length);
            System.arraycopy(other.owned, 0, owned, 0, owned.length);
        }

        boolean hasKind(int kind) {
            return kind >= 0 && kind < kinds;
        }

        boolean hasGood(int good) {
            return good >= 0 && good < goods;
        }

        boolean hasPerson(int person) {
            return person >= 0 && person < people;
        }

        boolean hasPurse(int person, int kind) {
            return hasPerson(person) && hasKind(kind);
        }

        static int purse(int person, int kind) {
            return person * MAX_KINDS + kind;
        }

        static int chest(int person, int good) {
            return person * MAX_GOODS + good;
        }

        int toldOfText(int what) {
            switch (what) {
                case 0: return kinds;
                case 1: return goods;
                case 2: return people;
                case 3: return rules[CALM];
                case 4: return rules[FEE];
                default: return rules[WAR];
            }
        }

        int toldOfTime(int what) {
            switch (what) {
                case 6: return months;
                case 7: return level;
                case 8: return outNow();
                case 9: return soldiers;
                case 10: return (int) Math.min(MAX_TOLD, printed);
                default: return (int) Math.min(MAX_TOLD, burned);
            }
        }

        static int levelBy(int out, int calm) {
            return 1 + out / Math.max(1, calm);
        }

        /** LEVEL by an OUT to which WAR comes so often. */
        int levelAfter(int many, int out) {
            return levelBy(out + many * rules[WAR], rules[CALM]);
        }

        /** At most some 210 million, since all that is held has a limit. */
        int outNow() {
            int out = soldiers;
            for (int person = 0; person < people; person++) {
                out += worthOf(whole, person) + worthOf(torn, person);
            }
            return out;
        }

        int worthOf(int[] sheets, int person) {
            int sum = 0;
            for (int kind = 0; kind < kinds; kind++) {
                sum += sheets[purse(person, kind)] * worths[kind];
            }
            return sum;
        }

        int wealthOf(int person) {
            return worthOf(whole, person);
        }

        long priceOf(int good) {
            return (long) values[good] * level;
        }

        boolean passMonths(int many) {
            if (months + many > MAX_MONTH) {
                return false;
            }
            months += many;
            soldiers += many * rules[WAR];
            printed += (long) many * rules[WAR];
            // nothing else is done between these MONTHS, so only the last LEVEL is seen
            level = levelAfter(0, outNow());
            return true;
        }

        int printFor(int person, int kind, int n) {
            int place = purse(person, kind);
            if (whole[place] + n > MAX_HELD) {
                return NONE;
            }
            whole[place] += n;
            printed += (long) n * worths[kind];
            return whole[place];
        }

        /** The way in which n of a GOOD can be PAID, if STOCK and limits let it be bought. */
        long wayToBuy(Teller teller, int person, int good, int n) {
            if (stocks[good] < n || owned[chest(person, good)] + n > MAX_HELD) {
                return Teller.NO_WAY;
            }
            long sum = n * priceOf(good);
            return sum > MAX_SUM ? Teller.NO_WAY : teller.wayFromPurse(this, person, (int) sum);
        }

        /** Buys in the way that wayToBuy() found; how many sheets that takes. */
        int purchase(int person, int good, int n, long way) {
            if (way == Teller.NO_WAY) {
                return NONE;
            }
            burned += n * priceOf(good);
            tradeGoods(person, good, n, way);
            return Teller.sheetsIn(way);
        }

        /** Goods go to a PERSON (n below 0: back) and the sheets the other way. */
        void tradeGoods(int person, int good, int n, long way) {
            stocks[good] -= n;
            owned[chest(person, good)] += n;
            for (int kind = 0; kind < kinds; kind++) {
                int sheets = Teller.sheetsOfKind(way, kind);
                whole[purse(person, kind)] += n > 0 ? -sheets : sheets;
            }
        }

        int takeGoods(Teller teller, int person, int good, int n) {
            long sum = n * priceOf(good);
            if (owned[chest(person, good)] < n || stocks[good] + n > MAX_HELD || sum > MAX_SUM) {
                return NONE;
            }
            long way = teller.wayOfPrint(this, (int) sum);
            if (way == Teller.NO_WAY || !hasRoomFor(person, way)) {
                return NONE;
            }
            printed += sum;
            tradeGoods(person, good, -n, way);
            return Teller.sheetsIn(way);
        }

        boolean hasRoomFor(int person, long way) {
            for (int kind = 0; kind < kinds; kind++) {
                if (whole[purse(person, kind)] + Teller.sheetsOfKind(way, kind) > MAX_HELD) {
                    return false;
                }
            }
            return true;
        }

        int tearUp(int person, int kind, int n) {
            int place = purse(person, kind);
            if (whole[place] < n || torn[place] + n > MAX_HELD) {
                return NONE;
            }
            whole[place] -= n;
            torn[place] += n;
            return torn[place];
        }

        int keptFrom(int n) {
            return (n * rules[FEE] + 99) / 100;
        }

        int mendTorn(int person, int kind, int n) {
            int place = purse(person, kind);
            if (torn[place] < n) {
                return NONE;
            }
            int back = Math.min(n - keptFrom(n), MAX_HELD - whole[place]);
            torn[place] -= n;
            whole[place] += back;
            burned += (long) (n - back) * worths[kind];
            return back;
        }

        boolean handOver(int person, int other, int kind, int n) {
            int from = purse(person, kind);
            int to = purse(other, kind);
            if (whole[from] < n || whole[to] + n > MAX_HELD) {
                return false;
            }
            whole[from] -= n;
            whole[to] += n;
            return true;
        }

        int burnWhole(int person, int kind, int n) {
            int place = purse(person, kind);
            if (whole[place] < n) {
                return NONE;
            }
            whole[place] -= n;
            burned += (long) n * worths[kind];
            return whole[place];
        }

        int carryOut(int person, int kind, int n) {
            int place = purse(person, kind);
            int got = n * worths[kind] / Math.max(1, level);
            if (whole[place] < n || silvers[person] + got > MAX_SILVER) {
                return NONE;
            }
            whole[place] -= n;
            silvers[person] += got;
            return got;
        }

        /** How many sheets of the next KIND a PERSON has for those of this one. */
        int renewedFor(int person, int kind) {
            int old = whole[purse(person, kind)] + torn[purse(person, kind)];
            return Math.min(old / 5, MAX_HELD - whole[purse(person, kind + 1)]);
        }

        int lossOf(int person, int kind) {
            int old = whole[purse(person, kind)] + torn[purse(person, kind)];
            return old * worths[kind] - renewedFor(person, kind) * worths[kind + 1];
        }

        void renewAll(int kind) {
            for (int person = 0; person < people; person++) {
                int place = purse(person, kind);
                int fresh = renewedFor(person, kind);
                burned += (long) (whole[place] + torn[place]) * worths[kind];
                printed += (long) fresh * worths[kind + 1];
                whole[place] = 0;
                torn[place] = 0;
                whole[purse(person, kind + 1)] += fresh;
            }
        }

        /** The number of a name among those of one sort: KIND_NAMES, GOOD_NAMES or PERSON_NAMES. */
        int findName(long letters, int sort) {
            int many = kinds;
            if (sort != KIND_NAMES) {
                many = sort == GOOD_NAMES ? goods : people;
            }
            for (int i = 0; i < many; i++) {
                if (names[sort + i] == letters) {
                    return i;
                }
            }
            return NONE;
        }

        boolean isTakenName(long letters) {
            return findName(letters, KIND_NAMES) != NONE
                || findName(letters, GOOD_NAMES) != NONE
                || findName(letters, PERSON_NAMES) != NONE;
        }
    }

    /**
     * How sums are PAID. A way is one number: a sheet costs so much in it that
     * fewer sheets are always less, and each KIND takes a little off by its
     * rank, so that the least number is just the way that the document asks.
     */
    private static final class Teller {
        static final long NO_WAY = 1L << 60;
        static final long SHEET = 1L << 40;
        static final int KIND_BITS = 10;
        static final int KIND_MASK = (1 << KIND_BITS) - 1;

        final long[] table = new long[MAX_SUM + 1];

        static long costOf(int kind) {
            return SHEET - (1L << KIND_BITS * (MAX_KINDS - 1 - kind));
        }

        static int sheetsIn(long way) {
            return (int) ((way + SHEET - 1) / SHEET);
        }

        static int sheetsOfKind(long way, int kind) {
            long takenOff = sheetsIn(way) * SHEET - way;
            return (int) (takenOff >> KIND_BITS * (MAX_KINDS - 1 - kind)) & KIND_MASK;
        }

        boolean isPayable(int sum) {
            return table[sum] < NO_WAY;
        }

        void beginWays(int sum) {
            for (int i = 0; i <= sum; i++) {
                table[i] = NO_WAY;
            }
            table[0] = 0;
        }

        /** Only this sum is asked, so the last KIND needs no row of sums of its own. */
        long wayFromPurse(Land land, int person, int sum) {
            if (land.worthOf(land.whole, person) < sum) {
                return NO_WAY;
            }
            int last = land.kinds - 1;
            if (last < 0) {
                return 0;
            }
            fillFromPurse(land, person, sum, last);
            int worth = Math.max(1, land.worths[last]);
            int many = Math.min(land.whole[Land.purse(person, last)], sum / worth);
            long cost = costOf(last);
            long best = NO_WAY;
            for (int i = 0; i <= many; i++) {
                best = Math.min(best, table[sum - i * worth] + i * cost);
            }
            return best;
        }

        /**
         * The way in which a PERSON can PAY each sum up to this one by the first KINDS.
         * Bundles of 1, 2, 4 .. sheets and a rest make up every number of sheets that he has.
         */
        void fillFromPurse(Land land, int person, int sum, int kinds) {
            beginWays(sum);
            int reach = 0;
            for (int kind = 0; kind < kinds; kind++) {
                int worth = Math.max(1, land.worths[kind]);
                int many = Math.min(land.whole[Land.purse(person, kind)], sum / worth);
                if (reach == 0) {
                    reach = many * worth;
                    layAlone(worth, costOf(kind), many);
                    many = 0;
                }
                for (int bundle = 1; bundle <= MAX_SUM && many > 0; bundle *= 2) {
                    int size = Math.min(bundle, many);
                    reach = Math.min(sum, reach + size * worth);
                    addBundle(size * worth, size * costOf(kind), reach);
                    many -= size;
                }
            }
        }

        /** The first KIND that he has needs no bundles: there is one way to each of its sums. */
        void layAlone(int worth, long cost, int many) {
            for (int i = 1; i <= many; i++) {
                table[i * worth] = i * cost;
            }
        }

        /** From above, so that a bundle is not used twice. */
        void addBundle(int worth, long cost, int reach) {
            for (int sum = reach; sum >= worth; sum--) {
                long way = table[sum - worth] + cost;
                if (way < table[sum]) {
                    table[sum] = way;
                }
            }
        }

        long wayOfPrint(Land land, int sum) {
            beginWays(sum);
            for (int kind = 0; kind < land.kinds; kind++) {
                int worth = Math.max(1, land.worths[kind]);
                long cost = costOf(kind);
                for (int i = worth; i <= sum; i++) {
                    long way = table[i - worth] + cost;
                    if (way < table[i]) {
                        table[i] = way;
                    }
                }
            }
            return table[sum];
        }

        /** In how many ways each sum is made of any number of each size. */
        void fillWithCounts(int[] sizes, int many, int sum) {
            for (int i = 0; i <= sum; i++) {
                table[i] = 0;
            }
            table[0] = 1;
            for (int k = 0; k < many; k++) {
                int size = Math.max(1, sizes[k]);
                for (int i = size; i <= sum; i++) {
                    table[i] += table[i - size];
                }
            }
        }
    }

    /** The GAME of two who buy; what is tried on the LAND is taken back. */
    private static final class Match {
        /** Below every lead: no GOOD is worth more than 99, and there are three turns. */
        static final int CANNOT = -1000;

        final Teller teller;

        Match(Teller teller) {
            this.teller = teller;
        }

        /** By how much the one whose turn it is comes out ahead of the other. */
        private int lead(Land land, int mover, int rival, int turns) {
            if (turns <= 0) {
                return 0;
            }
            int best = -lead(land, rival, mover, turns - 1);
            for (int good = 0; good < land.goods; good++) {
                best = Math.max(best, leadBuying(land, mover, rival, turns, good));
            }
            return best;
        }

        private int leadBuying(Land land, int mover, int rival, int turns, int good) {
            long way = land.wayToBuy(teller, mover, good, 1);
            if (way == Teller.NO_WAY) {
                return CANNOT;
            }
            land.tradeGoods(mover, good, 1, way);
            int ahead = land.values[good] - lead(land, rival, mover, turns - 1);
            land.tradeGoods(mover, good, -1, way);
            return ahead;
        }

        int bestGood(Land land, int mover, int rival, int turns) {
            int best = NONE;
            int bestLead = CANNOT;
            for (int good = 0; good < land.goods; good++) {
                int ahead = leadBuying(land, mover, rival, turns, good);
                if (ahead > bestLead) {
                    best = good;
                    bestLead = ahead;
                }
            }
            return -lead(land, rival, mover, turns - 1) > bestLead ? NONE : best;
        }
    }

    /** The TOKENS of a text on the tape, and the first FAULT that is met. */
    private static final class TextReader {
        static final int WORD = 1;
        static final int NUMBER = 2;
        static final int TEXT_END = 3;
        static final int NO_TOKEN = 4;
        static final int BLANK = 5;
        static final int SEMICOLON = ';';
        static final int MAX_NAME_LETTERS = 8;
        static final int MAX_DIGITS = 4;

        /** The letters of each word of the language, as bytes of one number. */
        static final long[] WORDS = {
            0x63616c6dL /* calm */, 0x666565L /* fee */, 0x776172L /* war */,
            0x6b696e64L /* kind */, 0x776f727468L /* worth */, 0x676f6f64L /* good */,
            0x76616c7565L /* value */, 0x73746f636bL /* stock */, 0x706572736f6eL /* person */,
            0x73696c766572L /* silver */, 0x686173L /* has */, 0x706179L /* pay */,
            0x627579L /* buy */, 0x73656c6cL /* sell */, 0x74656172L /* tear */,
            0x6d656e64L /* mend */, 0x6d6f6e7468L /* month */, 0x616e79L /* any */,
            0x7768656eL /* when */, 0x6c6576656cL /* level */, 0x686f6c6473L /* holds */,
            0x6c656674L /* left */, 0x6c6f6f70L /* loop */, 0x656e64L /* end */,
            0x73746f70L /* stop */
        };
        static final int CALM = 0;
        static final int FEE = 1;
        static final int WAR = 2;
        static final int KIND = 3;
        static final int WORTH = 4;
        static final int GOOD = 5;
        static final int VALUE = 6;
        static final int STOCK = 7;
        static final int PERSON = 8;
        static final int SILVER = 9;
        static final int HAS = 10;
        static final int PAY = 11;
        static final int BUY = 12;
        static final int SELL = 13;
        static final int TEAR = 14;
        static final int MEND = 15;
        static final int MONTH = 16;
        static final int ANY = 17;
        static final int WHEN = 18;
        static final int LEVEL = 19;
        static final int HOLDS = 20;
        static final int LEFT = 21;
        static final int LOOP = 22;
        static final int END = 23;
        static final int STOP = 24;

        final byte[] text = new byte[TAPE_BYTES];
        int length;
        int start;
        int next;
        /** WORD, NUMBER, TEXT_END, NO_TOKEN, or the sign itself. */
        int token;
        long letters;
        int letterCount;
        /** Which of WORDS the token is, or NONE. */
        int word;
        int number;
        /** The NUMBER, or the place of the NAME, that was taken latest. */
        int taken;
        int faultKind;
        int faultPlace;

        void putInt(int place, int v) {
            if (place < 0 || place + 4 > TAPE_BYTES) {
                return;
            }
            text[place] = (byte) (v >> 24);
            text[place + 1] = (byte) (v >> 16);
            text[place + 2] = (byte) (v >> 8);
            text[place + 3] = (byte) v;
        }

        void open(int n) {
            length = Math.min(n, TAPE_BYTES);
            next = 0;
            faultKind = 0;
            faultPlace = NONE;
            advance();
        }

        /** What a byte is, or begins: one of the sorts above, or the sign itself. */
        int sortAt(int place) {
            if (place < 0 || place >= length) {
                return TEXT_END;
            }
            int c = text[place];
            if (c >= 'a' && c <= 'z') {
                return WORD;
            }
            if (c >= '0' && c <= '9') {
                return NUMBER;
            }
            if (c == SEMICOLON || c == '<' || c == '>' || c == '=') {
                return c;
            }
            return c == 10 || c == 32 ? BLANK : NO_TOKEN;
        }

        void advance() {
            while (next < length && sortAt(next) == BLANK) {
                next++;
            }
            start = next;
            token = sortAt(next);
            word = NONE;
            if (token == TEXT_END || token == NO_TOKEN) {
                return;
            }
            next++;
            if (token == WORD || token == NUMBER) {
                while (next < length && sortAt(next) == token) {
                    next++;
                }
            }
            if (token == WORD) {
                packWord();
            } else if (token == NUMBER) {
                packNumber();
            }
        }

        void packWord() {
            letterCount = next - start;
            if (letterCount > MAX_NAME_LETTERS) {
                return;
            }
            letters = 0;
            for (int i = start; i < next; i++) {
                letters = letters << 8 | text[i];
            }
            for (int i = 0; i < WORDS.length; i++) {
                if (WORDS[i] == letters) {
                    word = i;
                }
            }
        }

        void packNumber() {
            if (next - start > MAX_DIGITS) {
                token = NO_TOKEN;
                return;
            }
            number = 0;
            for (int i = start; i < next; i++) {
                number = number * 10 + text[i] - '0';
            }
        }

        boolean fail(int kind) {
            faultKind = token == NO_TOKEN ? 1 : kind;
            faultPlace = start;
            return false;
        }

        boolean takeSign(int sign) {
            if (token != sign) {
                return fail(2);
            }
            advance();
            return true;
        }

        boolean takeWord(int which) {
            if (token != WORD || word != which) {
                return fail(2);
            }
            advance();
            return true;
        }

        boolean takeNumber(int least, int most) {
            if (token != NUMBER) {
                return fail(2);
            }
            if (number < least || number > most) {
                return fail(4);
            }
            taken = number;
            advance();
            return true;
        }

        boolean isName() {
            return token == WORD && word == NONE && letterCount <= MAX_NAME_LETTERS;
        }

        boolean takeOldName(Land land, int sort) {
            if (!isName()) {
                return fail(2);
            }
            taken = land.findName(letters, sort);
            if (taken == NONE) {
                return fail(3);
            }
            advance();
            return true;
        }

        boolean takeNewName(Land land, int place) {
            if (!isName()) {
                return fail(2);
            }
            if (land.isTakenName(letters) || place < 0 || place >= land.names.length) {
                return fail(3);
            }
            land.names[place] = letters;
            advance();
            return true;
        }
    }

    /** Reads a LAND into one that is empty. */
    private static final class LandText {
        final TextReader reader;
        final Land land;
        final boolean[] isTold = new boolean[RULES];

        LandText(TextReader reader, Land land) {
            this.reader = reader;
            this.land = land;
        }

        boolean isTaken() {
            boolean fine = true;
            // a PART has a byte at least
            for (int i = 0; i < TAPE_BYTES && fine && reader.token != TextReader.TEXT_END; i++) {
                switch (reader.word) {
                    case TextReader.CALM: fine = readRule(Land.CALM); break;
                    case TextReader.FEE: fine = readRule(Land.FEE); break;
                    case TextReader.WAR: fine = readRule(Land.WAR); break;
                    case TextReader.KIND: fine = readKind(); break;
                    case TextReader.GOOD: fine = readGood(); break;
                    case TextReader.PERSON: fine = readPerson(); break;
                    case TextReader.HAS: fine = readHas(); break;
                    default: fine = reader.fail(2);
                }
            }
            land.level = land.levelAfter(0, land.outNow());
            return fine;
        }

        boolean readRule(int rule) {
            if (isTold[rule]) {
                return reader.fail(5);
            }
            reader.advance();
            if (!reader.takeNumber(LEAST_RULE[rule], MOST_RULE[rule])) {
                return false;
            }
            isTold[rule] = true;
            land.rules[rule] = reader.taken;
            return reader.takeSign(TextReader.SEMICOLON);
        }

        boolean readKind() {
            int kind = land.kinds;
            if (kind >= MAX_KINDS) {
                return reader.fail(6);
            }
            reader.advance();
            if (!reader.takeNewName(land, Land.KIND_NAMES + kind)
                || !reader.takeWord(TextReader.WORTH)
                || !reader.takeNumber(1, 500)) {
                return false;
            }
            land.worths[kind] = reader.taken;
            land.kinds++;
            return reader.takeSign(TextReader.SEMICOLON);
        }

        boolean readGood() {
            int good = land.goods;
            if (good >= MAX_GOODS) {
                return reader.fail(6);
            }
            reader.advance();
            if (!reader.takeNewName(land, Land.GOOD_NAMES + good)
                || !reader.takeWord(TextReader.VALUE)
                || !reader.takeNumber(1, 99)) {
                return false;
            }
            land.values[good] = reader.taken;
            if (!readChoice(TextReader.STOCK, 999, 10)) {
                return false;
            }
            land.stocks[good] = reader.taken;
            land.goods++;
            return reader.takeSign(TextReader.SEMICOLON);
        }

        boolean readPerson() {
            int person = land.people;
            if (person >= MAX_PEOPLE) {
                return reader.fail(6);
            }
            reader.advance();
            if (!reader.takeNewName(land, Land.PERSON_NAMES + person)
                || !readChoice(TextReader.SILVER, 9999, 0)) {
                return false;
            }
            land.silvers[person] = reader.taken;
            land.people++;
            return reader.takeSign(TextReader.SEMICOLON);
        }

        /** A WORD with its NUMBER that may be left out: the NUMBER is taken then all the same. */
        boolean readChoice(int which, int most, int without) {
            if (reader.word != which) {
                reader.taken = without;
                return true;
            }
            reader.advance();
            return reader.takeNumber(0, most);
        }

        boolean readHas() {
            reader.advance();
            if (!reader.takeOldName(land, Land.PERSON_NAMES)) {
                return false;
            }
            int person = reader.taken;
            if (!reader.takeOldName(land, Land.KIND_NAMES)) {
                return false;
            }
            int kind = reader.taken;
            if (!reader.takeNumber(0, 999)) {
                return false;
            }
            land.whole[Land.purse(person, kind)] = reader.taken;
            return reader.takeSign(TextReader.SEMICOLON);
        }
    }

    /** REIGNS as lines: a line a STEP, and one for each end. */
    private static final class Reigns {
        boolean isThere;
        int steps;
        int lines;
        final int[] words = new int[MAX_LINES];
        /** The PERSON of a STEP; of a when, which TEST it is. */
        final int[] subjects = new int[MAX_LINES];
        /** The KIND or GOOD of a STEP; of a when, the PERSON or GOOD that is looked at. */
        final int[] objects = new int[MAX_LINES];
        final int[] numbers = new int[MAX_LINES];
        final int[] signs = new int[MAX_LINES];
        /** The end of a when or loop, and the beginning of an end. */
        final int[] partners = new int[MAX_LINES];

        void clear() {
            isThere = false;
            steps = 0;
            lines = 0;
        }

        void copyFrom(Reigns other) {
            isThere = other.isThere;
            steps = other.steps;
            lines = other.lines;
            System.arraycopy(other.words, 0, words, 0, MAX_LINES);
            System.arraycopy(other.subjects, 0, subjects, 0, MAX_LINES);
            System.arraycopy(other.objects, 0, objects, 0, MAX_LINES);
            System.arraycopy(other.numbers, 0, numbers, 0, MAX_LINES);
            System.arraycopy(other.signs, 0, signs, 0, MAX_LINES);
            System.arraycopy(other.partners, 0, partners, 0, MAX_LINES);
        }
    }

    /** Reads REIGNS, for a LAND, into some that are empty. */
    private static final class ReignsText {
        final TextReader reader;
        final Land land;
        final Reigns reigns;
        final int[] open = new int[MAX_NESTED];
        int depth;

        ReignsText(TextReader reader, Land land, Reigns reigns) {
            this.reader = reader;
            this.land = land;
            this.reigns = reigns;
        }

        boolean isTaken() {
            boolean fine = true;
            // a STEP, or an end, has a byte at least
            for (int i = 0; i < TAPE_BYTES && fine && reader.token != TextReader.TEXT_END; i++) {
                fine = reader.word == TextReader.END ? readEnd() : readStep();
            }
            if (fine && depth > 0) {
                fine = reader.fail(2);
            }
            reigns.isThere = fine;
            return fine;
        }

        boolean readEnd() {
            if (depth <= 0 || reigns.lines >= MAX_LINES) {
                return reader.fail(2);
            }
            depth--;
            int end = reigns.lines;
            reigns.words[end] = TextReader.END;
            reigns.partners[end] = open[depth];
            reigns.partners[open[depth]] = end;
            reigns.lines++;
            reader.advance();
            return reader.takeSign(TextReader.SEMICOLON);
        }

        boolean readStep() {
            int word = reader.word;
            if (!isStepWord(word)) {
                return reader.fail(2);
            }
            if (reigns.steps >= MAX_STEPS || reigns.lines >= MAX_LINES) {
                return reader.fail(6);
            }
            boolean opens = word == TextReader.WHEN || word == TextReader.LOOP;
            if (opens && depth >= MAX_NESTED) {
                return reader.fail(7);
            }
            int line = reigns.lines;
            reigns.words[line] = word;
            if (opens) {
                open[depth] = line;
                depth++;
            }
            reigns.steps++;
            reigns.lines++;
            reader.advance();
            boolean fine = true;
            if (word == TextReader.MONTH) {
                fine = reader.takeNumber(1, 20);
            } else if (word == TextReader.LOOP) {
                fine = reader.takeNumber(1, 99);
            } else if (word == TextReader.WHEN) {
                fine = readTest(line);
            } else if (word != TextReader.ANY && word != TextReader.STOP) {
                fine = readDeed(word, line);
            }
            reigns.numbers[line] = reader.taken;
            return fine && reader.takeSign(TextReader.SEMICOLON);
        }

        static boolean isStepWord(int word) {
            return word >= TextReader.PAY && word <= TextReader.WHEN
                || word == TextReader.LOOP || word == TextReader.STOP;
        }

        boolean readDeed(int word, int line) {
            if (!reader.takeOldName(land, Land.PERSON_NAMES)) {
                return false;
            }
            reigns.subjects[line] = reader.taken;
            boolean ofGood = word == TextReader.BUY || word == TextReader.SELL;
            if (!reader.takeOldName(land, ofGood ? Land.GOOD_NAMES : Land.KIND_NAMES)) {
                return false;
            }
            reigns.objects[line] = reader.taken;
            return reader.takeNumber(1, 99);
        }

        boolean readTest(int line) {
            int test = reader.word;
            if (test != TextReader.LEVEL && test != TextReader.HOLDS && test != TextReader.LEFT) {
                return reader.fail(2);
            }
            reigns.subjects[line] = test;
            reader.taken = NONE;
            reader.advance();
            if (test == TextReader.HOLDS && !reader.takeOldName(land, Land.PERSON_NAMES)) {
                return false;
            }
            if (test == TextReader.LEFT && !reader.takeOldName(land, Land.GOOD_NAMES)) {
                return false;
            }
            reigns.objects[line] = reader.taken;
            int sign = reader.token;
            if (sign != '<' && sign != '>' && sign != '=') {
                return reader.fail(2);
            }
            reigns.signs[line] = sign;
            reader.advance();
            return reader.takeNumber(0, test == TextReader.LEVEL ? 999 : 9999);
        }
    }

    /** One run of REIGNS over a LAND, and what came of it. */
    private static final class Life {
        final Teller teller;
        final int[] rounds = new int[MAX_LINES];
        int chance;
        int steps;
        int missed;
        int months;
        int bought;
        long printed;
        boolean stepLeft;

        Life(Teller teller) {
            this.teller = teller;
        }

        int toldOf(int what) {
            switch (what) {
                case 0: return missed;
                case 1: return months;
                case 2: return bought;
                case 3: return (int) Math.min(MAX_TOLD, printed);
                default: return stepLeft ? 1 : 0;
            }
        }

        void unfold(Land land, Reigns reigns, int seed) {
            chance = seed;
            steps = 0;
            missed = 0;
            months = 0;
            bought = 0;
            stepLeft = false;
            long printedBefore = land.printed;
            int line = 0;
            // an empty loop comes to its end 99 times at most for one STEP
            for (int i = 0; i < 1000000 && line >= 0 && line < reigns.lines; i++) {
                if (reigns.words[line] == TextReader.END) {
                    line = lineAfterEnd(reigns, line);
                } else if (steps >= MAX_STEPS_DONE) {
                    stepLeft = true;
                    line = NONE;
                } else {
                    steps++;
                    missed += isDone(land, reigns, line) ? 0 : 1;
                    line = lineAfterStep(land, reigns, line);
                }
            }
            printed = land.printed - printedBefore;
        }

        int lineAfterEnd(Reigns reigns, int line) {
            int beginning = reigns.partners[line];
            if (reigns.words[beginning] != TextReader.LOOP) {
                return line + 1;
            }
            rounds[beginning]--;
            return rounds[beginning] > 0 ? beginning + 1 : line + 1;
        }

        int lineAfterStep(Land land, Reigns reigns, int line) {
            int word = reigns.words[line];
            if (word == TextReader.STOP) {
                return NONE;
            }
            if (word == TextReader.LOOP) {
                rounds[line] = reigns.numbers[line];
            }
            if (word == TextReader.WHEN && !holdsTrue(land, reigns, line)) {
                return reigns.partners[line] + 1;
            }
            return line + 1;
        }

        static boolean holdsTrue(Land land, Reigns reigns, int line) {
            int seen = land.level;
            if (reigns.subjects[line] == TextReader.HOLDS) {
                seen = land.wealthOf(reigns.objects[line]);
            } else if (reigns.subjects[line] == TextReader.LEFT) {
                seen = land.stocks[reigns.objects[line]];
            }
            int number = reigns.numbers[line];
            if (reigns.signs[line] == '<') {
                return seen < number;
            }
            return reigns.signs[line] == '>' ? seen > number : seen == number;
        }

        /** Does what a STEP does to the LAND; false if that can't be. */
        boolean isDone(Land land, Reigns reigns, int line) {
            int person = reigns.subjects[line];
            int object = reigns.objects[line];
            int n = reigns.numbers[line];
            switch (reigns.words[line]) {
                case TextReader.PAY: return land.printFor(person, object, n) != NONE;
                case TextReader.SELL: return land.takeGoods(teller, person, object, n) != NONE;
                case TextReader.TEAR: return land.tearUp(person, object, n) != NONE;
                case TextReader.MEND: return land.mendTorn(person, object, n) != NONE;
                case TextReader.MONTH: return isPassed(land.passMonths(n), n);
                case TextReader.BUY:
                    break;
                case TextReader.ANY:
                    if (land.people == 0 || land.goods == 0) {
                        return false;
                    }
                    person = draw(land.people);
                    object = draw(land.goods);
                    n = 1;
                    break;
                default:
                    return true;
            }
            long way = land.wayToBuy(teller, person, object, n);
            if (land.purchase(person, object, n, way) == NONE) {
                return false;
            }
            bought += n;
            return true;
        }

        boolean isPassed(boolean passed, int many) {
            months += passed ? many : 0;
            return passed;
        }

        int draw(int n) {
            chance = (chance * 3079 + 11299) % 65536;
            return chance / 8 % Math.max(1, n);
        }
    }
}
