/**
 * A craft for a craft: trades, people who know some of them, and a law by which whoever would learn one
 * forgets one before witnesses. README.md tells how the program is used, DOC.md what every call answers.
 */
public final class ForgottenCrafts {
    public static final int NONE = -1, UNKNOWN = -1000000001, OUTSIDE = -1000000002, NOT = -1000000003, FULL = -1000000004;

    private static final int MOST_TRADES = 6, MOST_PEOPLE = 8, MOST_LIKES = 40, MOST_BYTES = 500, MOST_LAW_BYTES = 200;
    private static final int MOST_THINGS = 12, MOST_ENTRIES = 40, MOST_YEARS = 99, MOST_DRAWN_YEARS = 90, MOST_TILL = 200;
    private static final int PLAIN = 0, BACK = 1, HALF = 2, FORBIDDEN = 3;
    private static final int MASTERLY = 50, PERFECT = 100, BACK_AFTER = 9, NIGHTS_GAIN = 5, MILLION = 1000000;
    private static final int CANNOT_STAND = 1, BAD_NUMBER = 2, TOO_MANY = 3, AGAIN = 4;

    private final Reader text = new Reader();
    private final Crafts crafts = new Crafts();
    private final Crafts draftCrafts = new Crafts();
    private final Rules rules = new Rules();
    private final Rules draftRules = new Rules();
    private final Rules triedRules = new Rules();
    private final Folk folk = new Folk();
    private final Folk toldFolk = new Folk();
    private final Folk draftFolk = new Folk();
    private final Folk triedFolk = new Folk();
    private final Folk firstImage = new Folk();
    private final Folk secondImage = new Folk();
    private final Row wants = new Row(MOST_TRADES);
    private final Shelf shelf = new Shelf();
    private final TownTeller teller = new TownTeller(text, draftCrafts, draftFolk);
    private final Life life = new Life(crafts, rules, folk);
    private final Life trial = new Life(crafts, triedRules, triedFolk);
    private final Plan plan = new Plan(crafts, folk, wants);
    private final Rings rings = new Rings(life);
    private int keptImages = 0;

    public ForgottenCrafts() {
    }

    // ---- texts

    public int feed(int n, long bytes) {
        if (!within(n, 1, 8)) {
            return OUTSIDE;
        }
        if (text.length + n > MOST_BYTES) {
            return FULL;
        }
        for (int i = n - 1; i >= 0; i--) {
            text.append((int) ((bytes >>> (8 * i)) & 255L));
        }
        return text.length;
    }

    public int town() {
        text.open();
        teller.tellAll();
        text.clear();
        if (!text.isSound()) {
            return -10 - text.fault;
        }
        crafts.copyFrom(draftCrafts);
        toldFolk.copyFrom(draftFolk);
        startAnew();
        wants.fill(0);
        shelf.clear();
        keptImages = 0;
        return crafts.people;
    }

    public int laws() {
        if (text.length > MOST_LAW_BYTES) {
            return NOT;
        }
        text.open();
        int clauses = draftRules.readFrom(text);
        text.clear();
        if (!text.isSound()) {
            return -10 - text.fault;
        }
        rules.copyFrom(draftRules);
        return clauses;
    }

    public int fault() {
        return text.faultPlace;
    }

    public int told(int what) {
        switch (what) {
            case 0: return crafts.trades;
            case 1: return crafts.people;
            case 2: return folk.living;
            case 3: return folk.years;
            case 4: return rules.holds;
            case 5: return rules.witnesses;
            case 6: return rules.fades;
            case 7: return rules.rusts;
            case 8: return rules.dies;
            case 9: return rules.lent ? 1 : 0;
            case 10: return text.length;
            case 11: return shelf.things;
            case 12: return shelf.entries;
            case 13: return life.deadTrades();
            default: return OUTSIDE;
        }
    }

    public int trade(int t, int what) {
        if (!crafts.hasTrade(t)) {
            return UNKNOWN;
        }
        switch (what) {
            case 0: return crafts.kinds.at(t);
            case 1: return crafts.learning.at(t);
            case 2: return crafts.worths.at(t);
            case 3: return crafts.needs.at(t);
            case 4: return folk.withSkill(t, 1);
            case 5: return folk.withSkill(t, MASTERLY);
            case 6: return wants.at(t);
            default: return OUTSIDE;
        }
    }

    public int person(int p, int what) {
        if (!crafts.hasPerson(p)) {
            return UNKNOWN;
        }
        switch (what) {
            case 0: return folk.ages.at(p);
            case 1: return folk.practises.at(p);
            case 2: return folk.learns.at(p);
            case 3: return folk.forgets.at(p);
            case 4: return folk.knownBy(p);
            case 5: return folk.earned.at(p);
            case 6: return has(folk.witnesses, p) ? 1 : 0;
            case 7: return has(folk.nightWorkers, p) ? 1 : 0;
            default: return OUTSIDE;
        }
    }

    public int skill(int p, int t) {
        return isKnownPair(p, t) ? folk.skillOf(p, t) : UNKNOWN;
    }

    public int like(int p, int t) {
        return isKnownPair(p, t) ? crafts.likeOf(p, t) : UNKNOWN;
    }

    // ---- years

    public int change(int p, int learn, int f, int lender) {
        boolean known = isKnownPair(p, learn) && (f == NONE || crafts.hasTrade(f));
        boolean knownLender = lender == NONE || (crafts.hasPerson(lender) && lender != p);
        return known && knownLender ? life.beginChange(p, learn, f, lender) : UNKNOWN;
    }

    public int practise(int p, int t) {
        if (!isKnownPair(p, t)) {
            return UNKNOWN;
        }
        if (!folk.knows(p, t)) {
            return NOT;
        }
        int before = folk.practises.at(p);
        folk.practises.put(p, t);
        return before;
    }

    public int night(int p, int t) {
        if (!isKnownPair(p, t)) {
            return UNKNOWN;
        }
        if (!folk.knows(p, t) || has(folk.nightWorkers, p)) {
            return NOT;
        }
        return life.workByNight(p, t) ? 1 : 0;
    }

    public int year(int n) {
        if (!within(n, 1, MOST_YEARS)) {
            return OUTSIDE;
        }
        for (int i = 0; i < n; i++) {
            life.passYear();
        }
        return folk.living;
    }

    public int drift(int n, int q) {
        if (!within(n, 1, MOST_DRAWN_YEARS) || !within(q, 0, 100)) {
            return OUTSIDE;
        }
        if (crafts.trades == 0) {
            return NOT;
        }
        life.passDrawnYears(n, q);
        return life.deadTrades();
    }

    public int compared(int n, int q, int h) {
        if (!within(n, 1, MOST_DRAWN_YEARS) || !within(q, 0, 100) || !within(h, 1, MOST_TRADES)) {
            return OUTSIDE;
        }
        if (crafts.trades == 0) {
            return NOT;
        }
        triedFolk.copyFrom(folk);
        triedRules.copyFrom(rules);
        triedRules.holds = h;
        trial.passDrawnYears(n, q);
        return Integer.bitCount(trial.deadTrades());
    }

    public int begin() {
        int before = folk.years;
        startAnew();
        return before;
    }

    // ---- wants, rings, hands

    public int want(int t, int n) {
        if (!crafts.hasTrade(t)) {
            return UNKNOWN;
        }
        if (!within(n, 0, MOST_PEOPLE)) {
            return OUTSIDE;
        }
        int before = wants.at(t);
        wants.put(t, n);
        return before;
    }

    public int changed(int p) {
        if (p != NONE && !crafts.hasPerson(p)) {
            return UNKNOWN;
        }
        int sum = plan.solve();
        if (p == NONE || sum == NONE) {
            return sum;
        }
        return plan.given.at(p);
    }

    public int ring(int what) {
        if (!within(what, 0, 5)) {
            return OUTSIDE;
        }
        rings.search();
        if (what == 0) {
            return rings.bestSum;
        }
        if (what == 1) {
            return rings.bestSize;
        }
        return what - 2 < rings.bestSize ? rings.best.at(what - 2) : NONE;
    }

    public int lastHand(int t, int what) {
        if (!crafts.hasTrade(t)) {
            return UNKNOWN;
        }
        if (!within(what, 0, 1)) {
            return OUTSIDE;
        }
        int hands = folk.withSkill(t, 1);
        if (Integer.bitCount(hands) != 1) {
            return NONE;
        }
        int p = leastOf(hands);
        int yearsLeft = Math.max(0, rules.dies - folk.ages.at(p));
        return what == 0 ? p : crafts.worths.at(t) * yearsLeft;
    }

    public int till(int t) {
        if (!crafts.hasTrade(t)) {
            return UNKNOWN;
        }
        triedFolk.copyFrom(folk);
        triedRules.copyFrom(rules);
        int years = 0;
        while (years < MOST_TILL && triedFolk.withSkill(t, MASTERLY) != 0) {
            trial.passYear();
            years++;
        }
        return years;
    }

    // ---- made

    public int make(int t, int quality) {
        if (!crafts.hasTrade(t)) {
            return UNKNOWN;
        }
        if (!within(quality, 1, 100)) {
            return OUTSIDE;
        }
        return shelf.things < MOST_THINGS ? shelf.addThing(t, quality) : FULL;
    }

    public int makers(int i) {
        return within(i, 0, shelf.things - 1) ? shelf.makersOf(i, folk) : UNKNOWN;
    }

    public int fits(int m, int what) {
        if (!within(m, 0, MOST_PEOPLE) || !within(what, 0, 2)) {
            return OUTSIDE;
        }
        shelf.countFits(m, folk);
        if (what == 0) {
            return shelf.fitting;
        }
        if (what == 1) {
            return shelf.fitting > 0 ? shelf.inAllFits : NONE;
        }
        return shelf.possible > 0 ? MILLION * shelf.fitting / shelf.possible : 0;
    }

    // ---- books, draws, images

    public int write(int p, int t, int skill) {
        if (!isKnownPair(p, t)) {
            return UNKNOWN;
        }
        if (!within(skill, 0, PERFECT)) {
            return OUTSIDE;
        }
        return shelf.entries < MOST_ENTRIES ? shelf.addEntry(p, t, skill) : FULL;
    }

    public int tear() {
        int gone = shelf.things + shelf.entries;
        shelf.clear();
        return gone;
    }

    public int judge() {
        return shelf.firstWrong(folk);
    }

    public int seed(int v) {
        if (v < 0) {
            return OUTSIDE;
        }
        int before = folk.drawSeed;
        folk.drawSeed = v;
        return before;
    }

    public int keep(int i) {
        if (!within(i, 0, 1)) {
            return UNKNOWN;
        }
        image(i).copyFrom(folk);
        keptImages |= 1 << i;
        return 1;
    }

    public int goBack(int i) {
        if (!within(i, 0, 1)) {
            return UNKNOWN;
        }
        if (!has(keptImages, i)) {
            return NOT;
        }
        folk.copyFrom(image(i));
        return 1;
    }

    // ---- helpers of the face

    private static boolean within(int value, int least, int most) {
        return value >= least && value <= most;
    }

    private static boolean has(int set, int k) {
        return k >= 0 && k < 32 && (set >>> k & 1) != 0;
    }

    private static int leastOf(int people) {
        for (int p = 0; p < MOST_PEOPLE; p++) {
            if (has(people, p)) {
                return p;
            }
        }
        return NONE;
    }

    /** The place of a person's trade in a row of all people's trades; NONE, where every row is 0, for any other pair. */
    private static int cell(int p, int t) {
        boolean stands = p >= 0 && p < MOST_PEOPLE && t >= 0 && t < MOST_TRADES;
        return stands ? p * MOST_TRADES + t : NONE;
    }

    private boolean isKnownPair(int p, int t) {
        return crafts.hasPerson(p) && crafts.hasTrade(t);
    }

    private Folk image(int i) {
        return i == 0 ? firstImage : secondImage;
    }

    /** The seed is no part of what was told: it goes on through a new beginning. */
    private void startAnew() {
        int drawSeed = folk.drawSeed;
        folk.copyFrom(toldFolk);
        folk.drawSeed = drawSeed;
    }

    /** A row of numbers that looks at every index first, so that no call can fail on one: outside it is 0. */
    private static final class Row {
        private final int[] cells;

        private Row(int size) {
            cells = new int[Math.max(0, size)];
        }

        private int at(int i) {
            return i >= 0 && i < cells.length ? cells[i] : 0;
        }

        private void put(int i, int value) {
            if (i >= 0 && i < cells.length) {
                cells[i] = value;
            }
        }

        private void fill(int value) {
            for (int i = 0; i < cells.length; i++) {
                cells[i] = value;
            }
        }

        private void copyFrom(Row other) {
            for (int i = 0; i < cells.length && i < other.cells.length; i++) {
                cells[i] = other.cells[i];
            }
        }
    }

    /** What a town tells and no year changes: its trades, how many people it has, what they like. */
    private static final class Crafts {
        private final Row kinds = new Row(MOST_TRADES);
        private final Row learning = new Row(MOST_TRADES);
        private final Row worths = new Row(MOST_TRADES);
        private final Row needs = new Row(MOST_TRADES);
        private final Row likes = new Row(MOST_PEOPLE * MOST_TRADES);
        private int trades = 0;
        private int people = 0;

        private boolean hasTrade(int t) {
            return t >= 0 && t < trades;
        }

        private boolean hasPerson(int p) {
            return p >= 0 && p < people;
        }

        private int likeOf(int p, int t) {
            return likes.at(cell(p, t));
        }

        private boolean isForbidden(int t) {
            return kinds.at(t) == FORBIDDEN;
        }

        private void clear() {
            likes.fill(0);
            trades = 0;
            people = 0;
        }

        private void copyFrom(Crafts other) {
            kinds.copyFrom(other.kinds);
            learning.copyFrom(other.learning);
            worths.copyFrom(other.worths);
            needs.copyFrom(other.needs);
            likes.copyFrom(other.likes);
            trades = other.trades;
            people = other.people;
        }
    }

    /** The laws; what a text leaves untold is as at first. */
    private static final class Rules {
        private int holds;
        private int witnesses;
        private int fades;
        private int rusts;
        private int dies;
        private boolean lent;
        private int clausesSeen;

        private Rules() {
            clear();
        }

        private void copyFrom(Rules other) {
            holds = other.holds;
            witnesses = other.witnesses;
            fades = other.fades;
            rusts = other.rusts;
            dies = other.dies;
            lent = other.lent;
        }

        private void clear() {
            holds = 2;
            witnesses = 2;
            fades = 25;
            rusts = 5;
            dies = 70;
            lent = false;
            clausesSeen = 0;
        }

        /** Reads all clauses: how many there are. */
        private int readFrom(Reader reader) {
            clear();
            for (int i = 0; i < MOST_BYTES && reader.isSound() && reader.token != Reader.END; i++) {
                readClause(reader);
            }
            return Integer.bitCount(clausesSeen);
        }

        private void readClause(Reader reader) {
            if (opens(reader, "holds", 1)) {
                holds = reader.number(1, MOST_TRADES);
            } else if (opens(reader, "witnesses", 2)) {
                witnesses = reader.number(0, 3);
            } else if (opens(reader, "fades", 4)) {
                fades = reader.number(1, 100);
            } else if (opens(reader, "rusts", 8)) {
                rusts = reader.number(0, 100);
            } else if (opens(reader, "dies", 16)) {
                dies = reader.number(1, 120);
            } else if (opens(reader, "lent", 32)) {
                lent = true;
            } else {
                reader.blame(CANNOT_STAND, reader.start);
            }
            reader.closeClause();
        }

        private boolean opens(Reader reader, String word, int bit) {
            if (!reader.sees(word)) {
                return false;
            }
            if ((clausesSeen & bit) != 0) {
                reader.blame(TOO_MANY, reader.start);
            }
            clausesSeen |= bit;
            reader.advance();
            return true;
        }
    }

    /** THE TEXT, read token by token; of the faults that are told the first one stays. */
    private static final class Reader {
        private static final int END = 0, WORD = 1, NUMBER = 2, SEMICOLON = 3, OTHER = 4;

        private final Row bytes = new Row(MOST_BYTES);
        private int length = 0;
        private int token = END;
        private int start = 0;
        private int stop = 0;
        private int fault = 0;
        private int faultPlace = NONE;

        private void append(int value) {
            bytes.put(length, value);
            length++;
        }

        private void clear() {
            length = 0;
        }

        private void open() {
            stop = 0;
            fault = 0;
            faultPlace = NONE;
            advance();
        }

        private boolean isSound() {
            return fault == 0;
        }

        private void blame(int number, int place) {
            if (fault == 0) {
                fault = number;
                faultPlace = place;
            }
        }

        private void advance() {
            int i = stop;
            while (i < length && bytes.at(i) == ' ') {
                i++;
            }
            start = i;
            token = i < length ? tokenOf(bytes.at(i)) : END;
            if (i < length) {
                i++;
            }
            while (i < length && (token == WORD || token == NUMBER) && tokenOf(bytes.at(i)) == token) {
                i++;
            }
            stop = i;
        }

        private static int tokenOf(int value) {
            if (value >= 'a' && value <= 'z') {
                return WORD;
            }
            if (value >= '0' && value <= '9') {
                return NUMBER;
            }
            return value == ';' ? SEMICOLON : OTHER;
        }

        private boolean sees(String word) {
            if (token != WORD || stop - start != word.length()) {
                return false;
            }
            for (int i = 0; i < word.length(); i++) {
                if (bytes.at(start + i) != word.charAt(i)) {
                    return false;
                }
            }
            return true;
        }

        /** The number that must stand here, and past it; NONE with a fault. */
        private int number(int least, int most) {
            if (token != NUMBER) {
                blame(CANNOT_STAND, start);
            } else if (stop - start > 3 || !within(figures(), least, most)) {
                blame(BAD_NUMBER, start);
            }
            if (!isSound()) {
                return NONE;
            }
            int value = figures();
            advance();
            return value;
        }

        private int figures() {
            int value = 0;
            for (int i = start; i < stop; i++) {
                value = value * 10 + bytes.at(i) - '0';
            }
            return value;
        }

        private void closeClause() {
            if (token != SEMICOLON) {
                blame(CANNOT_STAND, start);
            }
            if (isSound()) {
                advance();
            }
        }
    }

    /** Reads a town's clauses into a draft, which becomes the town only if it has no fault. */
    private static final class TownTeller {
        private final Reader reader;
        private final Crafts crafts;
        private final Folk folk;
        private int likesTold = 0;
        private long likedCells = 0L;

        private TownTeller(Reader reader, Crafts crafts, Folk folk) {
            this.reader = reader;
            this.crafts = crafts;
            this.folk = folk;
        }

        private void tellAll() {
            crafts.clear();
            folk.clear();
            likesTold = 0;
            likedCells = 0L;
            for (int i = 0; i < MOST_BYTES && reader.isSound() && reader.token != Reader.END; i++) {
                if (reader.sees("trade") && crafts.people == 0) {
                    tellTrade();
                } else if (reader.sees("person")) {
                    tellPerson();
                } else if (reader.sees("likes")) {
                    tellLike();
                } else {
                    reader.blame(CANNOT_STAND, reader.start);
                }
                reader.closeClause();
            }
        }

        private void tellTrade() {
            openClause(crafts.trades < MOST_TRADES);
            int t = crafts.trades;
            crafts.kinds.put(t, kindHere());
            reader.advance();
            crafts.learning.put(t, reader.number(1, 9));
            crafts.worths.put(t, reader.number(0, 99));
            crafts.needs.put(t, NONE);
            if (reader.sees("needs")) {
                reader.advance();
                crafts.needs.put(t, reader.number(0, crafts.trades - 1));
            }
            crafts.trades++;
        }

        private void openClause(boolean hasRoom) {
            if (!hasRoom) {
                reader.blame(TOO_MANY, reader.start);
            }
            reader.advance();
        }

        private int kindHere() {
            if (reader.sees("plain")) {
                return PLAIN;
            }
            if (reader.sees("back")) {
                return BACK;
            }
            if (reader.sees("half")) {
                return HALF;
            }
            if (!reader.sees("forbidden")) {
                reader.blame(CANNOT_STAND, reader.start);
            }
            return FORBIDDEN;
        }

        private void tellPerson() {
            openClause(crafts.people < MOST_PEOPLE);
            int p = crafts.people;
            folk.ages.put(p, reader.number(0, 99));
            for (int i = 0; i < MOST_BYTES && reader.isSound() && reader.token == Reader.NUMBER; i++) {
                tellSkill(p);
            }
            folk.living |= 1 << p;
            folk.practises.put(p, folk.bestOf(p));
            crafts.people++;
        }

        private void tellSkill(int p) {
            int place = reader.start;
            int t = reader.number(0, crafts.trades - 1);
            if (folk.knows(p, t)) {
                reader.blame(AGAIN, place);
            }
            folk.setSkill(p, t, reader.number(1, PERFECT));
        }

        private void tellLike() {
            openClause(likesTold < MOST_LIKES);
            int p = reader.number(0, crafts.people - 1);
            int place = reader.start;
            int t = reader.number(0, crafts.trades - 1);
            long bit = 1L << Math.max(0, cell(p, t));
            if (reader.isSound() && (likedCells & bit) != 0L) {
                reader.blame(AGAIN, place);
            }
            likedCells |= bit;
            crafts.likes.put(cell(p, t), reader.number(0, 99));
            likesTold++;
        }
    }

    /** The people with all they have, the year and the seed: what an image keeps. */
    private static final class Folk {
        private final Row ages = new Row(MOST_PEOPLE);
        private final Row skills = new Row(MOST_PEOPLE * MOST_TRADES);
        private final Row goneIn = new Row(MOST_PEOPLE * MOST_TRADES);
        private final Row practises = new Row(MOST_PEOPLE);
        private final Row learns = new Row(MOST_PEOPLE);
        private final Row learntYears = new Row(MOST_PEOPLE);
        private final Row forgets = new Row(MOST_PEOPLE);
        private final Row earned = new Row(MOST_PEOPLE);
        private int living;
        private int witnesses;
        private int nightWorkers;
        private int years;
        private int drawSeed;

        private Folk() {
            clear();
        }

        private void clear() {
            living = 0;
            witnesses = 0;
            nightWorkers = 0;
            years = 0;
            drawSeed = 0;
            for (int p = 0; p < MOST_PEOPLE; p++) {
                empty(p);
                ages.put(p, 0);
                earned.put(p, 0);
            }
        }

        private void copyFrom(Folk other) {
            ages.copyFrom(other.ages);
            skills.copyFrom(other.skills);
            goneIn.copyFrom(other.goneIn);
            practises.copyFrom(other.practises);
            learns.copyFrom(other.learns);
            learntYears.copyFrom(other.learntYears);
            forgets.copyFrom(other.forgets);
            earned.copyFrom(other.earned);
            living = other.living;
            witnesses = other.witnesses;
            nightWorkers = other.nightWorkers;
            years = other.years;
            drawSeed = other.drawSeed;
        }

        /** Takes from a person all that death takes, so that a dead one is found by no question about skills. */
        private void empty(int p) {
            for (int t = 0; t < MOST_TRADES; t++) {
                skills.put(cell(p, t), 0);
                goneIn.put(cell(p, t), NONE);
            }
            practises.put(p, NONE);
            learns.put(p, NONE);
            learntYears.put(p, 0);
            forgets.put(p, NONE);
        }

        private boolean lives(int p) {
            return has(living, p);
        }

        private int skillOf(int p, int t) {
            return skills.at(cell(p, t));
        }

        private void setSkill(int p, int t, int value) {
            skills.put(cell(p, t), value);
        }

        private boolean knows(int p, int t) {
            return skills.at(cell(p, t)) > 0;
        }

        private int knownBy(int p) {
            int set = 0;
            for (int t = 0; t < MOST_TRADES; t++) {
                if (skills.at(cell(p, t)) > 0) {
                    set |= 1 << t;
                }
            }
            return set;
        }

        private int withSkill(int t, int least) {
            int set = 0;
            for (int p = 0; p < MOST_PEOPLE; p++) {
                if (skillOf(p, t) >= least) {
                    set |= 1 << p;
                }
            }
            return set;
        }

        private int bestOf(int p) {
            int best = NONE;
            for (int t = 0; t < MOST_TRADES; t++) {
                if (skillOf(p, t) > skillOf(p, best)) {
                    best = t;
                }
            }
            return best;
        }

        private int draw(int n) {
            drawSeed = (int) ((drawSeed * 1103515245L + 12345L) & 2147483647L);
            return n > 0 ? drawSeed / 65536 % n : 0;
        }
    }

    /** How people change and years go by under some laws; the tried years use another folk of the same town. */
    private static final class Life {
        private final Crafts crafts;
        private final Rules rules;
        private final Folk folk;

        private Life(Crafts crafts, Rules rules, Folk folk) {
            this.crafts = crafts;
            this.rules = rules;
            this.folk = folk;
        }

        private int deadTrades() {
            int set = 0;
            for (int t = 0; t < crafts.trades; t++) {
                if (folk.withSkill(t, 1) == 0) {
                    set |= 1 << t;
                }
            }
            return set;
        }

        private boolean hasRoom(int p) {
            return Integer.bitCount(folk.knownBy(p)) < rules.holds;
        }

        private int leastLiked(int p) {
            int least = NONE;
            for (int t = 0; t < crafts.trades; t++) {
                if (folk.knows(p, t) && (least == NONE || crafts.likeOf(p, t) < crafts.likeOf(p, least))) {
                    least = t;
                }
            }
            return least;
        }

        /** The witnesses of a change that begins now, or NOT. */
        private int beginChange(int p, int learn, int f, int lender) {
            if (!mayLearn(p, learn)) {
                return NOT;
            }
            if (f == NONE) {
                if (lender != NONE || !hasRoom(p)) {
                    return NOT;
                }
                startLearning(p, learn);
                return 0;
            }
            boolean may = lender == NONE ? mayGiveUp(p, learn, f) : mayLend(lender, f);
            int set = may ? witnessesFor(p, lender) : NOT;
            if (set == NOT) {
                return NOT;
            }
            folk.witnesses |= set;
            folk.forgets.put(lender == NONE ? p : lender, f);
            startLearning(p, learn);
            return set;
        }

        private boolean mayLearn(int p, int learn) {
            if (!folk.lives(p) || folk.learns.at(p) != NONE || folk.knows(p, learn) || crafts.isForbidden(learn)) {
                return false;
            }
            int need = crafts.needs.at(learn);
            return need == NONE || folk.knows(p, need);
        }

        private boolean mayGiveUp(int p, int learn, int f) {
            return folk.knows(p, f) && folk.forgets.at(p) == NONE && crafts.needs.at(learn) != f;
        }

        private boolean mayLend(int lender, int f) {
            return rules.lent && folk.knows(lender, f) && folk.forgets.at(lender) == NONE;
        }

        private int witnessesFor(int p, int lender) {
            int set = 0;
            int missing = rules.witnesses;
            for (int k = 0; k < crafts.people && missing > 0; k++) {
                boolean free = folk.lives(k) && folk.learns.at(k) == NONE && !has(folk.witnesses, k);
                if (free && k != p && k != lender) {
                    set |= 1 << k;
                    missing--;
                }
            }
            return missing > 0 ? NOT : set;
        }

        private void startLearning(int p, int learn) {
            folk.learns.put(p, learn);
            folk.learntYears.put(p, 0);
        }

        /** Whether the person was seen. */
        private boolean workByNight(int p, int t) {
            folk.setSkill(p, t, Math.min(PERFECT, folk.skillOf(p, t) + NIGHTS_GAIN));
            folk.nightWorkers |= 1 << p;
            int others = Integer.bitCount(folk.living & ~(1 << p));
            boolean seen = folk.draw(100) < 10 * others;
            if (seen && folk.forgets.at(p) == NONE) {
                folk.forgets.put(p, t);
            }
            return seen;
        }

        private void passYear() {
            for (int p = 0; p < crafts.people; p++) {
                if (folk.lives(p)) {
                    passYearOf(p);
                }
            }
            folk.years++;
            folk.witnesses = 0;
            folk.nightWorkers = 0;
        }

        private void passYearOf(int p) {
            int practised = folk.practises.at(p);
            int gain = crafts.worths.at(practised) * folk.skillOf(p, practised) / 100;
            folk.earned.put(p, folk.earned.at(p) + gain);
            for (int t = 0; t < crafts.trades; t++) {
                boolean forgotten = folk.forgets.at(p) == t;
                boolean learnt = folk.learns.at(p) == t;
                if (forgotten) {
                    fade(p, t);
                }
                // both are done to what is learnt and forgotten at once (lent, or seen by night, while it is learnt)
                if (learnt) {
                    learnOn(p, t);
                }
                if (!forgotten && !learnt) {
                    leaveAside(p, t);
                }
            }
            folk.ages.put(p, folk.ages.at(p) + 1);
            if (folk.ages.at(p) >= rules.dies) {
                folk.empty(p);
                folk.living &= ~(1 << p);
            } else if (!folk.knows(p, practised)) {
                folk.practises.put(p, folk.bestOf(p));
            }
        }

        private void fade(int p, int t) {
            int before = folk.skillOf(p, t);
            int after = before - rules.fades;
            boolean stopsHalfway = crafts.kinds.at(t) == HALF && before >= MASTERLY && after <= MASTERLY;
            if (stopsHalfway) {
                after = MASTERLY;
            }
            folk.setSkill(p, t, Math.max(0, after));
            if (after <= 0) {
                folk.goneIn.put(cell(p, t), folk.years);
            }
            if (stopsHalfway || after <= 0) {
                folk.forgets.put(p, NONE);
            }
        }

        private void learnOn(int p, int t) {
            int years = folk.learntYears.at(p) + 1;
            int all = Math.max(1, crafts.learning.at(t));
            int after = years >= all ? PERFECT : Math.min(PERFECT, folk.skillOf(p, t) + PERFECT / all);
            folk.setSkill(p, t, after);
            folk.learntYears.put(p, years);
            if (after == PERFECT) {
                folk.learns.put(p, NONE);
            }
        }

        private void leaveAside(int p, int t) {
            if (!folk.knows(p, t)) {
                if (isBackDue(p, t) && hasRoom(p)) {
                    folk.setSkill(p, t, 1);
                }
            } else if (folk.practises.at(p) != t) {
                folk.setSkill(p, t, Math.max(1, folk.skillOf(p, t) - rules.rusts));
            }
        }

        /** goneIn tells of what is not known alone: it is written anew whenever a trade is gone by forgetting. */
        private boolean isBackDue(int p, int t) {
            int gone = folk.goneIn.at(cell(p, t));
            return crafts.kinds.at(t) == BACK && gone != NONE && folk.years - gone >= BACK_AFTER;
        }

        private void passDrawnYears(int n, int q) {
            for (int i = 0; i < n; i++) {
                for (int p = 0; p < crafts.people; p++) {
                    if (folk.lives(p) && folk.learns.at(p) == NONE && folk.draw(100) < q) {
                        tryDrawnChange(p);
                    }
                }
                int before = folk.living;
                passYear();
                bearChildren(before & ~folk.living);
            }
        }

        private void tryDrawnChange(int p) {
            int learn = folk.draw(crafts.trades);
            int f = hasRoom(p) ? NONE : leastLiked(p);
            beginChange(p, learn, f, NONE);
        }

        private void bearChildren(int died) {
            for (int p = 0; p < crafts.people; p++) {
                if (has(died, p)) {
                    bearChild(p);
                }
            }
        }

        private void bearChild(int p) {
            folk.living |= 1 << p;
            folk.ages.put(p, 0);
            folk.earned.put(p, 0);
            int t = folk.draw(crafts.trades);
            if (!crafts.isForbidden(t)) {
                folk.setSkill(p, t, MASTERLY);
                folk.practises.put(p, t);
            }
        }
    }

    /** Who changes to what: the least sum by person and by what is still wanted, one number for all wants. */
    private static final class Plan {
        private static final int CANNOT = 1000000;

        /** The wants of eight people are at most 144 states: two trades wanted twice, four once. */
        private static final int MOST_STATES = 144;

        private final Crafts crafts;
        private final Folk folk;
        private final Row wants;
        private final Row steps = new Row(MOST_TRADES);
        private final Row costs = new Row(MOST_PEOPLE * MOST_TRADES);
        private final Row sums = new Row((MOST_PEOPLE + 1) * MOST_STATES);
        private final Row given = new Row(MOST_PEOPLE);
        private int states = 1;

        private Plan(Crafts crafts, Folk folk, Row wants) {
            this.crafts = crafts;
            this.folk = folk;
            this.wants = wants;
        }

        /** The least sum, with what each is given; NONE, if it cannot be. */
        private int solve() {
            given.fill(NONE);
            if (wantedInAll() > Integer.bitCount(folk.living)) {
                return NONE;
            }
            countStates();
            fillCosts();
            fillSums();
            int sum = sums.at(states - 1);
            if (sum >= CANNOT) {
                return NONE;
            }
            giveTrades();
            return sum;
        }

        private int wantedInAll() {
            int sum = 0;
            for (int t = 0; t < crafts.trades; t++) {
                sum += wants.at(t);
            }
            return sum;
        }

        private void countStates() {
            states = 1;
            for (int t = 0; t < crafts.trades; t++) {
                steps.put(t, states);
                states *= wants.at(t) + 1;
            }
        }

        private void fillCosts() {
            for (int p = 0; p < crafts.people; p++) {
                for (int t = 0; t < crafts.trades; t++) {
                    costs.put(cell(p, t), costOf(p, t));
                }
            }
        }

        private int costOf(int p, int t) {
            int skill = folk.skillOf(p, t);
            int years = crafts.learning.at(t);
            if (skill >= MASTERLY) {
                return 0;
            }
            if (skill > 0) {
                return (years * (100 - skill) + 99) / 100;
            }
            int need = crafts.needs.at(t);
            boolean may = folk.lives(p) && !crafts.isForbidden(t) && (need == NONE || folk.knows(p, need));
            return may ? years : CANNOT;
        }

        /** sums holds, for the people from p on, the least sum by which a state becomes 0. */
        private void fillSums() {
            for (int state = 0; state < states; state++) {
                sums.put(crafts.people * states + state, state == 0 ? 0 : CANNOT);
            }
            for (int p = crafts.people - 1; p >= 0; p--) {
                for (int state = 0; state < states; state++) {
                    int least = sumWith(p, state, NONE);
                    for (int t = 0; t < crafts.trades; t++) {
                        least = Math.min(least, sumWith(p, state, t));
                    }
                    sums.put(p * states + state, least);
                }
            }
        }

        private int sumWith(int p, int state, int t) {
            int rest = (p + 1) * states;
            if (t == NONE) {
                return sums.at(rest + state);
            }
            if (stillWanted(state, t) == 0) {
                return CANNOT;
            }
            return Math.min(CANNOT, costs.at(cell(p, t)) + sums.at(rest + state - steps.at(t)));
        }

        private int stillWanted(int state, int t) {
            int step = Math.max(1, steps.at(t));
            return state / step % (Math.max(0, wants.at(t)) + 1);
        }

        private void giveTrades() {
            int state = states - 1;
            for (int p = 0; p < crafts.people; p++) {
                int due = sums.at(p * states + state);
                int t = 0;
                while (t < crafts.trades && sumWith(p, state, t) != due) {
                    t++;
                }
                if (t < crafts.trades) {
                    given.put(p, t);
                    state -= steps.at(t);
                }
            }
        }
    }

    /** The best ring of forgetting: paths by which all gain, fewer people first, so that the first of like ones stays. */
    private static final class Rings {
        private static final int MOST_IN_RING = 4;

        private final Life life;
        private final Row offers = new Row(MOST_PEOPLE);
        private final Row gains = new Row(MOST_PEOPLE * MOST_PEOPLE);
        private final Row path = new Row(MOST_IN_RING);
        private final Row best = new Row(MOST_IN_RING);
        private int bestSum = 0;
        private int bestSize = 0;

        private Rings(Life life) {
            this.life = life;
        }

        private void search() {
            bestSum = 0;
            bestSize = 0;
            fillGains();
            for (int size = 2; size <= MOST_IN_RING; size++) {
                for (int first = 0; first < life.crafts.people; first++) {
                    path.put(0, first);
                    walkOn(this, 1, size, 0);
                }
            }
        }

        private void fillGains() {
            for (int p = 0; p < MOST_PEOPLE; p++) {
                boolean free = life.folk.lives(p) && life.folk.learns.at(p) == NONE;
                offers.put(p, free ? life.leastLiked(p) : NONE);
            }
            for (int p = 0; p < MOST_PEOPLE; p++) {
                for (int q = 0; q < MOST_PEOPLE; q++) {
                    gains.put(p * MOST_PEOPLE + q, gainOf(p, offers.at(p), offers.at(q)));
                }
            }
        }

        /** 0 stands for what cannot be, too: a ring takes only those who gain. */
        private int gainOf(int p, int old, int other) {
            boolean may = old != NONE && other != NONE && !life.folk.knows(p, other) && !life.crafts.isForbidden(other);
            return may ? Math.max(0, life.crafts.likeOf(p, other) - life.crafts.likeOf(p, old)) : 0;
        }

        private int gainFrom(int p, int q) {
            return gains.at(p * MOST_PEOPLE + q);
        }

        /** Calls itself at most MOST_IN_RING deep: depth people are on the path. */
        private static void walkOn(Rings rings, int depth, int size, int sum) {
            int first = rings.path.at(0);
            int last = rings.path.at(depth - 1);
            if (depth >= size) {
                rings.closeRing(size, sum, rings.gainFrom(last, first));
                return;
            }
            for (int next = first + 1; next < MOST_PEOPLE; next++) {
                int gain = rings.gainFrom(last, next);
                if (gain > 0 && !rings.isOnPath(next, depth)) {
                    rings.path.put(depth, next);
                    walkOn(rings, depth + 1, size, sum + gain);
                }
            }
        }

        private boolean isOnPath(int p, int depth) {
            for (int i = 0; i < depth; i++) {
                if (path.at(i) == p) {
                    return true;
                }
            }
            return false;
        }

        private void closeRing(int size, int sum, int lastGain) {
            if (lastGain > 0 && sum + lastGain > bestSum) {
                bestSum = sum + lastGain;
                bestSize = size;
                best.copyFrom(path);
            }
        }
    }

    /** What was made, and the book of skills told. */
    private static final class Shelf {
        private final Row thingTrades = new Row(MOST_THINGS);
        private final Row qualities = new Row(MOST_THINGS);
        private final Row thingMakers = new Row(MOST_THINGS);
        private final Row entryPeople = new Row(MOST_ENTRIES);
        private final Row entryTrades = new Row(MOST_ENTRIES);
        private final Row entrySkills = new Row(MOST_ENTRIES);
        private int things = 0;
        private int entries = 0;
        private int fitting = 0;
        private int possible = 0;
        private int inAllFits = 0;

        private void clear() {
            things = 0;
            entries = 0;
        }

        private int addThing(int t, int quality) {
            thingTrades.put(things, t);
            qualities.put(things, quality);
            things++;
            return things;
        }

        private int makersOf(int i, Folk folk) {
            return folk.withSkill(thingTrades.at(i), qualities.at(i));
        }

        private void countFits(int m, Folk folk) {
            for (int i = 0; i < things; i++) {
                thingMakers.put(i, makersOf(i, folk));
            }
            fitting = 0;
            possible = 0;
            inAllFits = folk.living;
            for (int set = 0; set < 1 << MOST_PEOPLE; set++) {
                if ((set & ~folk.living) == 0 && Integer.bitCount(set) == m) {
                    possible++;
                    countIfFit(set);
                }
            }
        }

        private void countIfFit(int set) {
            for (int i = 0; i < things; i++) {
                if ((thingMakers.at(i) & set) == 0) {
                    return;
                }
            }
            fitting++;
            inAllFits &= set;
        }

        private int addEntry(int p, int t, int skill) {
            entryPeople.put(entries, p);
            entryTrades.put(entries, t);
            entrySkills.put(entries, skill);
            entries++;
            return entries;
        }

        private int firstWrong(Folk folk) {
            for (int i = 0; i < entries; i++) {
                if (folk.skillOf(entryPeople.at(i), entryTrades.at(i)) != entrySkills.at(i)) {
                    return i;
                }
            }
            return NONE;
        }
    }
}
