import java.util.Arrays;

/** A tax on beginnings: see README.md for its use, and the document for what each call promises. */
public final class StampDuchy {

    public static final int NONE = -1;

    private static final int MOST_KINDS = 5;
    private static final int MOST_PEOPLE = 4;
    private static final int MOST_WORKS = 6;
    private static final int MOST_RULES = 6;
    private static final int MOST_IMAGES = 4;
    private static final int MOST_LOGS = 10;
    private static final int MOST_ACTS = 20;
    private static final int MOST_PURSE = 9999;
    private static final int MOST_CHEST = 99999;
    private static final int DAY = 24;
    private static final int LAST_HOUR = 999;
    private static final int FORESIGHT = 200;
    private static final int FARTHEST_AHEAD = 100;
    private static final int FARTHEST_PLAN = 48;
    private static final int FARTHEST_LOG = 60;
    private static final int NO_VALUE = -100000;

    private final Tape tape = new Tape();
    private final DuchyReader duchyReader = new DuchyReader(tape);
    private final RuleReader ruleReader = new RuleReader(tape);
    private final Rule[] rules = new Rule[MOST_RULES];
    private final World world = new World();
    private final World[] images = new World[MOST_IMAGES];
    private final Course course = new Course(world.land);
    private final State trial = new State();
    private final RelayPlan relayPlan = new RelayPlan();
    private final ChainPlan chainPlan = new ChainPlan();
    /** Who held each work behind the hour looked at, a stretch of works for each candidate. */
    private final int[] seen = new int[(MOST_RULES + 1) * MOST_WORKS];
    private int ruleCount;
    /** Nights draw from a copy of x, which stays as it was. */
    private int drawn;

    public StampDuchy() {
    }

    // ---- the tape and what is read from it ----

    public int feed(int a, int b, int c, int d, int e) {
        if (!tape.hasRoom(20)) {
            return NONE;
        }
        tape.put(a);
        tape.put(b);
        tape.put(c);
        tape.put(d);
        tape.put(e);
        return tape.length;
    }

    public int end(int n) {
        if (n < 0 || n > tape.length) {
            return NONE;
        }
        tape.length = n;
        return n;
    }

    public int duchy() {
        int fault = duchyReader.read();
        tape.length = 0;
        if (fault != 0) {
            return -2 - fault;
        }
        world.settle(duchyReader.draft);
        return world.land.works;
    }

    public int rule() {
        if (ruleCount >= MOST_RULES) {
            return NONE;
        }
        int fault = ruleReader.read();
        tape.length = 0;
        if (fault != 0) {
            return -2 - fault;
        }
        rules[ruleCount] = new Rule(ruleReader.codes, ruleReader.length);
        ruleCount++;
        return ruleCount - 1;
    }

    public int force(int rule) {
        if (rule < NONE || rule >= ruleCount) {
            return -2;
        }
        int before = world.ruleInForce;
        world.ruleInForce = rule;
        return before;
    }

    // ---- how things stand ----

    public int kind(int kind, int what) {
        if (!isKind(kind)) {
            return NONE;
        }
        switch (what) {
            case 0: return world.land.price[kind];
            case 1: return world.land.worth[kind];
            default: return NONE;
        }
    }

    public int person(int person, int what) {
        if (!isPerson(person)) {
            return NONE;
        }
        Land land = world.land;
        switch (what) {
            case 0: return world.now.purse[person];
            case 1: return land.first[person];
            case 2: return land.span[person];
            case 3: return land.hands[person];
            case 4: return world.now.worksHeldBy(person);
            case 5: return isAwake(person) ? 1 : 0;
            default: return NONE;
        }
    }

    public int work(int work, int what) {
        if (!isWork(work)) {
            return -2;
        }
        switch (what) {
            case 0: return world.land.kindOf[work];
            case 1: return world.now.holder[work];
            case 2: return world.now.sneakedBit(work);
            case 3: return world.now.stopped[work];
            case 4: return world.land.after[work];
            default: return -2;
        }
    }

    public int count(int what) {
        Land land = world.land;
        switch (what) {
            case 0: return land.fine;
            case 1: return world.now.chest;
            case 2: return land.kinds;
            case 3: return land.people;
            case 4: return land.works;
            case 5: return ruleCount;
            case 6: return world.ruleInForce;
            case 7: return world.now.hour;
            case 8: return world.now.worksThatGo();
            case 9: return world.now.sneaked;
            case 10: return land.awakeAt(world.now.hour);
            case 11: return world.logs;
            case 12: return world.acts;
            case 13: return world.x;
            case 14: return tape.length;
            default: return NONE;
        }
    }

    private boolean isKind(int kind) {
        return kind >= 0 && kind < world.land.kinds;
    }

    private boolean isPerson(int person) {
        return person >= 0 && person < world.land.people;
    }

    private boolean isWork(int work) {
        return work >= 0 && work < world.land.works;
    }

    private boolean goes(int work) {
        return isWork(work) && world.now.holder[work] != NONE;
    }

    private boolean isAwake(int person) {
        return isPerson(person) && !world.land.isAsleep(person, world.now.hour);
    }

    private boolean hasHandFree(int person) {
        return isPerson(person) && world.now.load(person) < world.land.hands[person];
    }

    // ---- acts ----

    public int hour() {
        if (!world.land.told || world.now.hour >= LAST_HOUR) {
            return NONE;
        }
        world.remember();
        course.follow(ruleNumbered(world.ruleInForce), NONE);
        return Integer.bitCount(course.passHour(world.now));
    }

    public int begin(int work, int person) {
        if (!canStart(work, person)) {
            return NONE;
        }
        State now = world.now;
        int price = world.land.price[world.land.kindOf[work]];
        if (now.purse[person] < price) {
            return NONE;
        }
        world.remember();
        now.payIntoChest(person, price);
        now.holder[work] = person;
        return now.purse[person];
    }

    public int sneak(int work, int person) {
        if (!canStart(work, person)) {
            return NONE;
        }
        world.remember();
        world.now.holder[work] = person;
        world.now.sneaked |= 1 << work;
        return world.now.sneaked;
    }

    public int hand(int work, int person) {
        if (!goes(work) || !isAwake(person) || !hasHandFree(person)) {
            return NONE;
        }
        int before = world.now.holder[work];
        if (before == person || !isAwake(before)) {
            return NONE;
        }
        world.remember();
        world.now.holder[work] = person;
        return before;
    }

    public int drop(int work) {
        if (!goes(work)) {
            return NONE;
        }
        int before = world.now.holder[work];
        world.remember();
        world.now.lay(work);
        return before;
    }

    public int undo() {
        return world.undoLast() ? world.acts : -2;
    }

    private boolean canStart(int work, int person) {
        return isWork(work) && !goes(work) && isAwake(person) && hasHandFree(person);
    }

    // ---- how it goes on ----

    public int ahead(int number, int n, int what) {
        if (!world.land.told || n < 0 || n > FARTHEST_AHEAD || what < 0 || what > 2) {
            return -2;
        }
        if (what == 0 && !isWork(number) || what == 1 && !isPerson(number)) {
            return -2;
        }
        startTrial(NONE);
        stopsInTrial(n);
        switch (what) {
            case 0: return trial.holder[number];
            case 1: return trial.purse[number];
            default: return trial.chest;
        }
    }

    public int stops(int work) {
        if (!goes(work)) {
            return NONE;
        }
        startTrial(NONE);
        for (int i = 0; i < FORESIGHT; i++) {
            int hour = trial.hour;
            if ((course.passHour(trial) >> work & 1) != 0) {
                return hour;
            }
        }
        return -2;
    }

    public int save(int person, int kind) {
        if (!isPerson(person) || !isKind(kind)) {
            return NONE;
        }
        startTrial(NONE);
        for (int i = 0; i < FORESIGHT; i++) {
            if (trial.purse[person] >= world.land.price[kind]) {
                return trial.hour;
            }
            course.passHour(trial);
        }
        return -2;
    }

    public int help(int n, int what) {
        if (!world.land.told || !isPlan(n) || what < 0 || what > 1) {
            return -2;
        }
        int best = NONE;
        int fewest = 0;
        for (int person = NONE; person < world.land.people; person++) {
            startTrial(person);
            int stops = stopsInTrial(n);
            if (person == NONE || stops < fewest) {
                best = person;
                fewest = stops;
            }
        }
        return what == 0 ? best : fewest;
    }

    public int value(int work, int n) {
        if (!goes(work) || !isPlan(n)) {
            return NO_VALUE;
        }
        startTrial(NONE);
        stopsInTrial(n);
        int kept = trial.allPurses();
        startTrial(NONE);
        trial.lay(work);
        stopsInTrial(n);
        return kept - trial.allPurses();
    }

    private static boolean isPlan(int n) {
        return n >= 1 && n <= FARTHEST_PLAN;
    }

    private Rule ruleNumbered(int number) {
        return number >= 0 && number < ruleCount ? rules[number] : null;
    }

    /** Trials run on a copy, so that what is asked changes nothing. */
    private void startTrial(int helped) {
        course.follow(ruleNumbered(world.ruleInForce), helped);
        trial.copyFrom(world.now);
    }

    private int stopsInTrial(int hours) {
        int stops = 0;
        for (int i = 0; i < hours; i++) {
            stops += Integer.bitCount(course.passHour(trial));
        }
        return stops;
    }

    // ---- plans ----

    public int relay(int work, int n, int what) {
        if (!goes(work) || !isPlan(n) || what < NONE || what >= FARTHEST_PLAN) {
            return -3;
        }
        if (what >= n) {
            return -2;
        }
        relayPlan.weigh(world.land, world.now.hour, n);
        int holder = world.now.holder[work];
        int fewest = relayPlan.fewestFrom(0, holder);
        if (fewest >= RelayPlan.NEVER) {
            return -2;
        }
        return what == NONE ? fewest : relayPlan.holderIn(what, holder);
    }

    public int most(int n, int what) {
        if (!world.land.told || !isPlan(n) || what < 0 || what > 1) {
            return NONE;
        }
        int from = world.now.hour;
        int fewest = world.land.handsAwakeAt(from);
        int when = from;
        for (int hour = from + 1; hour < from + n; hour++) {
            int hands = world.land.handsAwakeAt(hour);
            if (hands < fewest) {
                fewest = hands;
                when = hour;
            }
        }
        return what == 0 ? fewest : when;
    }

    public int chains(int what) {
        if (!world.land.told || what < 0 || what > MOST_WORKS + 1) {
            return -3;
        }
        if (what > 1 && !isWork(what - 2)) {
            return -2;
        }
        chainPlan.solve(world.land);
        switch (what) {
            case 0: return chainPlan.fewest;
            case 1: return chainPlan.cost(world.land);
            default: return chainPlan.best[what - 2];
        }
    }

    public int tariff(int kind, int what) {
        if (!isKind(kind) || what < 0 || what > 1) {
            return NONE;
        }
        int lying = worksLying(kind);
        int bestPrice = 0;
        int most = 0;
        for (int price = 1; price <= 99; price++) {
            int income = price * Math.min(lying, peopleWhoHave(price));
            if (income > most) {
                most = income;
                bestPrice = price;
            }
        }
        return what == 0 ? bestPrice : most;
    }

    public int watch(int k) {
        if (!world.land.told || k < 0 || k >= DAY) {
            return NONE;
        }
        int passed = 0;
        for (int awake = 0; awake <= MOST_PEOPLE; awake++) {
            for (int hour = 0; hour < DAY; hour++) {
                if (Integer.bitCount(world.land.awakeAt(hour)) == awake) {
                    if (passed == k) {
                        return hour;
                    }
                    passed++;
                }
            }
        }
        return NONE;
    }

    private int worksLying(int kind) {
        int lying = 0;
        for (int work = 0; work < world.land.works; work++) {
            if (world.land.kindOf[work] == kind && world.now.holder[work] == NONE) {
                lying++;
            }
        }
        return lying;
    }

    private int peopleWhoHave(int price) {
        int able = 0;
        for (int person = 0; person < world.land.people; person++) {
            if (world.now.purse[person] >= price) {
                able++;
            }
        }
        return able;
    }

    // ---- logs, and the rules they speak for ----

    public int log(int n, int work, int person) {
        if (n == NONE) {
            world.logs = 0;
            return 0;
        }
        if (n < 0 || n > FARTHEST_LOG || !isWork(work) || person != NONE && !isPerson(person)) {
            return -2;
        }
        return world.addLog(n, work, person) ? world.logs : -2;
    }

    public int ruled(int what) {
        if (!world.land.told || what < 0 || what > 1) {
            return -3;
        }
        int fitting = 0;
        int first = -2;
        for (int rule = NONE; rule < ruleCount; rule++) {
            if (fitsLogs(rule, 0)) {
                first = fitting == 0 ? rule : first;
                fitting++;
            }
        }
        return what == 0 ? fitting : first;
    }

    public int look(int n, int what) {
        if (!world.land.told || n < 0 || n > FARTHEST_LOG || what < 0 || what > 1) {
            return NONE;
        }
        int fitting = 0;
        for (int rule = NONE; rule < ruleCount; rule++) {
            if (fitsLogs(rule, n)) {
                fitting |= 1 << rule + 1;
            }
        }
        if (fitting == 0) {
            return -2;
        }
        int best = -2;
        int fewest = -2;
        for (int work = 0; work < world.land.works; work++) {
            int alike = mostAlike(fitting, work);
            if (best == -2 || alike < fewest) {
                best = work;
                fewest = alike;
            }
        }
        return what == 0 ? best : fewest;
    }

    /** Runs a rule from the begin on, noting who holds what behind the hour looked at. */
    private boolean fitsLogs(int rule, int lookedAt) {
        course.follow(ruleNumbered(rule), NONE);
        trial.copyFrom(world.land.start);
        int hours = Math.max(lookedAt, world.lastLog()) + 1;
        for (int hour = 0; hour < hours; hour++) {
            course.passHour(trial);
            if (!world.agrees(trial, hour)) {
                return false;
            }
            if (hour == lookedAt) {
                System.arraycopy(trial.holder, 0, seen, (rule + 1) * MOST_WORKS, MOST_WORKS);
            }
        }
        return true;
    }

    private int mostAlike(int fitting, int work) {
        int most = 0;
        for (int holder = NONE; holder < world.land.people; holder++) {
            int alike = 0;
            for (int candidate = 0; candidate <= ruleCount; candidate++) {
                boolean fits = (fitting >> candidate & 1) != 0;
                if (fits && seen[candidate * MOST_WORKS + work] == holder) {
                    alike++;
                }
            }
            most = Math.max(most, alike);
        }
        return most;
    }

    // ---- draws ----

    public int seed(int x) {
        if (x < 0) {
            return NONE;
        }
        int before = world.x;
        world.x = x;
        return before;
    }

    public int nights(int m, int n, int p, int what) {
        if (!world.land.told || m < 1 || m > 10 || n < 1 || n > 60) {
            return NONE;
        }
        if (p < 0 || p > 100 || what < 0 || what > 1) {
            return NONE;
        }
        drawn = world.x;
        int ends = 0;
        int going = 0;
        for (int night = 0; night < m; night++) {
            startTrial(NONE);
            for (int i = 0; i < n; i++) {
                ends += dropByDraw(p);
                ends += Integer.bitCount(course.passHour(trial));
            }
            going += Integer.bitCount(trial.worksThatGo());
        }
        return what == 0 ? ends : going;
    }

    private int dropByDraw(int p) {
        if (draw() % 100 >= p) {
            return 0;
        }
        int going = Integer.bitCount(trial.worksThatGo());
        if (going == 0) {
            return 0;
        }
        trial.layGoing(draw() % going);
        return 1;
    }

    private int draw() {
        drawn = (int) (drawn * 1103515245L + 12345L & 2147483647L);
        return drawn / 65536;
    }

    // ---- images ----

    public int image(int k) {
        if (k < 0 || k >= MOST_IMAGES) {
            return NONE;
        }
        World image = images[k];
        if (image == null) {
            image = new World();
            images[k] = image;
        }
        image.copyFrom(world);
        return world.now.hour;
    }

    public int back(int k) {
        if (k < 0 || k >= MOST_IMAGES || images[k] == null) {
            return NONE;
        }
        world.copyFrom(images[k]);
        return world.now.hour;
    }

    /** The bytes that were fed and not yet read. */
    private static final class Tape {
        static final int MOST = 400;
        static final int NO_BYTE = -1;

        final int[] bytes = new int[MOST];
        int length;

        boolean hasRoom(int more) {
            return length + more <= MOST;
        }

        void put(int number) {
            for (int shift = 24; shift >= 0; shift -= 8) {
                if (length < MOST) {
                    bytes[length] = number >>> shift & 255;
                    length++;
                }
            }
        }

        int byteAt(int place) {
            return place >= 0 && place < length ? bytes[place] : NO_BYTE;
        }
    }

    /** Cuts the tape into numbers, words and signs, and keeps the first fault told of them. */
    private static final class Lexer {
        static final int ENDING = 0;
        static final int NUMBER = 1;
        static final int WORD = 2;
        static final int SIGN = 3;
        static final int TOO_LONG = -1;
        static final int MOST_DIGITS = 5;
        /** What is added to < or > when = stands right behind it. */
        static final int OR_EQUAL = 256;
        static final int MISPLACED = 0;
        static final int WRONG_NUMBER = 1;
        static final int TOO_DEEP = 2;
        static final int TOO_MANY_VALUES = 3;
        static final int WRONG_CLAUSE = 4;

        private final Tape tape;
        private int next;
        int token;
        int place;
        int number;
        int sign;
        int fault;

        Lexer(Tape tape) {
            this.tape = tape;
        }

        void restart() {
            next = 0;
            fault = 0;
        }

        void fail(int code) {
            if (fault == 0) {
                fault = 1 + 8 * place + code;
            }
        }

        void advance() {
            while (next < tape.length && tape.byteAt(next) == ' ') {
                next++;
            }
            place = next;
            int first = tape.byteAt(next);
            if (first == Tape.NO_BYTE) {
                token = ENDING;
            } else if (isDigit(first)) {
                token = NUMBER;
                readDigits();
            } else if (isLetter(first)) {
                token = WORD;
                readLetters();
            } else {
                token = SIGN;
                readSign(first);
            }
        }

        private static boolean isDigit(int sign) {
            return sign >= '0' && sign <= '9';
        }

        private static boolean isLetter(int sign) {
            return sign >= 'a' && sign <= 'z';
        }

        private void readDigits() {
            number = 0;
            while (next < tape.length && isDigit(tape.byteAt(next))) {
                if (next - place < MOST_DIGITS) {
                    number = number * 10 + tape.byteAt(next) - '0';
                } else {
                    number = TOO_LONG;
                }
                next++;
            }
        }

        private void readLetters() {
            while (next < tape.length && isLetter(tape.byteAt(next))) {
                next++;
            }
        }

        private void readSign(int first) {
            sign = first;
            next++;
            if ((first == '<' || first == '>') && tape.byteAt(next) == '=') {
                sign += OR_EQUAL;
                next++;
            }
        }

        boolean isSign(int wanted) {
            return token == SIGN && sign == wanted;
        }

        boolean endsClause() {
            return token == ENDING || isSign(';');
        }

        /** Which of the names, with single blanks between, the word is; NONE if it is none. */
        int wordAmong(String names) {
            if (token != WORD) {
                return NONE;
            }
            int index = 0;
            int start = 0;
            for (int i = 0; i <= names.length(); i++) {
                if (i == names.length() || names.charAt(i) == ' ') {
                    if (spells(names, start, i)) {
                        return index;
                    }
                    index++;
                    start = i + 1;
                }
            }
            return NONE;
        }

        private boolean spells(String names, int from, int to) {
            if (to - from != next - place) {
                return false;
            }
            for (int i = from; i < to; i++) {
                if (names.charAt(i) != tape.byteAt(place + i - from)) {
                    return false;
                }
            }
            return true;
        }
    }

    /** Reads a duchy into a draft, so that a fault leaves the duchy that stands untouched. */
    private static final class DuchyReader {
        static final int MOST_CLAUSES = 40;
        static final String CLAUSES = "duchy kind person work held after";
        static final int DUCHY = 0;
        static final int KIND = 1;
        static final int PERSON = 2;
        static final int WORK = 3;
        static final int HELD = 4;
        static final int AFTER = 5;

        private final Lexer lexer;
        final Land draft = new Land();

        DuchyReader(Tape tape) {
            lexer = new Lexer(tape);
        }

        /** The fault, 0 if there is none. */
        int read() {
            lexer.restart();
            draft.clear();
            boolean more = true;
            for (int clauses = 0; more && clauses <= MOST_CLAUSES; clauses++) {
                switch (openClause(clauses)) {
                    case DUCHY: readDuchy(); break;
                    case KIND: readKind(); break;
                    case PERSON: readPerson(); break;
                    case WORK: readWork(); break;
                    case HELD: readHeld(); break;
                    case AFTER: readAfter(); break;
                    default: break;
                }
                more = lexer.fault == 0 && hasMore();
            }
            return lexer.fault;
        }

        /** Which clause it is; NONE behind a fault. */
        private int openClause(int clausesBefore) {
            lexer.advance();
            int clause = lexer.wordAmong(CLAUSES);
            if (clause == NONE) {
                lexer.fail(Lexer.MISPLACED);
            } else if (clausesBefore >= MOST_CLAUSES || !canStand(clause)) {
                lexer.fail(Lexer.WRONG_CLAUSE);
            }
            return lexer.fault == 0 ? clause : NONE;
        }

        private boolean hasMore() {
            lexer.advance();
            if (!lexer.endsClause()) {
                lexer.fail(Lexer.MISPLACED);
            }
            return lexer.isSign(';');
        }

        private boolean canStand(int clause) {
            switch (clause) {
                case DUCHY: return !draft.told;
                case KIND: return draft.told && draft.kinds < MOST_KINDS;
                case PERSON: return draft.told && draft.people < MOST_PEOPLE;
                case WORK: return draft.told && draft.works < MOST_WORKS;
                default: return draft.told;
            }
        }

        private int readNumber(int least, int most) {
            if (lexer.fault != 0) {
                return NONE;
            }
            lexer.advance();
            if (lexer.token != Lexer.NUMBER) {
                lexer.fail(Lexer.MISPLACED);
                return NONE;
            }
            if (lexer.number < least || lexer.number > most) {
                lexer.fail(Lexer.WRONG_NUMBER);
            }
            return lexer.number;
        }

        private void readDuchy() {
            draft.told = true;
            draft.fine = readNumber(0, 99);
            draft.start.chest = readNumber(0, 9999);
        }

        private void readKind() {
            int price = readNumber(0, 99);
            int worth = readNumber(0, 9);
            if (lexer.fault == 0) {
                draft.addKind(price, worth);
            }
        }

        private void readPerson() {
            int purse = readNumber(0, 999);
            int first = readNumber(0, DAY - 1);
            int span = readNumber(0, DAY);
            int hands = readNumber(1, 3);
            if (lexer.fault == 0) {
                draft.addPerson(purse, first, span, hands);
            }
        }

        private void readWork() {
            int kind = readNumber(0, draft.kinds - 1);
            if (lexer.fault == 0) {
                draft.addWork(kind);
            }
        }

        private void readHeld() {
            int work = readNumber(0, draft.works - 1);
            int person = readNumber(0, draft.people - 1);
            if (lexer.fault != 0) {
                return;
            }
            State start = draft.start;
            // Where the work goes already, it is told of the person too that they can't hold it.
            if (start.holder[work] != NONE || start.load(person) >= draft.hands[person]) {
                lexer.fail(Lexer.WRONG_NUMBER);
                return;
            }
            start.holder[work] = person;
        }

        private void readAfter() {
            int work = readNumber(0, draft.works - 1);
            int from = readNumber(0, draft.works - 1);
            if (lexer.fault != 0) {
                return;
            }
            if (work == from) {
                lexer.fail(Lexer.WRONG_NUMBER);
                return;
            }
            draft.after[work] |= 1 << from;
        }
    }

    /** Rules are kept as codes in the order of their working out: operands ahead of operators. */
    private static final class Rule {
        static final int NUMBER = 0;
        static final int WORD = 1;
        static final int TIMES = 2;
        static final int BY = 3;
        static final int REST = 4;
        static final int PLUS = 5;
        static final int MINUS = 6;
        static final int BELOW = 7;
        static final int AT_MOST = 8;
        static final int EQUAL = 9;
        static final int AT_LEAST = 10;
        static final int ABOVE = 11;
        static final int NOT = 12;
        static final int AND = 13;
        static final int OR = 14;
        static final int OPEN = 15;
        static final int TAKE = 16;
        static final int TAKE_IF = 17;
        /** A code is its operation, and above these bits a number or a word. */
        static final int BITS = 5;
        /** Ten brackets with an or and an and in each, and a sum in the last, stay far below. */
        static final int DEEPEST = 64;

        final int[] codes;

        Rule(int[] codes, int length) {
            this.codes = Arrays.copyOf(codes, Math.max(0, length));
        }

        static long compute(int operation, long a, long b) {
            switch (operation) {
                case TIMES: return a * b;
                case BY: return b == 0 ? 0 : a / b;
                case REST: return b == 0 ? 0 : a % b;
                case PLUS: return a + b;
                case MINUS: return a - b;
                case BELOW: return a < b ? 1 : 0;
                case AT_MOST: return a <= b ? 1 : 0;
                case EQUAL: return a == b ? 1 : 0;
                case AT_LEAST: return a >= b ? 1 : 0;
                case ABOVE: return a > b ? 1 : 0;
                case AND: return a & b;
                default: return a | b;
            }
        }
    }

    /** Reads a rule by operator levels rather than by recursion, so that depth costs no calls. */
    private static final class RuleReader {
        static final int MOST_CLAUSES = 12;
        static final int MOST_DEEP = 10;
        static final int MOST_VALUES = 60;
        static final String VALUES =
            "person work kind worth price purse holds hands hour awake sneaked stopped";
        static final String LINKS = "take if and or not";
        static final int LINK_TAKE = 0;
        static final int LINK_IF = 1;
        static final int LINK_AND = 2;
        static final int LINK_OR = 3;
        static final int LINK_NOT = 4;
        /** By operation: what binds closer has the higher level; an open bracket holds all back. */
        static final int[] LEVEL = {9, 9, 6, 6, 6, 5, 5, 4, 4, 4, 4, 4, 3, 2, 1, 0};
        static final int SUM_LEVEL = 5;
        static final int TEST_LEVEL = 1;
        static final int WANTS_VALUE = 0;
        static final int WANTS_FACT = 1;
        static final int HAS_VALUE = 2;
        static final int HAS_FACT = 3;
        static final int HAS_CLAUSE = 4;
        static final int TAKEN_SUM = 0;
        static final int LEFT_SUM = 1;
        static final int RIGHT_SUM = 2;

        private final Lexer lexer;
        private final int[] waiting = new int[Rule.DEEPEST];
        private int waits;
        private int state;
        private int part;
        private int depth;
        private int values;
        /** Each byte of a text gives one code at most, and its end one more. */
        final int[] codes = new int[Tape.MOST + 1];
        int length;

        RuleReader(Tape tape) {
            lexer = new Lexer(tape);
        }

        /** The fault, 0 if there is none. */
        int read() {
            lexer.restart();
            length = 0;
            values = 0;
            for (int clause = 0; clause <= MOST_CLAUSES && lexer.fault == 0; clause++) {
                readTake(clause);
                readClause();
                if (lexer.fault == 0 && lexer.token == Lexer.ENDING) {
                    return 0;
                }
            }
            return lexer.fault;
        }

        private void readTake(int clausesBefore) {
            lexer.advance();
            if (lexer.wordAmong(LINKS) != LINK_TAKE) {
                lexer.fail(Lexer.MISPLACED);
            } else if (clausesBefore >= MOST_CLAUSES) {
                lexer.fail(Lexer.WRONG_CLAUSE);
            }
            waits = 0;
            depth = 0;
            state = WANTS_VALUE;
            part = TAKEN_SUM;
        }

        private void readClause() {
            for (int i = 0; i <= Tape.MOST && state != HAS_CLAUSE && lexer.fault == 0; i++) {
                lexer.advance();
                if (state == HAS_VALUE && endsFact()) {
                    state = HAS_FACT;
                }
                if (state == WANTS_FACT && !opensDeeper()) {
                    part = LEFT_SUM;
                    state = WANTS_VALUE;
                }
                switch (state) {
                    case WANTS_VALUE: readValue(); break;
                    case WANTS_FACT: deepen(); break;
                    case HAS_VALUE: goOnFromValue(); break;
                    default: goOnFromFact(); break;
                }
            }
        }

        private void readValue() {
            int word = lexer.wordAmong(VALUES);
            if (lexer.token != Lexer.NUMBER && word == NONE) {
                lexer.fail(Lexer.MISPLACED);
            } else if (word == NONE && lexer.number == Lexer.TOO_LONG) {
                lexer.fail(Lexer.WRONG_NUMBER);
            } else {
                countValue();
            }
            emit(word == NONE ? lexer.number << Rule.BITS | Rule.NUMBER : word << Rule.BITS | Rule.WORD);
            state = HAS_VALUE;
        }

        private void countValue() {
            if (values >= MOST_VALUES) {
                lexer.fail(Lexer.TOO_MANY_VALUES);
            }
            values++;
        }

        private boolean opensDeeper() {
            return lexer.isSign('[') || lexer.wordAmong(LINKS) == LINK_NOT;
        }

        private void deepen() {
            if (depth >= MOST_DEEP) {
                lexer.fail(Lexer.TOO_DEEP);
            }
            depth++;
            push(lexer.isSign('[') ? Rule.OPEN : Rule.NOT);
        }

        private static boolean isOfSums(int operation) {
            return operation != NONE && LEVEL[operation] >= SUM_LEVEL;
        }

        private boolean endsFact() {
            return part == RIGHT_SUM && !isOfSums(operationOfSign());
        }

        private void goOnFromValue() {
            int operation = operationOfSign();
            if (isOfSums(operation)) {
                settleDownTo(LEVEL[operation]);
                push(operation);
                state = WANTS_VALUE;
            } else if (part == LEFT_SUM) {
                compareWith(operation);
            } else {
                endTakenSum();
            }
        }

        private void compareWith(int operation) {
            if (operation == NONE) {
                lexer.fail(Lexer.MISPLACED);
                return;
            }
            countValue();
            settleDownTo(SUM_LEVEL);
            push(operation);
            part = RIGHT_SUM;
            state = WANTS_VALUE;
        }

        private void endTakenSum() {
            settleDownTo(SUM_LEVEL);
            if (lexer.endsClause()) {
                emit(Rule.TAKE);
                state = HAS_CLAUSE;
            } else if (lexer.wordAmong(LINKS) == LINK_IF) {
                state = WANTS_FACT;
            } else {
                lexer.fail(Lexer.MISPLACED);
            }
        }

        private void goOnFromFact() {
            int link = lexer.wordAmong(LINKS);
            if (link == LINK_AND || link == LINK_OR) {
                int operation = link == LINK_AND ? Rule.AND : Rule.OR;
                settleDownTo(LEVEL[operation]);
                push(operation);
                state = WANTS_FACT;
            } else if (lexer.isSign(']')) {
                closeBracket();
            } else if (lexer.endsClause()) {
                endTest();
            } else {
                lexer.fail(Lexer.MISPLACED);
            }
        }

        private void closeBracket() {
            settleDownTo(TEST_LEVEL);
            if (waits == 0) {
                lexer.fail(Lexer.MISPLACED);
                return;
            }
            waits--;
            depth--;
            state = HAS_FACT;
        }

        private void endTest() {
            settleDownTo(TEST_LEVEL);
            if (waits > 0) {
                lexer.fail(Lexer.MISPLACED);
            }
            emit(Rule.TAKE_IF);
            state = HAS_CLAUSE;
        }

        private int operationOfSign() {
            if (lexer.token != Lexer.SIGN) {
                return NONE;
            }
            switch (lexer.sign) {
                case '*': return Rule.TIMES;
                case '/': return Rule.BY;
                case '%': return Rule.REST;
                case '+': return Rule.PLUS;
                case '-': return Rule.MINUS;
                case '<': return Rule.BELOW;
                case '<' + Lexer.OR_EQUAL: return Rule.AT_MOST;
                case '=': return Rule.EQUAL;
                case '>' + Lexer.OR_EQUAL: return Rule.AT_LEAST;
                case '>': return Rule.ABOVE;
                default: return NONE;
            }
        }

        private void settleDownTo(int level) {
            while (waits > 0 && LEVEL[waiting[waits - 1]] >= level) {
                waits--;
                if (waiting[waits] == Rule.NOT) {
                    depth--;
                }
                emit(waiting[waits]);
            }
        }

        private void push(int operation) {
            if (waits < waiting.length) {
                waiting[waits] = operation;
                waits++;
            }
        }

        private void emit(int code) {
            if (length < codes.length) {
                codes[length] = code;
                length++;
            }
        }
    }

    /** What acts change: kept small, as it is copied for each act and each trial. */
    private static final class State {
        final int[] holder = new int[MOST_WORKS];
        final int[] stopped = new int[MOST_WORKS];
        final int[] purse = new int[MOST_PEOPLE];
        int sneaked;
        int chest;
        int hour;

        State() {
            Arrays.fill(holder, NONE);
        }

        void clear() {
            Arrays.fill(holder, NONE);
            Arrays.fill(stopped, 0);
            Arrays.fill(purse, 0);
            sneaked = 0;
            chest = 0;
            hour = 0;
        }

        void copyFrom(State other) {
            System.arraycopy(other.holder, 0, holder, 0, MOST_WORKS);
            System.arraycopy(other.stopped, 0, stopped, 0, MOST_WORKS);
            System.arraycopy(other.purse, 0, purse, 0, MOST_PEOPLE);
            sneaked = other.sneaked;
            chest = other.chest;
            hour = other.hour;
        }

        int worksHeldBy(int person) {
            int works = 0;
            for (int work = 0; work < MOST_WORKS; work++) {
                if (holder[work] == person) {
                    works |= 1 << work;
                }
            }
            return works;
        }

        int load(int person) {
            int works = 0;
            for (int work = 0; work < MOST_WORKS; work++) {
                if (holder[work] == person) {
                    works++;
                }
            }
            return works;
        }

        int worksThatGo() {
            int works = 0;
            for (int work = 0; work < MOST_WORKS; work++) {
                if (holder[work] != NONE) {
                    works |= 1 << work;
                }
            }
            return works;
        }

        int sneakedBit(int work) {
            return sneaked >> work & 1;
        }

        int allPurses() {
            int sum = 0;
            for (int person = 0; person < MOST_PEOPLE; person++) {
                sum += purse[person];
            }
            return sum;
        }

        void lay(int work) {
            holder[work] = NONE;
            sneaked &= ~(1 << work);
        }

        /** Lays the work that has so many others that go ahead of it. */
        void layGoing(int others) {
            int left = others;
            for (int work = 0; work < MOST_WORKS; work++) {
                if (holder[work] != NONE) {
                    if (left == 0) {
                        lay(work);
                        return;
                    }
                    left--;
                }
            }
        }

        void payIntoChest(int person, int amount) {
            purse[person] -= amount;
            chest = Math.min(MOST_CHEST, chest + amount);
        }
    }

    /** What the text of a duchy told, and how all stood at its begin. */
    private static final class Land {
        boolean told;
        int fine;
        int kinds;
        int people;
        int works;
        final int[] price = new int[MOST_KINDS];
        final int[] worth = new int[MOST_KINDS];
        final int[] first = new int[MOST_PEOPLE];
        final int[] span = new int[MOST_PEOPLE];
        final int[] hands = new int[MOST_PEOPLE];
        final int[] kindOf = new int[MOST_WORKS];
        final int[] after = new int[MOST_WORKS];
        final State start = new State();

        void clear() {
            told = false;
            fine = 0;
            kinds = 0;
            people = 0;
            works = 0;
            start.clear();
        }

        void copyFrom(Land other) {
            told = other.told;
            fine = other.fine;
            kinds = other.kinds;
            people = other.people;
            works = other.works;
            System.arraycopy(other.price, 0, price, 0, MOST_KINDS);
            System.arraycopy(other.worth, 0, worth, 0, MOST_KINDS);
            System.arraycopy(other.first, 0, first, 0, MOST_PEOPLE);
            System.arraycopy(other.span, 0, span, 0, MOST_PEOPLE);
            System.arraycopy(other.hands, 0, hands, 0, MOST_PEOPLE);
            System.arraycopy(other.kindOf, 0, kindOf, 0, MOST_WORKS);
            System.arraycopy(other.after, 0, after, 0, MOST_WORKS);
            start.copyFrom(other.start);
        }

        void addKind(int itsPrice, int itsWorth) {
            if (kinds < MOST_KINDS) {
                price[kinds] = itsPrice;
                worth[kinds] = itsWorth;
                kinds++;
            }
        }

        void addPerson(int purse, int firstAsleep, int hoursAsleep, int theirHands) {
            if (people < MOST_PEOPLE) {
                start.purse[people] = purse;
                first[people] = firstAsleep;
                span[people] = hoursAsleep;
                hands[people] = theirHands;
                people++;
            }
        }

        void addWork(int itsKind) {
            if (works < MOST_WORKS) {
                kindOf[works] = itsKind;
                after[works] = 0;
                works++;
            }
        }

        boolean isAsleep(int person, int hour) {
            return Math.floorMod(hour - first[person], DAY) < span[person];
        }

        /** How long somebody who is awake stays so, this hour the first. */
        int hoursAwake(int person, int hour) {
            return span[person] == 0 ? DAY : Math.floorMod(first[person] - hour, DAY);
        }

        int awakeAt(int hour) {
            int awake = 0;
            for (int person = 0; person < people; person++) {
                if (!isAsleep(person, hour)) {
                    awake |= 1 << person;
                }
            }
            return awake;
        }

        int handsAwakeAt(int hour) {
            int sum = 0;
            for (int person = 0; person < people; person++) {
                if (!isAsleep(person, hour)) {
                    sum += hands[person];
                }
            }
            return sum;
        }
    }

    /** All that an image keeps. */
    private static final class World {
        final Land land = new Land();
        final State now = new State();
        /** A ring: the oldest act gives its place to the newest when all are taken. */
        private final State[] past = new State[MOST_ACTS];
        private int nextPast;
        int acts;
        private final int[] logHour = new int[MOST_LOGS];
        private final int[] logWork = new int[MOST_LOGS];
        private final int[] logPerson = new int[MOST_LOGS];
        int logs;
        int ruleInForce = NONE;
        int x;

        void settle(Land draft) {
            land.copyFrom(draft);
            now.copyFrom(draft.start);
            acts = 0;
            logs = 0;
        }

        void copyFrom(World other) {
            land.copyFrom(other.land);
            now.copyFrom(other.now);
            for (int i = 0; i < MOST_ACTS; i++) {
                if (other.past[i] != null) {
                    keepPast(i, other.past[i]);
                }
            }
            nextPast = other.nextPast;
            acts = other.acts;
            System.arraycopy(other.logHour, 0, logHour, 0, MOST_LOGS);
            System.arraycopy(other.logWork, 0, logWork, 0, MOST_LOGS);
            System.arraycopy(other.logPerson, 0, logPerson, 0, MOST_LOGS);
            logs = other.logs;
            ruleInForce = other.ruleInForce;
            x = other.x;
        }

        private void keepPast(int slot, State state) {
            State kept = past[slot];
            if (kept == null) {
                kept = new State();
                past[slot] = kept;
            }
            kept.copyFrom(state);
        }

        /** To be called ahead of each act. */
        void remember() {
            keepPast(nextPast, now);
            nextPast = (nextPast + 1) % MOST_ACTS;
            acts = Math.min(MOST_ACTS, acts + 1);
        }

        boolean undoLast() {
            int last = (nextPast + MOST_ACTS - 1) % MOST_ACTS;
            if (acts == 0 || past[last] == null) {
                return false;
            }
            now.copyFrom(past[last]);
            nextPast = last;
            acts--;
            return true;
        }

        boolean addLog(int hour, int work, int person) {
            if (logs >= MOST_LOGS) {
                return false;
            }
            logHour[logs] = hour;
            logWork[logs] = work;
            logPerson[logs] = person;
            logs++;
            return true;
        }

        int lastLog() {
            int last = 0;
            for (int i = 0; i < logs; i++) {
                last = Math.max(last, logHour[i]);
            }
            return last;
        }

        /** Whether a state behind an hour is as the logs of that hour tell. */
        boolean agrees(State state, int hour) {
            for (int i = 0; i < logs; i++) {
                if (logHour[i] == hour && state.holder[logWork[i]] != logPerson[i]) {
                    return false;
                }
            }
            return true;
        }
    }

    /** Lets hours pass over a state, in a land and by a rule. */
    private static final class Course {
        private final long[] stack = new long[Rule.DEEPEST];
        private final Land land;
        private Rule rule;
        /** Who has one hand more than the land told; NONE if nobody. */
        private int helped = NONE;

        Course(Land land) {
            this.land = land;
        }

        /** From here on hours go by this rule (null: by none). */
        void follow(Rule ruleOrNull, int whoIsHelped) {
            rule = ruleOrNull;
            helped = whoIsHelped;
        }

        /** One hour: the works that stopped in it, as bits. */
        int passHour(State state) {
            int stops = 0;
            for (int work = 0; work < land.works; work++) {
                int holder = state.holder[work];
                if (holder != NONE && land.isAsleep(holder, state.hour)) {
                    int heir = heirOf(state, work);
                    if (heir == NONE) {
                        state.lay(work);
                        state.stopped[work]++;
                        stops |= 1 << work;
                    } else {
                        state.holder[work] = heir;
                    }
                }
            }
            payHolders(state);
            if (state.hour % DAY == 0) {
                sendClerk(state);
            }
            state.hour++;
            return stops;
        }

        private void payHolders(State state) {
            for (int work = 0; work < land.works; work++) {
                int holder = state.holder[work];
                if (holder != NONE) {
                    int worth = land.worth[land.kindOf[work]];
                    state.purse[holder] = Math.min(MOST_PURSE, state.purse[holder] + worth);
                }
            }
        }

        private void sendClerk(State state) {
            for (int work = 0; work < land.works; work++) {
                int holder = state.holder[work];
                if (holder != NONE && state.sneakedBit(work) != 0) {
                    state.payIntoChest(holder, Math.min(land.fine, state.purse[holder]));
                }
            }
            state.sneaked = 0;
        }

        private int heirOf(State state, int work) {
            int best = NONE;
            long most = 0;
            for (int person = 0; person < land.people; person++) {
                if (!land.isAsleep(person, state.hour) && state.load(person) < handsOf(person)) {
                    if (rule == null) {
                        return person;
                    }
                    long sum = sumFor(state, work, person);
                    if (sum > most) {
                        most = sum;
                        best = person;
                    }
                }
            }
            return best;
        }

        private int handsOf(int person) {
            return land.hands[person] + (person == helped ? 1 : 0);
        }

        /** What the rule's first clause that holds takes of a person who is awake. */
        private long sumFor(State state, int work, int person) {
            int top = 0;
            for (int i = 0; i < rule.codes.length; i++) {
                int operation = rule.codes[i] & (1 << Rule.BITS) - 1;
                int operand = rule.codes[i] >> Rule.BITS;
                if (operation == Rule.NUMBER || operation == Rule.WORD) {
                    if (top < Rule.DEEPEST) {
                        stack[top] = operation == Rule.NUMBER ? operand : wordOf(operand, state, work, person);
                        top++;
                    }
                } else if (operation == Rule.NOT && top >= 1) {
                    stack[top - 1] = 1 - stack[top - 1];
                } else if (operation == Rule.TAKE && top >= 1) {
                    return stack[top - 1];
                } else if (operation == Rule.TAKE_IF && top >= 2) {
                    if (stack[top - 1] != 0) {
                        return stack[top - 2];
                    }
                    top -= 2;
                } else if (top >= 2) {
                    stack[top - 2] = Rule.compute(operation, stack[top - 2], stack[top - 1]);
                    top--;
                }
            }
            return 0;
        }

        /** In the order of the words that the rule's reader knows. */
        private long wordOf(int word, State state, int work, int person) {
            switch (word) {
                case 0: return person;
                case 1: return work;
                case 2: return land.kindOf[work];
                case 3: return land.worth[land.kindOf[work]];
                case 4: return land.price[land.kindOf[work]];
                case 5: return state.purse[person];
                case 6: return state.load(person);
                case 7: return handsOf(person);
                case 8: return state.hour;
                case 9: return land.hoursAwake(person, state.hour);
                case 10: return state.sneakedBit(work);
                default: return state.stopped[work];
            }
        }
    }

    /** Who should hold a work in each of the next hours, so that it is handed least often. */
    private static final class RelayPlan {
        /** Above any number of handings that a plan can have. */
        static final int NEVER = 1000;

        /** By hour and person: the fewest handings behind that hour, if they hold it in that hour. */
        private final int[] cost = new int[FARTHEST_PLAN * MOST_PEOPLE];
        private int people;

        void weigh(Land land, int from, int hours) {
            people = land.people;
            for (int k = hours - 1; k >= 0; k--) {
                for (int person = 0; person < people; person++) {
                    int handings = k == hours - 1 ? 0 : fewestFrom(k + 1, person);
                    cost[k * MOST_PEOPLE + person] = land.isAsleep(person, from + k) ? NEVER : handings;
                }
            }
        }

        /** The fewest handings from ahead of the k-th hour on, if this person held it till then. */
        int fewestFrom(int k, int before) {
            int fewest = NEVER;
            for (int person = 0; person < people; person++) {
                fewest = Math.min(fewest, handingsBy(k, before, person));
            }
            return fewest;
        }

        private int handingsBy(int k, int before, int person) {
            return cost[k * MOST_PEOPLE + person] + (person == before ? 0 : 1);
        }

        int holderIn(int wanted, int atFirst) {
            int holder = atFirst;
            for (int k = 0; k <= wanted; k++) {
                holder = firstBest(k, holder);
            }
            return holder;
        }

        private int firstBest(int k, int before) {
            int fewest = fewestFrom(k, before);
            for (int person = 0; person < people; person++) {
                if (handingsBy(k, before, person) == fewest) {
                    return person;
                }
            }
            return before;
        }
    }

    /** What each work goes on from, so that fewest begin. */
    private static final class ChainPlan {
        private final int[] row = new int[MOST_WORKS];
        final int[] best = new int[MOST_WORKS];
        int fewest;

        void solve(Land land) {
            fewest = land.works + 1;
            tryRows(land, 0, 0, 0);
        }

        /** Rows are tried first ones first, so that only fewer may take the place of the best. */
        private void tryRows(Land land, int work, int used, int begun) {
            if (begun >= fewest) {
                return;
            }
            if (work >= land.works || work >= MOST_WORKS) {
                fewest = begun;
                System.arraycopy(row, 0, best, 0, MOST_WORKS);
                return;
            }
            row[work] = NONE;
            tryRows(land, work + 1, used, begun + 1);
            for (int from = 0; from < land.works; from++) {
                boolean free = (land.after[work] & ~used & 1 << from) != 0;
                if (free && !leadsTo(from, work)) {
                    row[work] = from;
                    tryRows(land, work + 1, used | 1 << from, begun);
                }
            }
        }

        /** Only works ahead of this one are in the row yet: a ring is seen at its last work. */
        private boolean leadsTo(int from, int work) {
            int at = from;
            for (int i = 0; i < MOST_WORKS && at >= 0 && at < work; i++) {
                at = row[at];
            }
            return at == work;
        }

        int cost(Land land) {
            int sum = 0;
            for (int work = 0; work < land.works; work++) {
                if (best[work] == NONE) {
                    sum += land.price[land.kindOf[work]];
                }
            }
            return sum;
        }
    }
}
