import java.util.Arrays;
import java.util.NoSuchElementException;

/** Houses that pass risk on to one another; the promises are told in ../shared/DOC.md. */
public final class CoverHouses {
    public static final int NONE = -1;

    private static final int LAST_DAY = 9999;
    private static final int MOST_DAYS_AT_ONCE = 1000;
    private static final int HOURS_OF_A_DAY = 24;
    private static final int LAST_HOUR = 239999;
    private static final int DAYS_OF_A_YEAR = 365;
    private static final int LAST_YEAR = 26;
    private static final int LAST_LAG = 9;
    private static final int LAST_PLACE = 999;
    private static final int MOST_AMOUNT = 100000;
    private static final int MOST_PURSE = 99999999;
    private static final int MOST_SUM = 999999;
    private static final int CAUSES = 8;
    private static final int STORMS = 6;
    private static final int STORM_SETS = 64;
    private static final int MOST_HOUSES = 12;
    private static final int MOST_TREATIES = 24;
    private static final int MOST_PARTS = 11;
    private static final int MOST_LOSSES = 60;
    private static final int MOST_WORDS = 300;
    private static final int MOST_SIGNS = 1500;
    private static final int WHOLE = 1000;

    private final Tape tape = new Tape();
    private final Reader reader = new Reader(tape);
    private final Book book = new Book();
    private final Reckoning reckoning = new Reckoning(book);
    private final Trials trials = new Trials(reckoning);
    private final Clearing clearing = new Clearing();
    private Terms terms = new Terms();
    private int now = 0;
    private int toldView = NONE;
    private int leftOut = 0;
    private boolean reckoned = false;
    private boolean cleared = false;

    public CoverHouses() {
    }

    public int days(int n) {
        if (!isWithin(n, MOST_DAYS_AT_ONCE) || now + n > LAST_DAY) {
            return NONE;
        }
        now += n;
        return now;
    }

    public boolean view(int day) {
        if (!isWithin(day, now)) {
            return false;
        }
        // NOW itself is not kept as a number, so that THE VIEW goes on with it.
        toldView = day == now ? NONE : day;
        forgetAnswers();
        return true;
    }

    public int feed(long a, long b, long c) {
        tape.addBytes(a);
        tape.addBytes(b);
        tape.addBytes(c);
        return tape.length;
    }

    public int wording() {
        int fault = reader.readDraft();
        tape.length = 0;
        if (fault == 0) {
            Terms ahead = terms;
            terms = reader.draft;
            reader.draft = ahead;
            reckoning.forgetSolved();
            forgetAnswers();
        }
        return fault;
    }

    public int loss(int house, int hour, int place, int cause, int storm, int amount) {
        boolean fits = isWithin(house, MOST_HOUSES - 1) && isWithin(hour, LAST_HOUR)
                && hour / HOURS_OF_A_DAY <= now && isWithin(place, LAST_PLACE)
                && isWithin(cause, CAUSES - 1) && isWithin(storm, STORMS - 1)
                && isWithin(amount, MOST_AMOUNT);
        if (!fits || book.losses >= MOST_LOSSES || book.words >= MOST_WORDS) {
            return NONE;
        }
        int loss = book.addLoss(house, hour, place, cause, storm);
        book.addWord(loss, now, amount);
        forgetAnswers();
        return loss;
    }

    public boolean word(int loss, int amount) {
        if (!isLoss(loss) || !isWithin(amount, MOST_AMOUNT) || book.words >= MOST_WORDS) {
            return false;
        }
        book.addWord(loss, now, amount);
        forgetAnswers();
        return true;
    }

    public boolean split(int loss, boolean yes) {
        if (!isLoss(loss)) {
            return false;
        }
        book.isSplit[loss] = yes;
        forgetAnswers();
        return true;
    }

    public boolean leave(int storm, boolean yes) {
        if (!isWithin(storm, STORMS - 1)) {
            return false;
        }
        int bit = 1 << storm;
        leftOut = yes ? leftOut | bit : leftOut & ~bit;
        forgetAnswers();
        return true;
    }

    public int events() {
        reckonIfNeeded();
        return reckoning.gathering.found;
    }

    public int event(int event, int what) {
        reckonIfNeeded();
        if (!isEvent(event)) {
            return NONE;
        }
        Happening happening = reckoning.happeningAt(event);
        switch (what) {
            case 0:
                return happening.firstLoss;
            case 1:
                return happening.losses;
            case 2:
                return happening.rounds;
            case 3:
                return happening.isEndless ? 1 : 0;
            case 4:
                return happening.directOfAll();
            default:
                return NONE;
        }
    }

    public int eventOf(int loss) {
        if (!isLoss(loss)) {
            return NONE;
        }
        reckonIfNeeded();
        return reckoning.gathering.joined[loss];
    }

    public int gross(int event, int house, int what) {
        reckonIfNeeded();
        if (!isEvent(event) || !isHouse(house)) {
            return NONE;
        }
        Happening happening = reckoning.happeningAt(event);
        switch (what) {
            case 0:
                return happening.direct[house];
            case 1:
                return happening.gross[house];
            case 2:
                return happening.rest[house];
            default:
                return NONE;
        }
    }

    public int treaty(int event, int treaty, int what) {
        reckonIfNeeded();
        if (!isEvent(event) || !isTreaty(treaty)) {
            return NONE;
        }
        Happening happening = reckoning.happeningAt(event);
        switch (what) {
            case 0:
                return happening.base[treaty];
            case 1:
                return happening.use[treaty];
            case 2:
                return happening.paid[treaty];
            case 3:
                return happening.reinstated[treaty];
            case 4:
                return happening.premium[treaty];
            default:
                return NONE;
        }
    }

    public int left(int treaty) {
        if (!isTreaty(treaty) || !terms.treaties[treaty].isLayer) {
            return NONE;
        }
        reckonIfNeeded();
        return reckoning.leftOf(terms, treaty);
    }

    public boolean commute(int treaty, int sum) {
        if (!isTreaty(treaty) || !isWithin(sum, MOST_SUM)) {
            return false;
        }
        Treaty told = terms.treaties[treaty];
        if (told.commutedDay != NONE) {
            return false;
        }
        told.commutedDay = now;
        told.commutedSum = sum;
        forgetAnswers();
        return true;
    }

    public int owed(int a, int b) throws NoSuchElementException {
        if (!isHouse(a) || !isHouse(b) || a == b) {
            throw new NoSuchElementException("no such houses");
        }
        reckonIfNeeded();
        return reckoning.owedBy(a, b);
    }

    public int bears(int house) throws NoSuchElementException {
        if (!isHouse(house)) {
            throw new NoSuchElementException("no such house");
        }
        reckonIfNeeded();
        return reckoning.burdenOf(house);
    }

    public int wants(int house) {
        if (!isHouse(house)) {
            return NONE;
        }
        if (!trials.haveSplits) {
            trials.trySplits(terms, viewDay(), stormsIn());
            reckoned = false;
        }
        return trials.wanted[house];
    }

    public int worst(int house, int k) {
        if (!isHouse(house) || k < 1 || k > STORMS) {
            return NONE;
        }
        if (!trials.haveStorms) {
            trials.tryStorms(terms, viewDay(), stormsIn());
            reckoned = false;
        }
        return trials.worstSet(house, k);
    }

    public boolean purse(int house, int n) {
        if (!isWithin(house, MOST_HOUSES - 1) || !isWithin(n, MOST_PURSE)) {
            return false;
        }
        clearing.purse[house] = n;
        cleared = false;
        return true;
    }

    public int clears(int house, int what) throws NoSuchElementException {
        if (!isHouse(house) || !isWithin(what, 4)) {
            throw new NoSuchElementException("no such house or what");
        }
        clearIfNeeded();
        switch (what) {
            case 0:
                return clearing.owes[house];
            case 1:
                return clearing.pays[house];
            case 2:
                return clearing.gets[house];
            case 3:
                return clearing.hasFailed[house] ? 1 : 0;
            default:
                return clearing.rounds;
        }
    }

    public int known(int house, int year, int lag) {
        boolean fits = isWithin(house, MOST_HOUSES - 1) && isWithin(year, LAST_YEAR)
                && isWithin(lag, LAST_LAG);
        if (!fits || Book.lateDay(year, lag) > viewDay()) {
            return NONE;
        }
        return book.sumOfYear(house, year, lag);
    }

    public int factor(int house, int lag) {
        if (!isWithin(house, MOST_HOUSES - 1) || !isWithin(lag, LAST_LAG - 1)) {
            return NONE;
        }
        return book.growth(house, lag, viewDay());
    }

    public int foretold(int house, int year) {
        if (!isWithin(house, MOST_HOUSES - 1) || !isWithin(year, LAST_YEAR)) {
            return NONE;
        }
        return book.foretell(house, year, viewDay());
    }

    public int look(int loss, int what) throws NoSuchElementException {
        if (!isLoss(loss) || !isWithin(what, 6)) {
            throw new NoSuchElementException("no such loss or what");
        }
        switch (what) {
            case 0:
                return book.house[loss];
            case 1:
                return book.hour[loss];
            case 2:
                return book.place[loss];
            case 3:
                return book.cause[loss];
            case 4:
                return book.storm[loss];
            case 5:
                return book.amountOn(loss, viewDay());
            default:
                return book.isSplit[loss] ? 1 : 0;
        }
    }

    public int count(int what) {
        switch (what) {
            case 0:
                return terms.houseCount;
            case 1:
                return terms.treatyCount;
            case 2:
                return book.losses;
            case 3:
                return book.words;
            case 4:
                return now;
            case 5:
                return viewDay();
            case 6:
                reckonIfNeeded();
                return reckoning.gathering.counted;
            case 7:
                return terms.commutedBy(viewDay());
            case 8:
                clearIfNeeded();
                return clearing.failures;
            case 9:
                return tape.length;
            default:
                return NONE;
        }
    }

    private static boolean isWithin(int number, int most) {
        return number >= 0 && number <= most;
    }

    private boolean isLoss(int loss) {
        return loss >= 0 && loss < book.losses;
    }

    private boolean isHouse(int house) {
        return house >= 0 && house < terms.houseCount;
    }

    private boolean isTreaty(int treaty) {
        return treaty >= 0 && treaty < terms.treatyCount;
    }

    /** Of what was reckoned last. */
    private boolean isEvent(int event) {
        return event >= 0 && event < reckoning.gathering.found;
    }

    private int viewDay() {
        return toldView == NONE ? now : toldView;
    }

    private int stormsIn() {
        return (STORM_SETS - 1) & ~leftOut;
    }

    private void forgetAnswers() {
        reckoned = false;
        cleared = false;
        trials.haveSplits = false;
        trials.haveStorms = false;
    }

    private void reckonIfNeeded() {
        if (!reckoned) {
            reckoning.reckon(terms, viewDay(), stormsIn(), NONE);
            reckoned = true;
        }
    }

    private void clearIfNeeded() {
        if (!cleared) {
            reckonIfNeeded();
            clearing.settleAll(reckoning, terms.houseCount);
            cleared = true;
        }
    }

    /** The signs that were fed and are not read yet, and their TOKENS one at a time. */
    static final class Tape {
        static final int END = 0;
        static final int BAD = 1;
        static final int NUMBER = 2;
        static final int NAME = 3;
        // The kinds of signs follow the order of SIGNS.
        static final int OPEN = 4;
        static final int CLOSE = 5;
        static final int LESS = 6;
        static final int EQUAL = 7;
        static final int PLUS = 8;
        static final int MINUS = 9;
        static final int COLON = 10;
        static final int SEMICOLON = 11;
        // The kinds of keywords follow the order of KEYWORDS.
        static final int HOUSE = 12;
        static final int EVENT = 13;
        static final int SHARE = 14;
        static final int LAYER = 15;
        static final int HOURS = 16;
        static final int MILES = 17;
        static final int OF = 18;
        static final int OWN = 19;
        static final int WHEN = 20;
        static final int OVER = 21;
        static final int AGAIN = 22;
        static final int AT = 23;
        static final int TO = 24;
        static final int AND = 25;
        static final int OR = 26;
        static final int NOT = 27;
        static final int CAUSE = 28;
        static final int DAY = 29;
        static final int LOSSES = 30;
        static final int DIRECT = 31;
        static final int HIT = 32;

        private static final String SIGNS = "()<=+-:;";
        private static final String KEYWORDS =
                "house event share layer hours miles of own when over again at to and or not cause day losses direct hit ";
        private static final int KEYWORD_COUNT = 21;
        private static final int LONGEST_WORD = 8;
        private static final int LONGEST_NUMBER = 6;

        private final char[] signs = new char[MOST_SIGNS];
        private final long[] keywords = new long[KEYWORD_COUNT];
        private int end = 0;
        int length = 0;
        int kind = END;
        int place = 0;
        int number = 0;
        // The letters of a WORD packed into one number, so that WORDS compare without texts.
        long letters = 0;

        Tape() {
            // The keywords are read as any tape is, so that they are packed as its WORDS are.
            for (int i = 0; i < KEYWORDS.length() && length < MOST_SIGNS; i++) {
                signs[length] = KEYWORDS.charAt(i);
                length++;
            }
            for (int i = 0; i < KEYWORD_COUNT; i++) {
                advance();
                keywords[i] = letters;
            }
            length = 0;
        }

        void addBytes(long bytes) {
            for (int shift = 56; shift >= 0; shift -= 8) {
                char sign = (char) ((bytes >>> shift) & 255);
                boolean belongs = sign == 10 || (sign >= 32 && sign <= 126);
                if (belongs && length < MOST_SIGNS) {
                    signs[length] = sign;
                    length++;
                }
            }
        }

        void startReading() {
            end = 0;
            advance();
        }

        void advance() {
            while (end < length && (signs[end] == 10 || signs[end] == 32)) {
                end++;
            }
            place = end;
            if (end >= length) {
                kind = END;
                return;
            }
            char sign = signs[end];
            if (sign >= 'a' && sign <= 'z') {
                takeWord();
            } else if (sign >= '0' && sign <= '9') {
                takeNumber();
            } else {
                int found = SIGNS.indexOf(sign);
                kind = found < 0 ? BAD : OPEN + found;
                end++;
            }
        }

        private void takeWord() {
            letters = 0;
            while (end < length && signs[end] >= 'a' && signs[end] <= 'z') {
                letters = letters * 32 + (signs[end] - 'a' + 1);
                end++;
            }
            kind = end - place > LONGEST_WORD ? BAD : NAME;
            for (int i = 0; i < KEYWORD_COUNT && kind == NAME; i++) {
                if (keywords[i] == letters) {
                    kind = HOUSE + i;
                }
            }
        }

        private void takeNumber() {
            number = 0;
            while (end < length && signs[end] >= '0' && signs[end] <= '9') {
                number = number * 10 + (signs[end] - '0');
                end++;
            }
            kind = end - place > LONGEST_NUMBER ? BAD : NUMBER;
        }
    }

    /** A share or a layer of a wording. */
    static final class Treaty {
        int owner = 0;
        boolean isLayer = false;
        boolean isOwn = false;
        int limit = 0;
        int over = 0;
        int again = 0;
        int price = 0;
        int parts = 0;
        final int[] partHouse = new int[MOST_PARTS];
        final int[] partShare = new int[MOST_PARTS];
        int codeFrom = 0;
        int codeTo = 0;
        int following = NONE;
        int commutedDay = NONE;
        int commutedSum = 0;

        void begin(int house, boolean layer) {
            owner = house;
            isLayer = layer;
            isOwn = false;
            limit = 0;
            over = 0;
            again = 0;
            price = 0;
            parts = 0;
            codeFrom = 0;
            codeTo = 0;
            following = NONE;
            commutedDay = NONE;
            commutedSum = 0;
        }

        boolean hasPart(int house) {
            for (int i = 0; i < parts; i++) {
                if (partHouse[i] == house) {
                    return true;
                }
            }
            return false;
        }

        int sharesTogether() {
            int together = 0;
            for (int i = 0; i < parts; i++) {
                together += partShare[i];
            }
            return together;
        }

        void addPart(int house, int share) {
            if (parts < MOST_PARTS) {
                partHouse[parts] = house;
                partShare[parts] = share;
                parts++;
            }
        }

        boolean isCommutedBy(int day) {
            return commutedDay != NONE && commutedDay <= day;
        }

        int mostInAll() {
            return limit * (1 + again);
        }
    }

    /** A WORDING as it was read. */
    static final class Terms {
        private static final int USUAL_HOURS = 168;
        private static final int USUAL_MILES = 999;
        private static final int DEEPEST_STACK = 24;

        int houseCount = 0;
        int treatyCount = 0;
        final Treaty[] treaties = new Treaty[MOST_TREATIES];
        final int[] firstOf = new int[MOST_HOUSES];
        private final int[] lastOf = new int[MOST_HOUSES];
        final int[] hours = new int[CAUSES];
        final int[] miles = new int[CAUSES];
        final boolean[] isCauseTold = new boolean[CAUSES];
        // The conditions of all treaties: numbers as they are, all else as its token's kind below 0.
        final int[] code = new int[MOST_SIGNS];
        int codeLength = 0;
        private final int[] stack = new int[DEEPEST_STACK];

        Terms() {
            for (int i = 0; i < MOST_TREATIES; i++) {
                treaties[i] = new Treaty();
            }
        }

        void clear() {
            houseCount = 0;
            treatyCount = 0;
            codeLength = 0;
            Arrays.fill(hours, USUAL_HOURS);
            Arrays.fill(miles, USUAL_MILES);
            for (int i = 0; i < CAUSES; i++) {
                isCauseTold[i] = false;
            }
        }

        void addHouse() {
            if (houseCount < MOST_HOUSES) {
                firstOf[houseCount] = NONE;
                lastOf[houseCount] = NONE;
                houseCount++;
            }
        }

        /** Behind the others of its HOUSE; the caller has seen that there is room. */
        Treaty addTreaty(int house, boolean layer) {
            int number = treatyCount;
            int ahead = lastOf[house];
            if (ahead >= 0 && ahead < number) {
                treaties[ahead].following = number;
            } else {
                firstOf[house] = number;
            }
            lastOf[house] = number;
            treatyCount++;
            Treaty treaty = treaties[number];
            treaty.begin(house, layer);
            return treaty;
        }

        void addCode(int step) {
            if (codeLength < MOST_SIGNS) {
                code[codeLength] = step;
                codeLength++;
            }
        }

        int commutedBy(int day) {
            int commuted = 0;
            for (int i = 0; i < treatyCount; i++) {
                if (treaties[i].isCommutedBy(day)) {
                    commuted++;
                }
            }
            return commuted;
        }

        /** The treaties that pay in an EVENT, as bits. */
        int payingTreaties(Happening happening, int viewed) {
            int hit = happening.housesHit();
            int paying = 0;
            for (int i = 0; i < treatyCount; i++) {
                Treaty treaty = treaties[i];
                if (!treaty.isCommutedBy(viewed) && worth(happening, treaty, hit) != 0) {
                    paying |= 1 << i;
                }
            }
            return paying;
        }

        private int worth(Happening happening, Treaty treaty, int hit) {
            int height = 0;
            for (int i = treaty.codeFrom; i < treaty.codeTo && height < DEEPEST_STACK; i++) {
                int step = code[i];
                if (step == -Tape.NOT && height >= 1) {
                    stack[height - 1] = stack[height - 1] == 0 ? 1 : 0;
                } else if (isJoin(-step) && height >= 2) {
                    height--;
                    stack[height - 1] = join(-step, stack[height - 1], stack[height]);
                } else {
                    stack[height] = step >= 0 ? step : fact(-step, happening, treaty, hit);
                    height++;
                }
            }
            return height > 0 ? stack[height - 1] : 1;
        }

        private static boolean isJoin(int kind) {
            return kind == Tape.AND || kind == Tape.OR
                    || (kind >= Tape.LESS && kind <= Tape.MINUS);
        }

        private static int join(int kind, int left, int right) {
            switch (kind) {
                case Tape.AND:
                    return left != 0 && right != 0 ? 1 : 0;
                case Tape.OR:
                    return left != 0 || right != 0 ? 1 : 0;
                case Tape.LESS:
                    return left < right ? 1 : 0;
                case Tape.EQUAL:
                    return left == right ? 1 : 0;
                case Tape.PLUS:
                    return left + right;
                default:
                    return left - right;
            }
        }

        private static int fact(int kind, Happening happening, Treaty treaty, int hit) {
            switch (kind) {
                case Tape.CAUSE:
                    return happening.cause;
                case Tape.DAY:
                    return happening.day;
                case Tape.LOSSES:
                    return happening.losses;
                case Tape.DIRECT:
                    return happening.direct[treaty.owner];
                default:
                    return hit;
            }
        }
    }

    /** Reads a tape as a WORDING; each step answers whether no FAULT was met. */
    static final class Reader {
        private static final int OUT_OF_PLACE = 1;
        private static final int NOT_TOLD = 2;
        private static final int TOLD = 3;
        private static final int BAD_NUMBER = 4;
        private static final int TOO_MANY = 5;
        private static final int REPEATED = 6;
        private static final int MOST_HOURS = 999;
        private static final int MOST_MILES = 999;
        private static final int MOST_AGAIN = 9;
        private static final int DEEPEST = 4;
        private static final int JOINING = 0;
        private static final int COMPARING = 1;
        private static final int ADDING = 2;
        private static final int SINGLE = 3;

        private final Tape tape;
        private final long[] houseNames = new long[MOST_HOUSES];
        private final long[] treatyNames = new long[MOST_TREATIES];
        Terms draft = new Terms();
        private int fault = 0;

        Reader(Tape tape) {
            this.tape = tape;
        }

        /** The FAULT, or 0 if the draft is a whole WORDING now. */
        int readDraft() {
            draft.clear();
            fault = 0;
            tape.startReading();
            boolean fine = true;
            for (int i = 0; i < MOST_SIGNS && fine && tape.kind != Tape.END; i++) {
                switch (tape.kind) {
                    case Tape.HOUSE:
                        fine = readHouse();
                        break;
                    case Tape.EVENT:
                        fine = readEvent();
                        break;
                    case Tape.SHARE:
                        fine = readTreaty(false);
                        break;
                    case Tape.LAYER:
                        fine = readTreaty(true);
                        break;
                    default:
                        fine = fail(OUT_OF_PLACE);
                        break;
                }
            }
            return fault;
        }

        private boolean readHouse() {
            int house = draft.houseCount;
            if (house >= MOST_HOUSES) {
                return fail(TOO_MANY);
            }
            tape.advance();
            if (!isNewName()) {
                return false;
            }
            houseNames[house] = tape.letters;
            draft.addHouse();
            tape.advance();
            return take(Tape.SEMICOLON);
        }

        private boolean readEvent() {
            tape.advance();
            if (!isNumber(0, CAUSES - 1)) {
                return false;
            }
            int cause = tape.number;
            if (draft.isCauseTold[cause]) {
                return fail(REPEATED);
            }
            draft.isCauseTold[cause] = true;
            tape.advance();
            if (!take(Tape.HOURS) || !isNumber(1, MOST_HOURS)) {
                return false;
            }
            draft.hours[cause] = tape.number;
            tape.advance();
            if (!take(Tape.MILES) || !isNumber(0, MOST_MILES)) {
                return false;
            }
            draft.miles[cause] = tape.number;
            tape.advance();
            return take(Tape.SEMICOLON);
        }

        private boolean readTreaty(boolean layer) {
            int number = draft.treatyCount;
            if (number >= MOST_TREATIES) {
                return fail(TOO_MANY);
            }
            tape.advance();
            if (!isNewName()) {
                return false;
            }
            treatyNames[number] = tape.letters;
            tape.advance();
            if (!take(Tape.OF)) {
                return false;
            }
            int owner = houseHere();
            if (owner == NONE) {
                return false;
            }
            tape.advance();
            Treaty treaty = draft.addTreaty(owner, layer);
            if (tape.kind == Tape.OWN) {
                treaty.isOwn = true;
                tape.advance();
            }
            return take(Tape.COLON) && (!layer || readLimit(treaty)) && readParts(treaty)
                    && (!layer || readAgain(treaty)) && readCondition(treaty) && take(Tape.SEMICOLON);
        }

        private boolean readLimit(Treaty treaty) {
            if (!isNumber(1, MOST_SUM)) {
                return false;
            }
            treaty.limit = tape.number;
            tape.advance();
            if (!take(Tape.OVER) || !isNumber(0, MOST_SUM)) {
                return false;
            }
            treaty.over = tape.number;
            tape.advance();
            return true;
        }

        private boolean readParts(Treaty treaty) {
            boolean fine = readPart(treaty);
            for (int i = 0; i < MOST_HOUSES && fine && tape.kind == Tape.AND; i++) {
                tape.advance();
                fine = readPart(treaty);
            }
            return fine;
        }

        private boolean readPart(Treaty treaty) {
            if (!isNumber(1, WHOLE - treaty.sharesTogether())) {
                return false;
            }
            int share = tape.number;
            tape.advance();
            if (!take(Tape.TO)) {
                return false;
            }
            int house = houseHere();
            if (house == NONE) {
                return false;
            }
            if (house == treaty.owner || treaty.hasPart(house)) {
                return fail(REPEATED);
            }
            treaty.addPart(house, share);
            tape.advance();
            return true;
        }

        private boolean readAgain(Treaty treaty) {
            if (tape.kind != Tape.AGAIN) {
                return true;
            }
            tape.advance();
            if (!isNumber(0, MOST_AGAIN)) {
                return false;
            }
            treaty.again = tape.number;
            tape.advance();
            if (!take(Tape.AT) || !isNumber(0, MOST_SUM)) {
                return false;
            }
            treaty.price = tape.number;
            tape.advance();
            return true;
        }

        private boolean readCondition(Treaty treaty) {
            treaty.codeFrom = draft.codeLength;
            boolean fine = true;
            if (tape.kind == Tape.WHEN) {
                tape.advance();
                fine = readChain(JOINING, 0);
            }
            treaty.codeTo = draft.codeLength;
            return fine;
        }

        /** An E, a TEST or a SUM, by its level; depth counts the not and ( ) around it. */
        private boolean readChain(int level, int depth) {
            if (level >= SINGLE) {
                return readValue(depth);
            }
            if (!readChain(level + 1, depth)) {
                return false;
            }
            int most = level == COMPARING ? 1 : MOST_SIGNS;
            for (int i = 0; i < most && isOfLevel(level, tape.kind); i++) {
                int sign = tape.kind;
                tape.advance();
                if (!readChain(level + 1, depth)) {
                    return false;
                }
                draft.addCode(-sign);
            }
            return true;
        }

        private static boolean isOfLevel(int level, int kind) {
            if (level == JOINING) {
                return kind == Tape.AND || kind == Tape.OR;
            }
            if (level == COMPARING) {
                return kind == Tape.LESS || kind == Tape.EQUAL;
            }
            return level == ADDING && (kind == Tape.PLUS || kind == Tape.MINUS);
        }

        private boolean readValue(int depth) {
            int kind = tape.kind;
            boolean isPlain = kind == Tape.NUMBER || isFact(kind);
            if (!isPlain && kind != Tape.NOT && kind != Tape.OPEN) {
                return fail(OUT_OF_PLACE);
            }
            if (depth >= DEEPEST) {
                return fail(TOO_MANY);
            }
            if (isPlain) {
                draft.addCode(kind == Tape.NUMBER ? tape.number : -kind);
            }
            tape.advance();
            if (kind == Tape.NOT) {
                boolean fine = readValue(depth + 1);
                draft.addCode(-kind);
                return fine;
            }
            return isPlain || (readChain(JOINING, depth + 1) && take(Tape.CLOSE));
        }

        private static boolean isFact(int kind) {
            return kind == Tape.CAUSE || kind == Tape.DAY || kind == Tape.LOSSES
                    || kind == Tape.DIRECT || kind == Tape.HIT;
        }

        private boolean fail(int kind) {
            fault = kind + 16 * tape.place;
            return false;
        }

        private boolean take(int kind) {
            if (tape.kind != kind) {
                return fail(OUT_OF_PLACE);
            }
            tape.advance();
            return true;
        }

        private boolean isNumber(int least, int most) {
            if (tape.kind != Tape.NUMBER) {
                return fail(OUT_OF_PLACE);
            }
            return (tape.number >= least && tape.number <= most) || fail(BAD_NUMBER);
        }

        private boolean isNewName() {
            if (tape.kind != Tape.NAME) {
                return fail(OUT_OF_PLACE);
            }
            boolean told = indexOf(houseNames, draft.houseCount, tape.letters) != NONE
                    || indexOf(treatyNames, draft.treatyCount, tape.letters) != NONE;
            return !told || fail(TOLD);
        }

        /** The HOUSE that the token names; NONE behind a FAULT. */
        private int houseHere() {
            if (tape.kind != Tape.NAME) {
                fail(OUT_OF_PLACE);
                return NONE;
            }
            int house = indexOf(houseNames, draft.houseCount, tape.letters);
            if (house == NONE) {
                fail(NOT_TOLD);
            }
            return house;
        }

        private static int indexOf(long[] names, int filled, long name) {
            for (int i = 0; i < filled && i < names.length; i++) {
                if (names[i] == name) {
                    return i;
                }
            }
            return NONE;
        }
    }

    /** The LOSSES and all words of them. */
    static final class Book {
        private static final int MOST_FACTOR = 1000000;
        private static final int MOST_FORETOLD = 1000000000;

        int losses = 0;
        int words = 0;
        final int[] house = new int[MOST_LOSSES];
        final int[] hour = new int[MOST_LOSSES];
        final int[] place = new int[MOST_LOSSES];
        final int[] cause = new int[MOST_LOSSES];
        final int[] storm = new int[MOST_LOSSES];
        final boolean[] isSplit = new boolean[MOST_LOSSES];
        final int[] byHour = new int[MOST_LOSSES];
        private final int[] lastWord = new int[MOST_LOSSES];
        private final int[] wordDay = new int[MOST_WORDS];
        private final int[] wordAmount = new int[MOST_WORDS];
        private final int[] wordAhead = new int[MOST_WORDS];

        /** The caller has seen that there is room. */
        int addLoss(int ofHouse, int atHour, int atPlace, int ofCause, int ofStorm) {
            int loss = losses;
            house[loss] = ofHouse;
            hour[loss] = atHour;
            place[loss] = atPlace;
            cause[loss] = ofCause;
            storm[loss] = ofStorm;
            isSplit[loss] = false;
            lastWord[loss] = NONE;
            int slot = loss;
            for (; slot > 0 && hour[byHour[slot - 1]] > atHour; slot--) {
                byHour[slot] = byHour[slot - 1];
            }
            byHour[slot] = loss;
            losses++;
            return loss;
        }

        /** The caller has seen that there is room. */
        void addWord(int loss, int day, int amount) {
            wordDay[words] = day;
            wordAmount[words] = amount;
            wordAhead[words] = lastWord[loss];
            lastWord[loss] = words;
            words++;
        }

        /** NONE if the LOSS was not told by that DAY. */
        int amountOn(int loss, int day) {
            int word = lastWord[loss];
            for (int i = 0; i < MOST_WORDS && word >= 0 && word < words; i++) {
                if (wordDay[word] <= day) {
                    return wordAmount[word];
                }
                word = wordAhead[word];
            }
            return NONE;
        }

        static int lateDay(int year, int lag) {
            return (year + 1 + lag) * DAYS_OF_A_YEAR - 1;
        }

        int sumOfYear(int ofHouse, int year, int lag) {
            int sum = 0;
            for (int i = 0; i < losses; i++) {
                if (house[i] == ofHouse && yearOf(i) == year) {
                    sum += lateAmount(i, lag);
                }
            }
            return sum;
        }

        int growth(int ofHouse, int lag, int viewed) {
            long sooner = 0;
            long later = 0;
            for (int i = 0; i < losses; i++) {
                if (house[i] == ofHouse && lateDay(yearOf(i), lag + 1) <= viewed) {
                    sooner += lateAmount(i, lag);
                    later += lateAmount(i, lag + 1);
                }
            }
            if (sooner == 0) {
                return WHOLE;
            }
            return (int) Math.min(MOST_FACTOR, WHOLE * later / sooner);
        }

        int foretell(int ofHouse, int year, int viewed) {
            int lag = NONE;
            while (lag < LAST_LAG && lateDay(year, lag + 1) <= viewed) {
                lag++;
            }
            if (lag == NONE) {
                return NONE;
            }
            long sum = sumOfYear(ofHouse, year, lag);
            for (int i = lag; i < LAST_LAG; i++) {
                sum = Math.min(MOST_FORETOLD, sum * growth(ofHouse, i, viewed) / WHOLE);
            }
            return (int) sum;
        }

        private int lateAmount(int loss, int lag) {
            return Math.max(0, amountOn(loss, lateDay(yearOf(loss), lag)));
        }

        private int yearOf(int loss) {
            return hour[loss] / HOURS_OF_A_DAY / DAYS_OF_A_YEAR;
        }
    }

    /** The LOSSES that count, gathered into EVENTS. */
    static final class Gathering {
        private final Book book;
        int found = 0;
        int counted = 0;
        final int[] joined = new int[MOST_LOSSES];
        final int[] firstLoss = new int[MOST_LOSSES];
        final int[] size = new int[MOST_LOSSES];
        final int[] direct = new int[MOST_LOSSES * MOST_HOUSES];

        Gathering(Book book) {
            this.book = book;
        }

        void gather(Terms terms, int day, int storms, int moreSplit) {
            found = 0;
            counted = 0;
            for (int i = 0; i < book.losses; i++) {
                int loss = book.byHour[i];
                joined[loss] = NONE;
                boolean mayCount = book.house[loss] < terms.houseCount
                        && (storms >> book.storm[loss] & 1) == 1;
                int amount = mayCount ? book.amountOn(loss, day) : 0;
                if (amount > 0) {
                    boolean alone = book.isSplit[loss] || loss == moreSplit;
                    int event = alone ? NONE : eventToJoin(terms, loss);
                    join(event == NONE ? begin(loss) : event, loss, amount);
                }
            }
        }

        private int eventToJoin(Terms terms, int loss) {
            int cause = book.cause[loss];
            for (int event = found - 1; event >= 0; event--) {
                int first = firstLoss[event];
                if (book.cause[first] == cause
                        && book.hour[loss] - book.hour[first] < terms.hours[cause]
                        && Math.abs(book.place[loss] - book.place[first]) <= terms.miles[cause]) {
                    return event;
                }
            }
            return NONE;
        }

        private int begin(int loss) {
            int event = found;
            firstLoss[event] = loss;
            size[event] = 0;
            for (int i = 0; i < MOST_HOUSES; i++) {
                direct[event * MOST_HOUSES + i] = 0;
            }
            found++;
            return event;
        }

        private void join(int event, int loss, int amount) {
            joined[loss] = event;
            size[event]++;
            direct[event * MOST_HOUSES + book.house[loss]] += amount;
            counted++;
        }
    }

    /** An EVENT: what is asked about it, and what is owed in it. */
    static final class Happening {
        boolean isSolved = false;
        int firstLoss = 0;
        int losses = 0;
        int cause = 0;
        int day = 0;
        int paying = 0;
        int rounds = 0;
        boolean isEndless = false;
        final int[] direct = new int[MOST_HOUSES];
        final int[] gross = new int[MOST_HOUSES];
        final int[] rest = new int[MOST_HOUSES];
        final int[] room = new int[MOST_TREATIES];
        final int[] base = new int[MOST_TREATIES];
        final int[] use = new int[MOST_TREATIES];
        final int[] paid = new int[MOST_TREATIES];
        final int[] reinstated = new int[MOST_TREATIES];
        final int[] premium = new int[MOST_TREATIES];

        int directOfAll() {
            int all = 0;
            for (int i = 0; i < MOST_HOUSES; i++) {
                all += direct[i];
            }
            return all;
        }

        int housesHit() {
            int hit = 0;
            for (int i = 0; i < MOST_HOUSES; i++) {
                hit += direct[i] > 0 ? 1 : 0;
            }
            return hit;
        }

        boolean isPaying(int treaty) {
            return (paying >> treaty & 1) == 1;
        }

        /** As it is before, or without, any treaty. */
        void payNothing() {
            System.arraycopy(direct, 0, gross, 0, MOST_HOUSES);
            System.arraycopy(direct, 0, rest, 0, MOST_HOUSES);
            Arrays.fill(base, 0);
            Arrays.fill(use, 0);
            Arrays.fill(paid, 0);
        }
    }

    /** Goes round an EVENT until what all owe agrees. */
    static final class Rounds {
        private static final int MOST_ROUNDS = 2000;
        private static final int MOST_GROSS = 20000000;

        private final int[] forOthers = new int[MOST_HOUSES];
        private final boolean[] hasMoved = new boolean[MOST_HOUSES];
        private final int[] partPaid = new int[MOST_TREATIES * MOST_PARTS];

        void solve(Happening happening, Terms terms) {
            happening.payNothing();
            Arrays.fill(forOthers, 0);
            Arrays.fill(partPaid, 0);
            for (int i = 0; i < MOST_HOUSES; i++) {
                hasMoved[i] = happening.direct[i] > 0;
            }
            boolean changes = true;
            boolean tooMuch = false;
            int round = 0;
            while (round < MOST_ROUNDS && changes && !tooMuch) {
                round++;
                // A HOUSE whose GROSS stood still pays and passes on what it did in the round ahead.
                for (int i = 0; i < terms.houseCount; i++) {
                    if (hasMoved[i]) {
                        passOn(happening, terms, i);
                    }
                }
                changes = takeOver(happening, terms.houseCount);
                tooMuch = changes && isTooMuch(happening, terms.houseCount);
            }
            happening.rounds = round;
            happening.isEndless = changes;
            if (changes) {
                happening.payNothing();
            }
        }

        private void passOn(Happening happening, Terms terms, int house) {
            int all = happening.gross[house];
            int own = happening.direct[house];
            int number = terms.firstOf[house];
            for (int i = 0; i < MOST_TREATIES && number >= 0 && number < terms.treatyCount; i++) {
                Treaty treaty = terms.treaties[number];
                if (happening.isPaying(number)) {
                    int base = treaty.isOwn ? own : all;
                    int amount = amountOf(treaty, base, happening.room[number]);
                    int paid = payParts(treaty, number * MOST_PARTS, amount);
                    happening.base[number] = base;
                    happening.use[number] = treaty.isLayer ? amount : paid;
                    happening.paid[number] = paid;
                    all -= paid;
                    own = treaty.isOwn ? Math.max(0, own - paid) : own;
                    own = Math.min(own, all);
                }
                number = treaty.following;
            }
            happening.rest[house] = all;
        }

        /** What the PARTS share among them: all of the base, or the USE of a layer. */
        private static int amountOf(Treaty treaty, int base, int room) {
            return treaty.isLayer ? Math.min(room, Math.max(0, base - treaty.over)) : base;
        }

        private int payParts(Treaty treaty, int from, int amount) {
            int together = 0;
            for (int i = 0; i < treaty.parts; i++) {
                int pays = partOf(amount, treaty.partShare[i]);
                forOthers[treaty.partHouse[i]] += pays - partPaid[from + i];
                partPaid[from + i] = pays;
                together += pays;
            }
            return together;
        }

        private boolean takeOver(Happening happening, int houses) {
            boolean changes = false;
            for (int i = 0; i < houses; i++) {
                int next = happening.direct[i] + forOthers[i];
                hasMoved[i] = next != happening.gross[i];
                changes = changes || hasMoved[i];
                happening.gross[i] = next;
            }
            return changes;
        }

        private static boolean isTooMuch(Happening happening, int houses) {
            for (int i = 0; i < houses; i++) {
                if (happening.gross[i] > MOST_GROSS) {
                    return true;
                }
            }
            return false;
        }

        static int partOf(int amount, int share) {
            return (int) ((long) amount * share / WHOLE);
        }
    }

    /** All EVENTS, one behind the other, and what comes of them. */
    static final class Reckoning {
        final Book book;
        final Gathering gathering;
        private final int[] owes = new int[MOST_HOUSES * MOST_HOUSES];
        final int[] direct = new int[MOST_HOUSES];
        private final Rounds rounds = new Rounds();
        private final Happening[] happenings = new Happening[MOST_LOSSES];
        private final int[] used = new int[MOST_TREATIES];
        private final int[] reinstated = new int[MOST_TREATIES];

        Reckoning(Book book) {
            this.book = book;
            gathering = new Gathering(book);
        }

        /** The caller has seen that 0 <= event < MOST_LOSSES. */
        Happening happeningAt(int event) {
            Happening happening = happenings[event];
            if (happening == null) {
                happening = new Happening();
                happenings[event] = happening;
            }
            return happening;
        }

        /** What was solved under another wording is of no use. */
        void forgetSolved() {
            for (int i = 0; i < MOST_LOSSES; i++) {
                Happening happening = happenings[i];
                if (happening != null) {
                    happening.isSolved = false;
                }
            }
        }

        void reckon(Terms terms, int viewed, int storms, int moreSplit) {
            gathering.gather(terms, viewed, storms, moreSplit);
            Arrays.fill(owes, 0);
            Arrays.fill(direct, 0);
            Arrays.fill(used, 0);
            Arrays.fill(reinstated, 0);
            for (int i = 0; i < gathering.found; i++) {
                Happening happening = happeningAt(i);
                if (asksAnew(happening, terms, viewed, i)) {
                    rounds.solve(happening, terms);
                }
                settle(happening, terms);
            }
            addCommuted(terms, viewed);
        }

        int leftOf(Terms terms, int treaty) {
            return terms.treaties[treaty].mostInAll() - used[treaty];
        }

        /** Rounds are dear: a slot that already holds the same question keeps its answer. */
        private boolean asksAnew(Happening happening, Terms terms, int viewed, int event) {
            boolean anew = !happening.isSolved;
            happening.isSolved = true;
            int first = gathering.firstLoss[event];
            happening.firstLoss = first;
            happening.losses = gathering.size[event];
            happening.cause = book.cause[first];
            happening.day = book.hour[first] / HOURS_OF_A_DAY;
            for (int i = 0; i < MOST_HOUSES; i++) {
                int direct = gathering.direct[event * MOST_HOUSES + i];
                anew = anew || happening.direct[i] != direct;
                happening.direct[i] = direct;
            }
            for (int i = 0; i < terms.treatyCount; i++) {
                int room = Math.min(terms.treaties[i].limit, leftOf(terms, i));
                anew = anew || happening.room[i] != room;
                happening.room[i] = room;
            }
            int paying = terms.payingTreaties(happening, viewed);
            anew = anew || happening.paying != paying;
            happening.paying = paying;
            return anew;
        }

        private void settle(Happening happening, Terms terms) {
            addDirect(happening);
            for (int i = 0; i < terms.treatyCount; i++) {
                Treaty treaty = terms.treaties[i];
                happening.reinstated[i] = 0;
                happening.premium[i] = 0;
                int amount = treaty.isLayer ? happening.use[i] : happening.base[i];
                if (amount > 0) {
                    partsOweOwner(treaty, amount);
                }
                if (amount > 0 && treaty.isLayer) {
                    used[i] += amount;
                    reinstate(happening, treaty, i);
                }
            }
        }

        private void reinstate(Happening happening, Treaty treaty, int number) {
            int open = treaty.limit * treaty.again - reinstated[number];
            int again = Math.min(happening.use[number], open);
            int premium = treaty.limit > 0 ? (int) ((long) treaty.price * again / treaty.limit) : 0;
            reinstated[number] += again;
            happening.reinstated[number] = again;
            happening.premium[number] = premium;
            ownerOwesParts(treaty, premium);
        }

        int owedBy(int debtor, int creditor) {
            return owes[debtor * MOST_HOUSES + creditor];
        }

        int burdenOf(int house) {
            int burden = direct[house];
            for (int i = 0; i < MOST_HOUSES; i++) {
                burden += owedBy(house, i) - owedBy(i, house);
            }
            return burden;
        }

        private void addDirect(Happening happening) {
            for (int i = 0; i < MOST_HOUSES; i++) {
                direct[i] += happening.direct[i];
            }
        }

        private void partsOweOwner(Treaty treaty, int amount) {
            for (int i = 0; i < treaty.parts; i++) {
                owes[treaty.partHouse[i] * MOST_HOUSES + treaty.owner]
                        += Rounds.partOf(amount, treaty.partShare[i]);
            }
        }

        private void ownerOwesParts(Treaty treaty, int amount) {
            for (int i = 0; i < treaty.parts; i++) {
                owes[treaty.owner * MOST_HOUSES + treaty.partHouse[i]]
                        += Rounds.partOf(amount, treaty.partShare[i]);
            }
        }

        private void addCommuted(Terms terms, int viewed) {
            for (int i = 0; i < terms.treatyCount; i++) {
                Treaty treaty = terms.treaties[i];
                if (treaty.isCommutedBy(viewed)) {
                    partsOweOwner(treaty, treaty.commutedSum);
                }
            }
        }
    }

    /** What would be if the storms were others, or a SPLIT more were told. */
    static final class Trials {
        private final Reckoning reckoning;
        boolean haveSplits = false;
        boolean haveStorms = false;
        final int[] wanted = new int[MOST_HOUSES];
        private final int[] least = new int[MOST_HOUSES];
        private final boolean[] isWorthTrying = new boolean[MOST_LOSSES];
        private final int[] burdens = new int[STORM_SETS * MOST_HOUSES];
        private int present = 0;

        Trials(Reckoning reckoning) {
            this.reckoning = reckoning;
        }

        void trySplits(Terms terms, int viewed, int storms) {
            reckoning.reckon(terms, viewed, storms, NONE);
            for (int i = 0; i < terms.houseCount; i++) {
                wanted[i] = NONE;
                least[i] = reckoning.burdenOf(i);
            }
            int losses = reckoning.book.losses;
            markWorthTrying(losses);
            for (int i = 0; i < losses; i++) {
                if (isWorthTrying[i]) {
                    reckoning.reckon(terms, viewed, storms, i);
                    keepBetter(terms.houseCount, i);
                }
            }
            haveSplits = true;
        }

        /** A SPLIT at a LOSS that begins an EVENT anyway is as good as none. */
        private void markWorthTrying(int losses) {
            Gathering gathering = reckoning.gathering;
            for (int i = 0; i < losses; i++) {
                int event = gathering.joined[i];
                isWorthTrying[i] = event != NONE && gathering.firstLoss[event] != i;
            }
        }

        private void keepBetter(int houses, int loss) {
            for (int i = 0; i < houses; i++) {
                int burden = reckoning.burdenOf(i);
                if (burden < least[i]) {
                    least[i] = burden;
                    wanted[i] = loss;
                }
            }
        }

        /** A set with a storm of no LOSS that counts is never chosen: the one without it is smaller. */
        void tryStorms(Terms terms, int viewed, int storms) {
            reckoning.reckon(terms, viewed, storms, NONE);
            present = stormsThatCount();
            for (int set = 0; set < STORM_SETS; set++) {
                if ((set & ~present) == 0) {
                    reckoning.reckon(terms, viewed, set, NONE);
                    for (int i = 0; i < terms.houseCount; i++) {
                        burdens[set * MOST_HOUSES + i] = reckoning.burdenOf(i);
                    }
                }
            }
            haveStorms = true;
        }

        private int stormsThatCount() {
            int storms = 0;
            for (int i = 0; i < reckoning.book.losses; i++) {
                if (reckoning.gathering.joined[i] != NONE) {
                    storms |= 1 << reckoning.book.storm[i];
                }
            }
            return storms;
        }

        int worstSet(int house, int most) {
            int worst = 0;
            for (int size = 1; size <= most; size++) {
                for (int set = 0; set < STORM_SETS; set++) {
                    if ((set & ~present) == 0 && Integer.bitCount(set) == size
                            && burdens[set * MOST_HOUSES + house] > burdens[worst * MOST_HOUSES + house]) {
                        worst = set;
                    }
                }
            }
            return worst;
        }
    }

    /** PURSES, and what the HOUSES pay from them of what they owe NET. */
    static final class Clearing {
        private static final int MOST_CLEARING_ROUNDS = 200;

        final int[] purse = new int[MOST_HOUSES];
        final int[] owes = new int[MOST_HOUSES];
        final int[] pays = new int[MOST_HOUSES];
        final int[] gets = new int[MOST_HOUSES];
        final boolean[] hasFailed = new boolean[MOST_HOUSES];
        private final int[] net = new int[MOST_HOUSES * MOST_HOUSES];
        private final int[] spare = new int[MOST_HOUSES];
        int rounds = 0;
        int failures = 0;

        void settleAll(Reckoning reckoning, int houses) {
            for (int i = 0; i < houses; i++) {
                takeNet(reckoning, i, houses);
                pays[i] = owes[i];
                spare[i] = Math.max(0, purse[i] - reckoning.direct[i]);
            }
            takeShares(houses);
            boolean changes = true;
            rounds = 0;
            while (rounds < MOST_CLEARING_ROUNDS && changes) {
                rounds++;
                changes = payRound(houses);
                // Renewed behind the last round too, so that what each gets is of what all pay in the end.
                takeShares(houses);
            }
            failures = 0;
            for (int i = 0; i < houses; i++) {
                hasFailed[i] = pays[i] < owes[i] || purse[i] < reckoning.direct[i];
                failures += hasFailed[i] ? 1 : 0;
            }
        }

        private void takeNet(Reckoning reckoning, int debtor, int houses) {
            owes[debtor] = 0;
            for (int i = 0; i < houses; i++) {
                int more = Math.max(0, reckoning.owedBy(debtor, i) - reckoning.owedBy(i, debtor));
                net[debtor * MOST_HOUSES + i] = more;
                owes[debtor] += more;
            }
        }

        /** What each gets of what all pay now. */
        private void takeShares(int houses) {
            for (int i = 0; i < houses; i++) {
                gets[i] = 0;
                for (int j = 0; j < houses; j++) {
                    gets[i] += shareOf(j, i);
                }
            }
        }

        /** What each pays by what it got of the round ahead; whether that is another sum for one of them. */
        private boolean payRound(int houses) {
            boolean changes = false;
            for (int i = 0; i < houses; i++) {
                int next = Math.min(owes[i], spare[i] + gets[i]);
                changes = changes || next != pays[i];
                pays[i] = next;
            }
            return changes;
        }

        private int shareOf(int debtor, int creditor) {
            if (owes[debtor] == 0) {
                return 0;
            }
            return (int) ((long) pays[debtor] * net[debtor * MOST_HOUSES + creditor] / owes[debtor]);
        }
    }
}
