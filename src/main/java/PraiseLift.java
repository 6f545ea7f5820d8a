import java.util.Arrays;
import java.util.NoSuchElementException;

// Every row is read and written by at() and put(), or behind a test of the index, so that the machine never throws.
public final class PraiseLift {
    public static final int NONE = -1;

    private static final int TAPE_SPACE = 600;
    private static final int LAW_SPACE = 150;
    private static final int WORK_SPACE = 150;
    private static final int BOOK_SPACE = 60;

    private static final int MOST_MEN = 7;
    private static final int MOST_CARDS = 8;
    private static final int MOST_FLOORS = 12;
    private static final int MOST_CLAUSES = 60;
    private static final int MOST_OPEN = 6;
    private static final int MOST_INSIDE = 4;
    private static final int MOST_HEARD = 9;
    private static final int MOST_PRIDE = 900;
    private static final int MOST_SWELL = 40;
    private static final int MOST_STEPS = 200;
    private static final int MOST_WORKS = 16;
    private static final int MOST_IMAGES = 3;
    private static final int MOST_WEIGHT = 60;
    private static final int MOST_PRAISE = 20;
    private static final int MOST_HEAVY = 999;
    private static final int LAST_NIGHT = 400;
    private static final int SIXTEEN = 16;

    private static final int CANNOT_STAND = 1;
    private static final int NO_SUCH_NUMBER = 2;
    private static final int TOO_MANY = 3;
    private static final int FAULT_BASE = 10;
    private static final int WORKS_FULL = -20;

    private final Reader reader = new Reader();
    private final Lift now = new Lift();
    private final Lift trial = new Lift();
    private final Work steps = new Work();
    private final Past past = new Past();
    private final Scales scales = new Scales();
    private final Week tried = new Week();
    private Law spareLaw = new Law();
    private Book lines = new Book();
    private Book spareLines = new Book();
    private int tapeBytes = 0;
    private int faultPlace = NONE;
    private int stepsRefused = 0;
    private int nobodyRefused = 0;
    private int argumentsRefused = 0;

    public PraiseLift() {
    }

    // ---- texts ----

    public int feed(int a, int b, int c, int d, int e) {
        if (tapeBytes + 20 > TAPE_SPACE) {
            return NONE;
        }
        putFourBytes(a);
        putFourBytes(b);
        putFourBytes(c);
        putFourBytes(d);
        putFourBytes(e);
        return tapeBytes;
    }

    public int house(int n) throws IllegalArgumentException {
        openText(n, TAPE_SPACE);
        House told = new House();
        told.readClauses(reader);
        if (!reader.failed()) {
            now.moveInto(told);
            lines.wipe();
            past.forgetAll();
            stepsRefused = 0;
        }
        return closeText(told.men);
    }

    public int law(int n) throws IllegalArgumentException {
        openText(n, LAW_SPACE);
        spareLaw.wipe();
        spareLaw.readSum(reader, 0);
        reader.needEnd();
        if (!reader.failed()) {
            Law old = now.rule;
            now.rule = spareLaw;
            spareLaw = old;
        }
        return closeText(1);
    }

    public int work(int n) throws IllegalArgumentException {
        openText(n, WORK_SPACE);
        if (past.isFull()) {
            faultPlace = NONE;
            return WORKS_FULL;
        }
        steps.wipe();
        steps.readSteps(reader, now.plan, 0);
        if (!reader.failed()) {
            past.keepWork(now.days);
            steps.doSteps(now, 0, steps.size, 0);
            stepsRefused = steps.refused;
        }
        return closeText(steps.done);
    }

    public int book(int n) throws IllegalArgumentException {
        openText(n, BOOK_SPACE);
        spareLines.readLines(reader, now.plan.men);
        if (!reader.failed()) {
            Book old = lines;
            lines = spareLines;
            spareLines = old;
        }
        return closeText(lines.many);
    }

    public int fault() {
        return faultPlace;
    }

    public int undo() {
        int left = past.undoWork(now.days);
        if (left != NONE) {
            stepsRefused = 0;
        }
        return left;
    }

    // ---- what is told ----

    public int told(int what) throws IllegalArgumentException {
        needArgument(isWithin(what, 0, 11));
        switch (what) {
            case 0: return now.plan.floors;
            case 1: return now.plan.men;
            case 2: return now.plan.cards;
            case 3: return now.days.day;
            case 4: return now.days.level;
            case 5: return now.days.inside;
            case 6: return now.loadNow();
            case 7: return now.days.bell;
            case 8: return now.plan.piano;
            case 9: return lines.many;
            case 10: return stepsRefused;
            default: return now.levelWith(now.days.inside);
        }
    }

    public int man(int man, int what) throws NoSuchElementException, IllegalArgumentException {
        needMan(man);
        needArgument(isWithin(what, 0, 7));
        switch (what) {
            case 0: return now.placeOf(man);
            case 1: return at(now.plan.weight, man);
            case 2: return at(now.plan.vanity, man);
            case 3: return at(now.days.pride, man);
            case 4: return now.heavyOf(man);
            case 5: return now.isInside(man) ? 1 : 0;
            case 6: return at(now.days.rode, man);
            default: return now.liesTo(man);
        }
    }

    public int card(int card, int what) throws NoSuchElementException, IllegalArgumentException {
        needCard(card);
        needArgument(isWithin(what, 0, 2));
        switch (what) {
            case 0: return at(now.plan.praise, card);
            case 1: return at(now.plan.truth, card);
            default: return now.heardByAll(card);
        }
    }

    public int heard(int man, int card) throws NoSuchElementException {
        needMan(man);
        needCard(card);
        return now.days.timesHeard(man, card);
    }

    public int swells(int man, int card) throws NoSuchElementException {
        needMan(man);
        needCard(card);
        return now.swellOf(man, card);
    }

    public int would(int praise, int truth, int vanity, int weight, int pride, int heard, int rides, int floor, int man) throws IllegalArgumentException {
        needArgument(isWithin(praise, 1, MOST_PRAISE));
        needArgument(isWithin(truth, 0, 9));
        needArgument(isWithin(vanity, 0, 9));
        needArgument(isWithin(weight, 1, MOST_WEIGHT));
        needArgument(isWithin(pride, 0, MOST_PRIDE));
        needArgument(isWithin(heard, 0, MOST_HEARD));
        needArgument(isWithin(rides, 0, 999));
        needArgument(isWithin(floor, 0, MOST_FLOORS - 1));
        needArgument(isWithin(man, 0, MOST_MEN - 1));
        now.rule.tellWords(praise, truth, heard);
        now.rule.tellMan(vanity, weight, pride);
        now.rule.tellWhere(rides, floor, man);
        return now.rule.swellByFacts();
    }

    // ---- what would be ----

    public int ahead(int n, int what) throws IllegalArgumentException {
        needArgument(isWithin(n, 0, 99));
        needArgument(isWithin(what, 0, 2));
        if (what == 0) {
            return now.levelBehindGoes(n);
        }
        trial.becomeLike(now);
        for (int i = 0; i < n; i++) {
            trial.halvePrides();
        }
        return what == 1 ? trial.loadNow() : trial.prideOfAll();
    }

    public int to(int floor) throws IllegalArgumentException {
        needArgument(isWithin(floor, 0, now.plan.floors - 1));
        return scales.fewestCardsTo(now, floor);
    }

    public int rides() {
        return scales.mostRides(now);
    }

    public int couple(int what) throws IllegalArgumentException {
        needArgument(isWithin(what, 0, 1));
        int pair = scales.bestCouple(now);
        return what == 0 || pair == NONE ? pair : scales.coupleApart(now, pair / 10, pair % 10);
    }

    public int meet(int what) throws IllegalArgumentException {
        needArgument(isWithin(what, 0, 1));
        int best = 0;
        for (int f = 1; f < now.plan.floors; f++) {
            if (now.walkAllTo(f) < now.walkAllTo(best)) {
                best = f;
            }
        }
        return what == 0 ? best : now.walkAllTo(best);
    }

    public int cheapest(int man) throws NoSuchElementException {
        needMan(man);
        return scales.cheapestCard(now, man);
    }

    public int fits(int what) throws IllegalArgumentException {
        needArgument(isWithin(what, 0, 1));
        int many = lines.findPairs(now);
        if (what == 0) {
            return many;
        }
        return many == 0 ? NONE : lines.firstPair();
    }

    public int look(int what) throws IllegalArgumentException {
        needArgument(isWithin(what, 0, 1));
        lines.findPairs(now);
        int best = NONE;
        int least = NONE;
        for (int m = 0; m < now.plan.men; m++) {
            if (lines.hasLine(m)) {
                continue;
            }
            int worst = lines.leftAtWorst(m, now.heavyOf(m));
            if (best == NONE || worst < least) {
                best = m;
                least = worst;
            }
        }
        return what == 0 ? best : least;
    }

    public long streak(int n, int k, int q, int part) throws IllegalArgumentException {
        needArgument(isWithin(n, 0, 12));
        needArgument(isWithin(k, 1, 12));
        needArgument(isWithin(q, 0, SIXTEEN));
        needArgument(isWithin(part, 0, 1));
        long above = scales.waysWithoutRun(n, k, q);
        long below = 1L << (4 * n);
        // below is a power of 2, so that only halves can be shared
        for (int i = 0; i < 48 && above % 2 == 0 && below % 2 == 0; i++) {
            above = above / 2;
            below = below / 2;
        }
        return part == 0 ? above : below;
    }

    public int flatter(int v, int w, int what) throws IllegalArgumentException {
        needArgument(isWithin(v, 0, 99));
        needArgument(isWithin(w, 0, 99));
        needArgument(isWithin(what, 0, 2));
        int many = 0;
        int first = NONE;
        int both = 0;
        for (int i = 0; i < 4; i++) {
            int one = i / 2;
            int other = i % 2;
            if (!isRest(one, other, v, w)) {
                continue;
            }
            if (many == 0) {
                first = 10 * one + other;
                both = flattererHas(one, other, v, w) + flattererHas(other, one, v, w);
            }
            many++;
        }
        if (what == 0) {
            return many;
        }
        return what == 1 ? first : both;
    }

    public int breath(int man, int men, int n) throws NoSuchElementException, IllegalArgumentException {
        needMan(man);
        needArgument(isSetOfMen(men));
        needArgument(isWithin(n, 0, 9999));
        if (!isIn(men, man)) {
            return 0;
        }
        return Math.min(at(now.days.pride, man), now.breathBound(men, n));
    }

    // ---- who and where ----

    public int heaviest(int what) throws IllegalArgumentException {
        needArgument(isWithin(what, 0, 1));
        int best = NONE;
        for (int m = 0; m < now.plan.men; m++) {
            if (best == NONE || now.heavyOf(m) > now.heavyOf(best)) {
                best = m;
            }
        }
        return what == 0 || best == NONE ? best : now.heavyOf(best);
    }

    public int waiting() {
        int set = 0;
        for (int m = 0; m < now.plan.men; m++) {
            if (now.canEnter(m)) {
                set |= 1 << m;
            }
        }
        return set;
    }

    public int floor(int floor) throws IllegalArgumentException {
        needArgument(isWithin(floor, 0, now.plan.floors - 1));
        int set = 0;
        for (int m = 0; m < now.plan.men; m++) {
            if (!now.isInside(m) && now.placeOf(m) == floor) {
                set |= 1 << m;
            }
        }
        return set;
    }

    public int sweetest(int man, int what) throws NoSuchElementException, IllegalArgumentException {
        needMan(man);
        needArgument(isWithin(what, 0, 1));
        return cardOrSwell(man, now.mostSwelling(man, 0), what);
    }

    public int lacks() {
        return now.plan.piano + 1 - now.loadNow();
    }

    public int truest(int man, int what) throws NoSuchElementException, IllegalArgumentException {
        needMan(man);
        needArgument(isWithin(what, 0, 1));
        return cardOrSwell(man, now.mostSwelling(man, now.liesTo(man)), what);
    }

    public int proud(int what) throws IllegalArgumentException {
        needArgument(isWithin(what, 0, 1));
        int set = 0;
        for (int m = 0; m < now.plan.men; m++) {
            int bound = what == 0 ? 0 : at(now.plan.weight, m);
            if (at(now.days.pride, m) > bound) {
                set |= 1 << m;
            }
        }
        return set;
    }

    public int liked(int card) throws NoSuchElementException {
        needCard(card);
        int best = NONE;
        int most = NONE;
        for (int m = 0; m < now.plan.men; m++) {
            int swell = now.swellOf(m, card);
            if (swell > most) {
                best = m;
                most = swell;
            }
        }
        return best;
    }

    public int above(int man) throws NoSuchElementException {
        needMan(man);
        int set = 0;
        for (int m = 0; m < now.plan.men; m++) {
            if (now.placeOf(m) > now.placeOf(man)) {
                set |= 1 << m;
            }
        }
        return set;
    }

    public int ride(int men) throws IllegalArgumentException {
        needArgument(isSetOfMen(men));
        return now.levelWith(men);
    }

    public int vacant() {
        int set = (1 << now.plan.floors) - 1;
        for (int m = 0; m < now.plan.men; m++) {
            set &= ~(1 << now.placeOf(m));
        }
        return set;
    }

    public int times(int man, int card, int n) throws NoSuchElementException, IllegalArgumentException {
        needMan(man);
        needCard(card);
        needArgument(isWithin(n, 0, MOST_HEAVY));
        trial.becomeLike(now);
        for (int often = 0; often <= MOST_HEARD; often++) {
            if (trial.heavyOf(man) >= n) {
                return often;
            }
            if (!trial.sayTo(man, card)) {
                return NONE;
            }
        }
        return NONE;
    }

    // ---- weeks ----

    public int week(int seed, int q, int days, int what) throws IllegalArgumentException {
        needArgument(isWithin(q, 0, SIXTEEN));
        needArgument(isWithin(days, 1, 48));
        needArgument(isWithin(what, 0, 3));
        trial.becomeLike(now);
        tried.live(trial, seed, q, days);
        switch (what) {
            case 0: return trial.days.bell - now.days.bell;
            case 1: return trial.days.level;
            case 2: return trial.ridesOfAll() - now.ridesOfAll();
            default: return trial.prideOfAll();
        }
    }

    public int span(int seed, int many, int q, int days, int what, int man) throws IllegalArgumentException {
        needArgument(isWithin(many, 1, 10));
        needArgument(isWithin(q, 0, SIXTEEN));
        needArgument(isWithin(days, 1, 48));
        needArgument(isWithin(what, 0, 2));
        needArgument(isWithin(man, 0, now.plan.men - 1));
        int fewest = 0;
        int most = 0;
        int up = 0;
        for (int i = 0; i < many; i++) {
            trial.becomeLike(now);
            tried.live(trial, seed + i, q, days);
            int rode = trial.ridesOfAll() - now.ridesOfAll();
            fewest = i == 0 ? rode : Math.min(fewest, rode);
            most = Math.max(most, rode);
            if (trial.placeOf(man) > 0) {
                up++;
            }
        }
        if (what == 2) {
            return up;
        }
        return what == 0 ? fewest : most;
    }

    // ---- images and counts ----

    public int image() {
        return past.keepImage(now.days);
    }

    public int restore() {
        int left = past.restoreImage(now.days);
        if (left != NONE) {
            stepsRefused = 0;
        }
        return left;
    }

    public int status(int what) {
        switch (what) {
            case 0: return nobodyRefused;
            case 1: return argumentsRefused;
            default: return NONE;
        }
    }

    public int count(int what) {
        switch (what) {
            case 0: return past.images;
            case 1: return tapeBytes;
            case 2: return past.works;
            default: return NONE;
        }
    }

    // ---- help for the face ----

    private void putFourBytes(int number) {
        byte[] tape = reader.text;
        for (int shift = 24; shift >= 0; shift -= 8) {
            if (tapeBytes >= 0 && tapeBytes < tape.length) {
                tape[tapeBytes] = (byte) (number >> shift);
                tapeBytes++;
            }
        }
    }

    private void openText(int n, int most) {
        needArgument(isWithin(n, 0, Math.min(most, tapeBytes)));
        tapeBytes = 0;
        reader.open(n);
    }

    private int closeText(int answer) {
        faultPlace = reader.faultPlace;
        return reader.failed() ? reader.faultKind - FAULT_BASE : answer;
    }

    private void needMan(int man) {
        needSomebody(isWithin(man, 0, now.plan.men - 1));
    }

    private void needCard(int card) {
        needSomebody(isWithin(card, 0, now.plan.cards - 1));
    }

    private void needSomebody(boolean isThere) {
        if (!isThere) {
            nobodyRefused++;
            throw new NoSuchElementException("no such man or card");
        }
    }

    private void needArgument(boolean isFine) {
        if (!isFine) {
            argumentsRefused++;
            throw new IllegalArgumentException("no such argument");
        }
    }

    private boolean isSetOfMen(int men) {
        return isWithin(men, 0, (1 << now.plan.men) - 1);
    }

    private int cardOrSwell(int man, int card, int what) {
        return what == 0 || card == NONE ? card : now.swellOf(man, card);
    }

    private static boolean isRest(int one, int other, int v, int w) {
        return flattererHas(one, other, v, w) >= flattererHas(1 - one, other, v, w)
                && flattererHas(other, one, v, w) >= flattererHas(1 - other, one, v, w);
    }

    // 0 is to flatter: his own flattery costs him w, the other one's brings him v
    private static int flattererHas(int own, int others, int v, int w) {
        return (others == 0 ? v : 0) - (own == 0 ? w : 0);
    }

    private static boolean isWithin(int value, int least, int most) {
        return value >= least && value <= most;
    }

    private static boolean isIn(int set, int member) {
        return (set >> member & 1) != 0;
    }

    private static int at(int[] row, int index) {
        return index >= 0 && index < row.length ? row[index] : 0;
    }

    private static void put(int[] row, int index, int value) {
        if (index >= 0 && index < row.length) {
            row[index] = value;
        }
    }

    private static void copyRow(int[] from, int[] into) {
        System.arraycopy(from, 0, into, 0, Math.min(from.length, into.length));
    }

    // Reads a text of the TAPE from the left; the first fault stays, whatever is read behind it.
    private static final class Reader {
        static final int END = -1;
        static final int TOO_BIG = 100000;

        final byte[] text = new byte[TAPE_SPACE];
        int length = 0;
        int place = 0;
        int faultKind = 0;
        int faultPlace = NONE;
        int wordFrom = 0;

        void open(int n) {
            length = Math.min(n, text.length);
            place = 0;
            faultKind = 0;
            faultPlace = NONE;
            wordFrom = 0;
        }

        boolean failed() {
            return faultKind != 0;
        }

        void blame(int kind, int where) {
            if (faultKind == 0) {
                faultKind = kind;
                faultPlace = where;
            }
        }

        int byteAt(int where) {
            return where >= 0 && where < length && where < text.length ? text[where] & 255 : END;
        }

        // the next byte that is no blank, not taken yet
        int peek() {
            while (place < length && byteAt(place) == ' ') {
                place++;
            }
            return byteAt(place);
        }

        void needSign(int sign) {
            if (peek() == sign) {
                place++;
            } else {
                blame(CANNOT_STAND, place);
            }
        }

        void needEnd() {
            if (peek() != END) {
                blame(CANNOT_STAND, place);
            }
        }

        int readNumber(int least, int most) {
            peek();
            int from = place;
            int value = 0;
            while (place < length && isDigit(byteAt(place))) {
                value = Math.min(TOO_BIG, value * 10 + byteAt(place) - '0');
                place++;
            }
            if (place == from) {
                blame(CANNOT_STAND, from);
            } else if (value < least || value > most) {
                blame(NO_SUCH_NUMBER, from);
            }
            return value;
        }

        // which of the listed words stands there; NONE, with a fault: none of them
        int readWord(String list) {
            peek();
            wordFrom = place;
            while (place < length && isLetter(byteAt(place))) {
                place++;
            }
            int index = 0;
            int start = 0;
            for (int i = 0; i <= list.length(); i++) {
                if (i < list.length() && list.charAt(i) != ' ') {
                    continue;
                }
                if (isWordLike(list, start, i)) {
                    return index;
                }
                index++;
                start = i + 1;
            }
            blame(CANNOT_STAND, wordFrom);
            return NONE;
        }

        boolean isWordLike(String list, int start, int end) {
            if (end - start != place - wordFrom) {
                return false;
            }
            for (int i = start; i < end && i < list.length(); i++) {
                if (list.charAt(i) != byteAt(wordFrom + i - start)) {
                    return false;
                }
            }
            return true;
        }

        static boolean isDigit(int sign) {
            return sign >= '0' && sign <= '9';
        }

        static boolean isLetter(int sign) {
            return sign >= 'a' && sign <= 'z';
        }
    }

    // What a HOUSE text tells; no WORK changes it.
    private static final class House {
        static final String WORDS = "floors man card piano";

        int floors = 6;
        int men = 0;
        int cards = 0;
        int piano = 100;
        final int[] place = new int[MOST_MEN];
        final int[] weight = new int[MOST_MEN];
        final int[] vanity = new int[MOST_MEN];
        final int[] praise = new int[MOST_CARDS];
        final int[] truth = new int[MOST_CARDS];

        void readClauses(Reader reader) {
            for (int clauses = 0; clauses <= MOST_CLAUSES; clauses++) {
                if (reader.failed() || reader.peek() == Reader.END) {
                    return;
                }
                int word = reader.readWord(WORDS);
                if (clauses == MOST_CLAUSES) {
                    reader.blame(TOO_MANY, reader.wordFrom);
                }
                readClause(reader, word);
                reader.needSign(';');
            }
        }

        private void readClause(Reader reader, int word) {
            switch (word) {
                case 0:
                    readFloors(reader);
                    break;
                case 1:
                    readMan(reader);
                    break;
                case 2:
                    readCard(reader);
                    break;
                case 3:
                    piano = reader.readNumber(0, 300);
                    break;
                default:
                    break;
            }
        }

        private void readFloors(Reader reader) {
            if (men > 0) {
                reader.blame(TOO_MANY, reader.wordFrom);
            }
            floors = reader.readNumber(2, MOST_FLOORS);
        }

        private void readMan(Reader reader) {
            if (men >= MOST_MEN) {
                reader.blame(TOO_MANY, reader.wordFrom);
                return;
            }
            put(place, men, reader.readNumber(0, floors - 1));
            put(weight, men, reader.readNumber(1, MOST_WEIGHT));
            put(vanity, men, reader.readNumber(0, 9));
            men++;
        }

        private void readCard(Reader reader) {
            if (cards >= MOST_CARDS) {
                reader.blame(TOO_MANY, reader.wordFrom);
                return;
            }
            put(praise, cards, reader.readNumber(1, MOST_PRAISE));
            put(truth, cards, reader.readNumber(0, 9));
            cards++;
        }
    }

    // How much heavier a word makes one: the text as a row of codes, what is joined ahead of what joins it.
    private static final class Law {
        static final String WORDS = "praise true vanity weight pride heard rides floor man least most";
        static final int PRAISE = 0;
        static final int TRUE = 1;
        static final int VANITY = 2;
        static final int WEIGHT = 3;
        static final int PRIDE = 4;
        static final int HEARD = 5;
        static final int RIDES = 6;
        static final int FLOOR = 7;
        static final int MAN = 8;
        static final int FACTS = 9;
        static final int LEAST_WORD = 9;
        // codes below FACT_CODE are numbers, below SIGN_CODE facts, the rest join two values
        static final int FACT_CODE = 1000;
        static final int SIGN_CODE = 2000;
        static final int LEAST = 1;
        static final int MOST = 2;

        final int[] codes = new int[LAW_SPACE];
        final int[] stack = new int[LAW_SPACE];
        final int[] facts = new int[FACTS];
        int size = 0;

        Law() {
            setUsual();
        }

        void setUsual() {
            wipe();
            putCode(FACT_CODE + PRAISE);
            putCode(FACT_CODE + VANITY);
            putCode(SIGN_CODE + '+');
            putCode(FACT_CODE + HEARD);
            putCode(2);
            putCode(SIGN_CODE + '*');
            putCode(SIGN_CODE + '-');
        }

        void wipe() {
            size = 0;
        }

        void readSum(Reader reader, int open) {
            readProduct(reader, open);
            for (int i = 0; i < LAW_SPACE && !reader.failed(); i++) {
                int sign = reader.peek();
                if (sign != '+' && sign != '-') {
                    return;
                }
                reader.needSign(sign);
                readProduct(reader, open);
                putCode(SIGN_CODE + sign);
            }
        }

        private void readProduct(Reader reader, int open) {
            readUnit(reader, open);
            for (int i = 0; i < LAW_SPACE && !reader.failed(); i++) {
                int sign = reader.peek();
                if (sign != '*' && sign != '/' && sign != '%') {
                    return;
                }
                reader.needSign(sign);
                readUnit(reader, open);
                putCode(SIGN_CODE + sign);
            }
        }

        private void readUnit(Reader reader, int open) {
            int sign = reader.peek();
            if (sign == '(') {
                readBracket(reader, open);
            } else if (Reader.isDigit(sign)) {
                putCode(reader.readNumber(0, 999));
            } else {
                int word = reader.readWord(WORDS);
                if (word >= LEAST_WORD) {
                    readChoice(reader, open, word == LEAST_WORD ? LEAST : MOST);
                } else if (word != NONE) {
                    putCode(FACT_CODE + word);
                }
            }
        }

        private void readBracket(Reader reader, int open) {
            if (open >= MOST_OPEN) {
                reader.blame(TOO_MANY, reader.place);
                return;
            }
            reader.needSign('(');
            readSum(reader, open + 1);
            reader.needSign(')');
        }

        private void readChoice(Reader reader, int open, int join) {
            if (open >= MOST_OPEN) {
                reader.blame(TOO_MANY, reader.wordFrom);
                return;
            }
            reader.needSign('[');
            if (reader.failed()) {
                return;
            }
            readSum(reader, open + 1);
            reader.needSign(',');
            if (reader.failed()) {
                return;
            }
            readSum(reader, open + 1);
            reader.needSign(']');
            putCode(SIGN_CODE + join);
        }

        private void putCode(int code) {
            if (size >= 0 && size < codes.length) {
                codes[size] = code;
                size++;
            }
        }

        void tellWords(int praise, int truth, int often) {
            put(facts, PRAISE, praise);
            put(facts, TRUE, truth);
            put(facts, HEARD, often);
        }

        void tellMan(int vanity, int weight, int pride) {
            put(facts, VANITY, vanity);
            put(facts, WEIGHT, weight);
            put(facts, PRIDE, pride);
        }

        void tellWhere(int rode, int place, int number) {
            put(facts, RIDES, rode);
            put(facts, FLOOR, place);
            put(facts, MAN, number);
        }

        int swellByFacts() {
            int many = 0;
            for (int i = 0; i < size && i < codes.length; i++) {
                int code = codes[i];
                if (code < FACT_CODE) {
                    put(stack, many, code);
                    many++;
                } else if (code < SIGN_CODE) {
                    put(stack, many, at(facts, code - FACT_CODE));
                    many++;
                } else {
                    many--;
                    put(stack, many - 1, join(code - SIGN_CODE, at(stack, many - 1), at(stack, many)));
                }
            }
            return Math.max(0, Math.min(MOST_SWELL, at(stack, 0)));
        }

        private static int join(int sign, int left, int right) {
            switch (sign) {
                case '+': return left + right;
                case '-': return left - right;
                case '*': return left * right;
                case '/': return right == 0 ? 0 : left / right;
                case '%': return right == 0 ? 0 : left % right;
                case LEAST: return Math.min(left, right);
                default: return Math.max(left, right);
            }
        }
    }

    // A WORK text as rows of steps; an again knows where what it repeats ends.
    private static final class Work {
        static final String WORDS = "enter leave say insult go walk night again";
        static final int ENTER = 0;
        static final int LEAVE = 1;
        static final int SAY = 2;
        static final int INSULT = 3;
        static final int GO = 4;
        static final int WALK = 5;
        static final int NIGHT = 6;
        static final int AGAIN = 7;
        static final int MOST_AGAIN = 30;

        final int[] kind = new int[WORK_SPACE];
        final int[] first = new int[WORK_SPACE];
        final int[] second = new int[WORK_SPACE];
        int size = 0;
        int begun = 0;
        int done = 0;
        int refused = 0;

        void wipe() {
            size = 0;
            begun = 0;
            done = 0;
            refused = 0;
        }

        void readSteps(Reader reader, House plan, int open) {
            int end = open == 0 ? Reader.END : ']';
            for (int i = 0; i < WORK_SPACE; i++) {
                if (reader.failed() || reader.peek() == end) {
                    return;
                }
                readStep(reader, plan, open);
                reader.needSign(';');
            }
        }

        private void readStep(Reader reader, House plan, int open) {
            int word = reader.readWord(WORDS);
            int step = size;
            size++;
            put(kind, step, word);
            switch (word) {
                case ENTER:
                case LEAVE:
                case INSULT:
                    put(first, step, reader.readNumber(0, plan.men - 1));
                    break;
                case SAY:
                    put(first, step, reader.readNumber(0, plan.men - 1));
                    put(second, step, reader.readNumber(0, plan.cards - 1));
                    break;
                case WALK:
                    put(first, step, reader.readNumber(0, plan.men - 1));
                    put(second, step, reader.readNumber(0, plan.floors - 1));
                    break;
                case AGAIN:
                    readAgain(reader, plan, open, step);
                    break;
                default:
                    break;
            }
        }

        private void readAgain(Reader reader, House plan, int open, int step) {
            if (open >= MOST_OPEN) {
                reader.blame(TOO_MANY, reader.wordFrom);
                return;
            }
            put(first, step, reader.readNumber(0, MOST_AGAIN));
            reader.needSign('[');
            readSteps(reader, plan, open + 1);
            reader.needSign(']');
            put(second, step, size);
        }

        void doSteps(Lift lift, int from, int end, int open) {
            for (int i = from; i < end && begun < MOST_STEPS; i = behind(i)) {
                begun++;
                if (at(kind, i) == AGAIN) {
                    doAgain(lift, i, open);
                } else if (doStep(lift, at(kind, i), at(first, i), at(second, i))) {
                    done++;
                } else {
                    refused++;
                }
            }
        }

        private void doAgain(Lift lift, int step, int open) {
            if (open >= MOST_OPEN) {
                return;
            }
            int often = at(first, step);
            for (int i = 0; i < often && begun < MOST_STEPS; i++) {
                doSteps(lift, step + 1, at(second, step), open + 1);
            }
        }

        private int behind(int step) {
            return at(kind, step) == AGAIN ? Math.max(step + 1, at(second, step)) : step + 1;
        }

        private static boolean doStep(Lift lift, int kind, int man, int other) {
            switch (kind) {
                case ENTER: return lift.letIn(man);
                case LEAVE: return lift.letOut(man);
                case SAY: return lift.sayTo(man, other);
                case INSULT: return lift.insultOne(man);
                case GO: return lift.goOnce();
                case WALK: return lift.walkTo(man, other);
                default: return lift.nightFalls();
            }
        }
    }

    // The lines of a BOOK, and the pairs that make them all right.
    private static final class Book {
        static final int MOST_PAIRS = MOST_MEN * MOST_CARDS;

        final int[] heavy = new int[MOST_MEN];
        int many = 0;
        int men = 0;
        final int[] pairMan = new int[MOST_PAIRS];
        final int[] pairCard = new int[MOST_PAIRS];
        final int[] pairHeavy = new int[MOST_PAIRS];
        int pairs = 0;

        void wipe() {
            many = 0;
            men = 0;
        }

        void readLines(Reader reader, int menTold) {
            wipe();
            for (int i = 0; i < BOOK_SPACE; i++) {
                if (reader.failed() || reader.peek() == Reader.END) {
                    return;
                }
                int from = reader.place;
                int man = reader.readNumber(0, menTold - 1);
                if (!reader.failed() && hasLine(man)) {
                    reader.blame(NO_SUCH_NUMBER, from);
                }
                int told = reader.readNumber(0, MOST_HEAVY);
                reader.needSign(';');
                if (!reader.failed()) {
                    put(heavy, man, told);
                    men |= 1 << man;
                    many++;
                }
            }
        }

        boolean hasLine(int man) {
            return isIn(men, man);
        }

        int findPairs(Lift lift) {
            pairs = 0;
            for (int m = 0; m < lift.plan.men; m++) {
                if (!areOthersRight(lift, m)) {
                    continue;
                }
                for (int c = 0; c < lift.plan.cards; c++) {
                    int then = lift.heavyIfSaid(m, c);
                    if (!hasLine(m) || at(heavy, m) == then) {
                        keepPair(m, c, then);
                    }
                }
            }
            return pairs;
        }

        private boolean areOthersRight(Lift lift, int man) {
            for (int m = 0; m < lift.plan.men; m++) {
                if (m != man && hasLine(m) && at(heavy, m) != lift.heavyOf(m)) {
                    return false;
                }
            }
            return true;
        }

        private void keepPair(int man, int card, int then) {
            put(pairMan, pairs, man);
            put(pairCard, pairs, card);
            put(pairHeavy, pairs, then);
            pairs++;
        }

        int firstPair() {
            return 10 * at(pairMan, 0) + at(pairCard, 0);
        }

        // the most pairs that make the man HEAVY alike: so many are left, if he is found so
        int leftAtWorst(int man, int heavyNow) {
            int worst = 0;
            for (int i = 0; i < pairs; i++) {
                int alike = 0;
                for (int j = 0; j < pairs; j++) {
                    if (heavyByPair(j, man, heavyNow) == heavyByPair(i, man, heavyNow)) {
                        alike++;
                    }
                }
                worst = Math.max(worst, alike);
            }
            return worst;
        }

        private int heavyByPair(int pair, int man, int heavyNow) {
            return at(pairMan, pair) == man ? at(pairHeavy, pair) : heavyNow;
        }
    }

    // All that WORK changes.
    private static final class Days {
        int day = 0;
        int level = 0;
        int inside = 0;
        int bell = 0;
        final int[] place = new int[MOST_MEN];
        final int[] pride = new int[MOST_MEN];
        final int[] rode = new int[MOST_MEN];
        final int[] heardOf = new int[MOST_MEN * MOST_CARDS];

        void beginIn(House plan) {
            day = 0;
            level = 0;
            inside = 0;
            bell = 0;
            copyRow(plan.place, place);
            Arrays.fill(pride, 0);
            Arrays.fill(rode, 0);
            Arrays.fill(heardOf, 0);
        }

        void takeFrom(Days other) {
            day = other.day;
            level = other.level;
            inside = other.inside;
            bell = other.bell;
            copyRow(other.place, place);
            copyRow(other.pride, pride);
            copyRow(other.rode, rode);
            copyRow(other.heardOf, heardOf);
        }

        int timesHeard(int man, int card) {
            return at(heardOf, man * MOST_CARDS + card);
        }

        void hearOnceMore(int man, int card) {
            put(heardOf, man * MOST_CARDS + card, timesHeard(man, card) + 1);
        }
    }

    // The lift in its HOUSE, by its LAW, as it is by now or as it would be.
    private static final class Lift {
        House plan = new House();
        Law rule = new Law();
        final Days days = new Days();

        void moveInto(House told) {
            plan = told;
            rule.setUsual();
            days.beginIn(told);
        }

        void becomeLike(Lift other) {
            plan = other.plan;
            rule = other.rule;
            days.takeFrom(other.days);
        }

        boolean isInside(int man) {
            return isIn(days.inside, man);
        }

        int placeOf(int man) {
            return isInside(man) ? days.level : at(days.place, man);
        }

        int heavyOf(int man) {
            return at(plan.weight, man) + at(days.pride, man);
        }

        int heavyOfSet(int set) {
            int sum = 0;
            for (int m = 0; m < plan.men; m++) {
                if (isIn(set, m)) {
                    sum += heavyOf(m);
                }
            }
            return sum;
        }

        int loadNow() {
            return heavyOfSet(days.inside);
        }

        int prideOfAll() {
            return sumOfMen(days.pride);
        }

        int ridesOfAll() {
            return sumOfMen(days.rode);
        }

        private int sumOfMen(int[] row) {
            int sum = 0;
            for (int m = 0; m < plan.men; m++) {
                sum += at(row, m);
            }
            return sum;
        }

        int heardByAll(int card) {
            int sum = 0;
            for (int m = 0; m < plan.men; m++) {
                sum += days.timesHeard(m, card);
            }
            return sum;
        }

        boolean isLie(int man, int card) {
            return at(plan.truth, card) < at(plan.vanity, man);
        }

        int liesTo(int man) {
            int set = 0;
            for (int c = 0; c < plan.cards; c++) {
                if (isLie(man, c)) {
                    set |= 1 << c;
                }
            }
            return set;
        }

        int swellOf(int man, int card) {
            rule.tellWords(at(plan.praise, card), at(plan.truth, card), days.timesHeard(man, card));
            rule.tellMan(at(plan.vanity, man), at(plan.weight, man), at(days.pride, man));
            rule.tellWhere(at(days.rode, man), placeOf(man), man);
            return rule.swellByFacts();
        }

        int heavyIfSaid(int man, int card) {
            return at(plan.weight, man) + Math.min(MOST_PRIDE, at(days.pride, man) + swellOf(man, card));
        }

        // of the CARDS that are not left out that which SWELLS him most; NONE: all are left out
        int mostSwelling(int man, int leftOut) {
            int best = NONE;
            int most = NONE;
            for (int c = 0; c < plan.cards; c++) {
                int swell = isIn(leftOut, c) ? NONE : swellOf(man, c);
                if (swell > most) {
                    best = c;
                    most = swell;
                }
            }
            return best;
        }

        int goesFrom(int level, int load) {
            int more = load - plan.piano;
            if (more == 0) {
                return level;
            }
            int far = Math.abs(more) / 10 + 1;
            return more > 0 ? Math.min(plan.floors - 1, level + far) : Math.max(0, level - far);
        }

        int levelWith(int set) {
            return set == 0 ? days.level : goesFrom(days.level, heavyOfSet(set));
        }

        int levelBehindGoes(int n) {
            int level = days.level;
            int load = loadNow();
            for (int i = 0; i < n && days.inside != 0; i++) {
                level = goesFrom(level, load);
            }
            return level;
        }

        int walkAllTo(int floor) {
            int far = 0;
            for (int m = 0; m < plan.men; m++) {
                far += Math.abs(placeOf(m) - floor);
            }
            return far;
        }

        // the greatest bound by which no more than n are given; no PRIDE is above MOST_PRIDE
        int breathBound(int set, int n) {
            int bound = 0;
            for (int more = 512; more > 0; more = more / 2) {
                if (bound + more <= MOST_PRIDE && givenBy(set, bound + more) <= n) {
                    bound += more;
                }
            }
            return bound;
        }

        private int givenBy(int set, int bound) {
            int sum = 0;
            for (int m = 0; m < plan.men; m++) {
                if (isIn(set, m)) {
                    sum += Math.min(bound, at(days.pride, m));
                }
            }
            return sum;
        }

        boolean canEnter(int man) {
            return !isInside(man) && at(days.place, man) == days.level && Integer.bitCount(days.inside) < MOST_INSIDE;
        }

        boolean letIn(int man) {
            if (!canEnter(man)) {
                return false;
            }
            days.inside |= 1 << man;
            return true;
        }

        boolean letOut(int man) {
            if (!isInside(man)) {
                return false;
            }
            days.inside &= ~(1 << man);
            put(days.place, man, days.level);
            return true;
        }

        boolean sayTo(int man, int card) {
            if (days.timesHeard(man, card) >= MOST_HEARD) {
                return false;
            }
            put(days.pride, man, Math.min(MOST_PRIDE, at(days.pride, man) + swellOf(man, card)));
            days.hearOnceMore(man, card);
            if (isLie(man, card)) {
                days.bell++;
            }
            return true;
        }

        boolean insultOne(int man) {
            if (at(days.pride, man) == 0) {
                return false;
            }
            put(days.pride, man, 0);
            if (isInside(man)) {
                days.level = plan.floors - 1;
            }
            return true;
        }

        boolean goOnce() {
            if (days.inside == 0) {
                return false;
            }
            days.level = goesFrom(days.level, loadNow());
            for (int m = 0; m < plan.men; m++) {
                if (isInside(m)) {
                    put(days.rode, m, at(days.rode, m) + 1);
                }
            }
            return true;
        }

        boolean walkTo(int man, int floor) {
            if (isInside(man) || at(days.place, man) == floor) {
                return false;
            }
            put(days.place, man, floor);
            return true;
        }

        boolean nightFalls() {
            if (days.day >= LAST_NIGHT) {
                return false;
            }
            sleep();
            return true;
        }

        void sleep() {
            halvePrides();
            for (int m = 0; m < plan.men; m++) {
                letOut(m);
            }
            Arrays.fill(days.heardOf, 0);
            days.day++;
        }

        void halvePrides() {
            for (int m = 0; m < plan.men; m++) {
                put(days.pride, m, at(days.pride, m) / 2);
            }
        }
    }

    // The WORKS that can be undone and the IMAGES; what is kept is never changed, so IMAGES share it.
    private static final class Past {
        final Days[] kept = new Days[MOST_WORKS];
        int works = 0;
        final Image[] seen = new Image[MOST_IMAGES];
        int images = 0;

        void forgetAll() {
            works = 0;
            images = 0;
        }

        boolean isFull() {
            return works >= MOST_WORKS;
        }

        void keepWork(Days before) {
            if (works >= 0 && works < kept.length) {
                Days copy = new Days();
                copy.takeFrom(before);
                kept[works] = copy;
                works++;
            }
        }

        int undoWork(Days into) {
            if (works <= 0 || works > kept.length) {
                return NONE;
            }
            works--;
            Days before = kept[works];
            if (before != null) {
                into.takeFrom(before);
            }
            return works;
        }

        int keepImage(Days present) {
            if (images < 0 || images >= seen.length) {
                return NONE;
            }
            Image taken = new Image(works);
            taken.days.takeFrom(present);
            copyKept(kept, taken.kept);
            seen[images] = taken;
            images++;
            return images;
        }

        int restoreImage(Days into) {
            if (images <= 0 || images > seen.length) {
                return NONE;
            }
            images--;
            Image taken = seen[images];
            if (taken != null) {
                into.takeFrom(taken.days);
                copyKept(taken.kept, kept);
                works = taken.works;
            }
            return images;
        }

        private static void copyKept(Days[] from, Days[] into) {
            for (int i = 0; i < from.length && i < into.length; i++) {
                into[i] = from[i];
            }
        }
    }

    private static final class Image {
        final Days days = new Days();
        final Days[] kept = new Days[MOST_WORKS];
        final int works;

        Image(int works) {
            this.works = works;
        }
    }

    // Sets of MEN and of CARDS, weighed against the piano.
    private static final class Scales {
        final int[] heavyOf = new int[1 << MOST_MEN];
        final int[] most = new int[1 << MOST_MEN];
        final int[] swell = new int[MOST_CARDS];
        final long[] ways = new long[13];

        int mostRides(Lift lift) {
            int sets = 1 << lift.plan.men;
            for (int set = 0; set < sets; set++) {
                put(heavyOf, set, lift.heavyOfSet(set));
            }
            for (int set = 0; set < sets; set++) {
                put(most, set, mostRidesOf(set, lift.plan.piano));
            }
            return at(most, sets - 1);
        }

        // the least MAN of the set rides with some of the others, or not at all
        private int mostRidesOf(int set, int piano) {
            int least = set & -set;
            int best = at(most, set ^ least);
            for (int part = set; part > 0; part = (part - 1) & set) {
                if ((part & least) != 0 && Integer.bitCount(part) <= MOST_INSIDE && at(heavyOf, part) > piano) {
                    best = Math.max(best, 1 + at(most, set ^ part));
                }
            }
            return best;
        }

        int bestCouple(Lift lift) {
            int best = NONE;
            int least = 0;
            for (int one = 0; one < lift.plan.men; one++) {
                for (int other = one + 1; other < lift.plan.men; other++) {
                    int apart = coupleApart(lift, one, other);
                    if (best == NONE || apart < least) {
                        best = 10 * one + other;
                        least = apart;
                    }
                }
            }
            return best;
        }

        int coupleApart(Lift lift, int one, int other) {
            return Math.abs(lift.heavyOf(one) + lift.heavyOf(other) - lift.plan.piano);
        }

        int fewestCardsTo(Lift lift, int floor) {
            if (lift.days.inside == 0) {
                return NONE;
            }
            int sayable = 0;
            for (int c = 0; c < lift.plan.cards; c++) {
                int best = mostSwellInside(lift, c);
                put(swell, c, best);
                sayable |= best == NONE ? 0 : 1 << c;
            }
            int load = lift.loadNow();
            int fewest = NONE;
            for (int set = 0; set < 1 << lift.plan.cards; set++) {
                if ((set & ~sayable) == 0 && (fewest == NONE || Integer.bitCount(set) < Integer.bitCount(fewest))
                        && lift.goesFrom(lift.days.level, load + swellOfSet(set)) == floor) {
                    fewest = set;
                }
            }
            return fewest;
        }

        private int mostSwellInside(Lift lift, int card) {
            int best = NONE;
            for (int m = 0; m < lift.plan.men; m++) {
                if (lift.isInside(m) && lift.days.timesHeard(m, card) < MOST_HEARD) {
                    best = Math.max(best, lift.swellOf(m, card));
                }
            }
            return best;
        }

        private int swellOfSet(int set) {
            int sum = 0;
            for (int c = 0; c < MOST_CARDS; c++) {
                if (isIn(set, c)) {
                    sum += at(swell, c);
                }
            }
            return sum;
        }

        int cheapestCard(Lift lift, int man) {
            int load = lift.heavyOfSet(lift.days.inside | 1 << man);
            int best = NONE;
            int least = 0;
            for (int c = 0; c < lift.plan.cards; c++) {
                if (lift.days.timesHeard(man, c) >= MOST_HEARD) {
                    continue;
                }
                int more = lift.swellOf(man, c);
                if (load + more > lift.plan.piano && (best == NONE || more < least)) {
                    best = c;
                    least = more;
                }
            }
            return best;
        }

        // of 16 to the n ways those in which fewer than k kind words stand behind one another
        long waysWithoutRun(int n, int k, int q) {
            Arrays.fill(ways, 0L);
            setWays(0, 1L);
            for (int i = 0; i < n; i++) {
                long all = 0L;
                for (int run = k - 1; run >= 0; run--) {
                    all += waysAt(run);
                    setWays(run, run == 0 ? 0L : waysAt(run - 1) * q);
                }
                setWays(0, all * (SIXTEEN - q));
            }
            long sum = 0L;
            for (int run = 0; run < k; run++) {
                sum += waysAt(run);
            }
            return sum;
        }

        private long waysAt(int run) {
            return run >= 0 && run < ways.length ? ways[run] : 0L;
        }

        private void setWays(int run, long value) {
            if (run >= 0 && run < ways.length) {
                ways[run] = value;
            }
        }
    }

    // A WEEK by a SEED, lived by a lift that is only tried.
    private static final class Week {
        static final int TIMES_A_DAY = 4;

        int seed = 0;

        void live(Lift lift, int firstSeed, int q, int days) {
            seed = firstSeed;
            for (int d = 0; d < days; d++) {
                for (int i = 0; i < TIMES_A_DAY; i++) {
                    doOnce(lift, q);
                }
                lift.sleep();
            }
        }

        private void doOnce(Lift lift, int q) {
            if (lift.plan.men == 0 || lift.plan.cards == 0) {
                return;
            }
            int man = draw(lift.plan.men);
            int card = draw(lift.plan.cards);
            lift.sayTo(man, card);
            if (!lift.letIn(man)) {
                lift.letOut(man);
            }
            lift.goOnce();
            if (draw(SIXTEEN) < q) {
                lift.insultOne(man);
            }
        }

        private int draw(int by) {
            seed = seed * 1103515245 + 12345;
            int bits = seed >>> 16 & 32767;
            return by > 0 ? bits % by : 0;
        }
    }
}
