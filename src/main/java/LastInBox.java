import java.util.Arrays;

/** A box by a gate that gives change out of its heap; ../shared/DOC.md says what each call does. */
public final class LastInBox {
    private static final int LOW = -1000000000;
    private static final int BEYOND = 1;
    private static final int NONE = 2;
    private static final int STATE = 3;
    private static final int FULL = 4;
    private static final int KIND = 5;
    private static final int PARTED = 6;

    private static final int MOST_DRAWS = 60;
    private static final int MOST_GOES = 4;
    private static final int USES = 2;

    private final Hall hall = new Hall();
    private final Hall kept = new Hall();
    private final Change given = new Change(hall);
    private final Foresight foresight = new Foresight(hall, given);
    private final Reader reader = new Reader(hall);
    private final Voices voices = new Voices();
    private final Sheet[] sheets = {new Sheet(), new Sheet(), new Sheet(), new Sheet()};
    private final int[] errors = new int[PARTED + 1];
    private int images;

    public LastInBox() {
        images = 0;
    }

    // ---- coins, the box, people

    public int worth(int sort, int v) {
        if (!Hall.isSort(sort) || v < 1 || v > 99) {
            return error(BEYOND);
        }
        int was = hall.worthOf(sort);
        hall.worths[sort] = v;
        return was;
    }

    public int ticket(int v) {
        if (v < 0 || v > 99) {
            return error(BEYOND);
        }
        int was = hall.price;
        hall.price = v;
        return was;
    }

    public int box(int km) {
        if (km < 0 || km > 10 * Kinds.TOLD + 9) {
            return error(BEYOND);
        }
        int was = 10 * hall.kind + hall.m;
        hall.kind = km / 10;
        hall.m = km % 10;
        return was;
    }

    public int as(int kind) {
        if (!Kinds.isKind(kind)) {
            return error(BEYOND);
        }
        if (!Kinds.isOrUnder(hall.kind, kind)) {
            return error(KIND);
        }
        return hall.heap.size();
    }

    public int lay(int sort, int marked) {
        if (!Hall.isSort(sort) || marked < 0 || marked > 1) {
            return error(BEYOND);
        }
        if (!hall.heap.addLatest(10 * sort + marked)) {
            return error(FULL);
        }
        return hall.heap.size();
    }

    public int empty() {
        int was = hall.heapWorth();
        hall.heap.takeAll();
        return was;
    }

    public int coin(int i) {
        if (i < 0 || i >= hall.heap.size()) {
            return error(BEYOND);
        }
        return hall.heap.at(hall.heap.size() - 1 - i);
    }

    public int person() {
        if (hall.people >= Hall.MOST_PEOPLE) {
            return error(FULL);
        }
        return hall.people++;
    }

    public int personIs(int person, int what) {
        if (!hall.isPerson(person) || what < 0 || what > 7) {
            return error(BEYOND);
        }
        if (what == 7) {
            return hall.marks[person];
        }
        return what == 6 ? hall.purseWorth(person) : hall.coinsOf(person, what);
    }

    public int give(int person, int sort, int v) {
        if (!hall.isPerson(person) || !Hall.isSort(sort) || v < 0 || v > Hall.MOST_ALIKE) {
            return error(BEYOND);
        }
        int was = hall.coinsOf(person, sort);
        hall.setCoins(person, sort, v);
        return was;
    }

    // ---- texts

    public int feed(long word, int n) {
        if (n < 1 || n > 8) {
            return error(BEYOND);
        }
        if (hall.bytes + n > Hall.TAPE) {
            return error(FULL);
        }
        for (int i = 0; i < n; i++) {
            hall.addByte((int) (word >>> (8 * i)) & 255);
        }
        return hall.bytes;
    }

    public int text(int use) {
        if (use < 0 || use >= USES) {
            return error(BEYOND);
        }
        boolean whole = reader.reads(use == 0 ? "wlkm" : "swt");
        hall.bytes = 0;
        if (!whole) {
            return -10 - reader.place();
        }
        textOf(use).copyFrom(reader.made());
        return 1;
    }

    public int untell(int use) {
        if (use < 0 || use >= USES) {
            return error(BEYOND);
        }
        int was = textOf(use).isThere() ? 1 : 0;
        textOf(use).clear();
        return was;
    }

    // ---- goes

    public int go(int person, int sort) {
        if (!hall.isPerson(person) || !Hall.isSort(sort)) {
            return error(BEYOND);
        }
        int coins = hall.coinsOf(person, sort);
        if (coins == 0 || !hall.pays(sort)) {
            return error(STATE);
        }
        hall.setCoins(person, sort, coins - 1);
        takeIn(sort);
        for (int i = 0; i < given.size(); i++) {
            hall.comesToPurse(person, given.at(i));
        }
        return given.sum();
    }

    public int stranger(int sort) {
        if (!Hall.isSort(sort)) {
            return error(BEYOND);
        }
        if (!hall.pays(sort)) {
            return error(STATE);
        }
        takeIn(sort);
        return given.sum();
    }

    public int draws(int n) {
        if (n < 1 || n > MOST_DRAWS) {
            return error(BEYOND);
        }
        int notRight = 0;
        for (int i = 0; i < n; i++) {
            int sort = hall.draw() % Hall.SORTS;
            if (hall.pays(sort)) {
                takeIn(sort);
                notRight += given.isRight() ? 0 : 1;
            }
        }
        return notRight;
    }

    public int seed(int v) {
        int was = hall.z;
        hall.z = v;
        return was;
    }

    // ---- what would be

    public int change(int sort, int what) {
        if (!Hall.isSort(sort) || what < 0) {
            return error(BEYOND);
        }
        if (!hall.pays(sort)) {
            return error(STATE);
        }
        foresight.foresee(hall.kind, sort);
        switch (what) {
            case 0:
                return given.sum();
            case 1:
                return given.size();
            case 2:
                return given.isRight() ? 1 : 0;
            case 3:
                return given.marks();
            default:
                return what - 4 < given.size() ? given.at(what - 4) / 10 : error(NONE);
        }
    }

    public int dear(int person) {
        if (!hall.isPerson(person)) {
            return error(BEYOND);
        }
        int sort = foresight.dearest(person);
        return sort < 0 ? error(NONE) : sort;
    }

    public int get(int person, int sort, int n) {
        if (!hall.isPerson(person) || !Hall.isSort(sort) || n < 0 || n > MOST_GOES) {
            return error(BEYOND);
        }
        int goes = foresight.fewestGoes(person, sort, n);
        return goes < 0 ? error(NONE) : goes;
    }

    public int order(int sheet, int i) {
        Sheet row = sheetOf(sheet);
        if (row == null || i < -1) {
            return error(BEYOND);
        }
        if (row.isMissing()) {
            return error(NONE);
        }
        foresight.queueUp(row);
        if (i >= foresight.queueLength()) {
            return error(NONE);
        }
        foresight.putInOrder();
        return i < 0 ? foresight.mostRight() : foresight.ordered(i);
    }

    public int dawn(int sheet, int sort) {
        Sheet row = sheetOf(sheet);
        if (row == null || !Hall.isSort(sort)) {
            return error(BEYOND);
        }
        if (row.isMissing()) {
            return error(NONE);
        }
        foresight.queueUp(row);
        int coins = foresight.fewestAtDawn(sort);
        return coins < 0 ? error(NONE) : coins;
    }

    public long wrong(int n, int part) {
        if (n < 1 || n > MOST_GOES || part < 0 || part > 1) {
            return error(BEYOND);
        }
        int rows = foresight.rowsOf(n);
        if (rows == 0) {
            return error(STATE);
        }
        int wrongOnes = foresight.wrongRows(n);
        int common = commonDivisor(rows, wrongOnes);
        int told = part == 0 ? wrongOnes : rows;
        return common > 0 ? told / common : told;
    }

    public int again(int sort) {
        if (!Hall.isSort(sort)) {
            return error(BEYOND);
        }
        if (!hall.pays(sort)) {
            return error(STATE);
        }
        int goes = foresight.goesToMarked(sort);
        return goes < 0 ? error(NONE) : goes;
    }

    public int must(int sheet, int sort) {
        Sheet row = sheetOf(sheet);
        if (row == null || !Hall.isSort(sort)) {
            return error(BEYOND);
        }
        if (row.isMissing()) {
            return error(NONE);
        }
        return hall.pays(sort) ? foresight.kindsGiving(row, sort) : error(STATE);
    }

    public int tally(int sheet, int what) {
        Sheet row = sheetOf(sheet);
        if (row == null || what < 0 || what > 1) {
            return error(BEYOND);
        }
        if (row.isMissing() || row.size() > MOST_GOES) {
            return error(NONE);
        }
        int rows = foresight.rowsFitting(row);
        if (what == 0) {
            return rows;
        }
        return rows == 0 ? error(NONE) : foresight.firstFitting();
    }

    // ---- voices, sheets, images, what is told

    public int voice(int voice, int x) {
        if (voice < 0 || voice >= Kinds.VOICES) {
            return error(BEYOND);
        }
        int said = voices.say(hall, voice, x);
        return voices.isParted() ? error(PARTED) : said;
    }

    public int body(int i) {
        if (i < 0 || i >= voices.size()) {
            return error(NONE);
        }
        return voices.at(i);
    }

    public int sheet(int sheet, int bits, int n) {
        Sheet row = sheetOf(sheet);
        if (row == null || (bits != 0 && bits != 8 && bits != 16 && bits != 32)) {
            return error(BEYOND);
        }
        if (bits == 0) {
            row.renew(0, 0);
            return 1;
        }
        if (n < 0) {
            return error(STATE);
        }
        if (n > Sheet.MOST) {
            return error(BEYOND);
        }
        row.renew(bits, n);
        return 1;
    }

    public int put(int sheet, int i, int v) {
        Sheet row = sheetOf(sheet);
        if (row == null) {
            return error(BEYOND);
        }
        if (row.isMissing()) {
            return error(NONE);
        }
        if (i < 0 || i >= row.size()) {
            return error(BEYOND);
        }
        row.write(i, v);
        return 1;
    }

    public int move(int sheet, int i, int other, int j, int n) {
        Sheet from = sheetOf(sheet);
        Sheet to = sheetOf(other);
        if (from == null || to == null) {
            return error(BEYOND);
        }
        if (from.isMissing() || to.isMissing()) {
            return error(NONE);
        }
        if (!from.isAlike(to)) {
            return error(KIND);
        }
        if (!from.hasPart(i, n) || !to.hasPart(j, n)) {
            return error(BEYOND);
        }
        to.writePart(j, from, i, n);
        return n;
    }

    public int lays(int sheet) {
        Sheet row = sheetOf(sheet);
        if (row == null) {
            return error(BEYOND);
        }
        if (row.isMissing()) {
            return error(NONE);
        }
        int came = 0;
        while (came < row.size() && Hall.isSort(row.at(came)) && hall.heap.addLatest(10 * row.at(came))) {
            came++;
        }
        return came;
    }

    public int image() {
        kept.copyFrom(hall);
        images++;
        return images;
    }

    public int restore() {
        if (images == 0) {
            return error(NONE);
        }
        hall.copyFrom(kept);
        return hall.heap.size();
    }

    public int tell(int v) {
        return hall.addWaiting(v) ? hall.waiting : error(FULL);
    }

    public int check() {
        int place = hall.firstUnlike();
        hall.waiting = 0;
        return place < 0 ? 0 : 1 + place;
    }

    public int count(int what) {
        switch (what) {
            case 0:
                return hall.heap.size();
            case 1:
                return hall.heapWorth();
            case 2:
                return hall.people;
            case 3:
                return hall.taken;
            case 4:
                return hall.price;
            case 5:
                return hall.bytes;
            case 6:
                return hall.waiting;
            case 7:
                return voices.size();
            case 8:
                return hall.z;
            case 15:
                return hall.kind;
            case 16:
                return hall.m;
            default:
                return Hall.isSort(what - 9) ? hall.worthOf(what - 9) : error(BEYOND);
        }
    }

    public int told(int k) {
        if (k < BEYOND || k > PARTED) {
            return error(BEYOND);
        }
        return errors[k];
    }

    // ---- what the acts share

    private int error(int k) {
        if (k >= 0 && k < errors.length) {
            errors[k]++;
        }
        return LOW - k;
    }

    private void takeIn(int sort) {
        given.comesFrom(hall.heap, hall.kind, sort);
        hall.heap.addLatest(10 * sort);
        hall.taken++;
    }

    private Text textOf(int use) {
        return use == 0 ? hall.gives : hall.likes;
    }

    private Sheet sheetOf(int sheet) {
        return sheet < 0 || sheet >= sheets.length ? null : sheets[sheet];
    }

    private static int commonDivisor(int a, int b) {
        int greater = a;
        int rest = b;
        // Euclid's rests halve at least every second time: an int's are through far earlier.
        for (int i = 0; i < 100 && rest != 0; i++) {
            int next = greater % rest;
            greater = rest;
            rest = next;
        }
        return greater;
    }

    /** The KINDS of boxes, which stands under which, and which BODIES each has. */
    private static final class Kinds {
        static final int BOX = 0;
        static final int LAST = 1;
        static final int FIRST = 2;
        static final int GREAT = 3;
        static final int KEEP = 4;
        static final int ROUND = 5;
        static final int TOLD = 6;
        static final int ALL = 7;
        static final int VOICES = 4;
        private static final int[] ABOVE = {-1, BOX, BOX, BOX, LAST, FIRST, LAST};
        private static final int[] BODIES = {
            10, 11, 12, 13,
            20, 0, 0, 21,
            0, 30, 0, 0,
            0, 0, 40, 0,
            50, 0, 51, 0,
            0, 60, 0, 0,
            70, 71, 0, 0,
        };

        static boolean isKind(int kind) {
            return kind >= 0 && kind < ALL;
        }

        /** -1 above a BOX. */
        static int above(int kind) {
            return isKind(kind) ? ABOVE[kind] : -1;
        }

        static boolean isOrUnder(int kind, int upper) {
            int at = kind;
            for (int i = 0; i < ALL && at >= 0; i++) {
                if (at == upper) {
                    return true;
                }
                at = above(at);
            }
            return false;
        }

        /** The BODY of a VOICE for a KIND or the next above that has one; 0 if none has. */
        static int bodyFor(int kind, int voice) {
            int at = kind;
            for (int i = 0; i < ALL && isKind(at) && voice >= 0 && voice < VOICES; i++) {
                if (BODIES[at * VOICES + voice] != 0) {
                    return BODIES[at * VOICES + voice];
                }
                at = above(at);
            }
            return 0;
        }
    }

    /** Coins in the order in which they came: 10 times the SORT, and 1 if MARKED. */
    private static final class Heap {
        static final int MOST = 24;
        private static final int GONE = -1;
        private final int[] coins = new int[MOST];
        private int size;
        private int firstGap = MOST;

        int size() {
            return size;
        }

        int at(int place) {
            return place >= 0 && place < size && place < MOST ? coins[place] : GONE;
        }

        boolean addLatest(int coin) {
            if (size < 0 || size >= MOST) {
                return false;
            }
            coins[size] = coin;
            size++;
            return true;
        }

        /** Leaves a gap, so that the places of the others stay until closeGaps(). */
        void takeOut(int place) {
            if (place >= 0 && place < size && place < MOST) {
                coins[place] = GONE;
                firstGap = Math.min(firstGap, place);
            }
        }

        void closeGaps() {
            int left = Math.max(0, Math.min(firstGap, size));
            for (int i = left; i < size && i < MOST; i++) {
                if (coins[i] != GONE && left < MOST) {
                    coins[left] = coins[i];
                    left++;
                }
            }
            size = left;
            firstGap = MOST;
        }

        void takeAll() {
            size = 0;
        }

        boolean hasMarked() {
            for (int i = 0; i < size && i < MOST; i++) {
                if (coins[i] % 10 == 1) {
                    return true;
                }
            }
            return false;
        }

        void copyFrom(Heap other) {
            System.arraycopy(other.coins, 0, coins, 0, MOST);
            size = other.size;
        }
    }

    /** A TEXT, worked out from left to right: each sign stands behind what it joins. */
    private static final class Text {
        private static final int NAME = 10000;
        private static final int SIGN = 20000;
        private final int[] codes = new int[Hall.TAPE];
        private final int[] stack = new int[Hall.TAPE];
        private int size;

        boolean isThere() {
            return size > 0;
        }

        void clear() {
            size = 0;
        }

        void copyFrom(Text other) {
            System.arraycopy(other.codes, 0, codes, 0, codes.length);
            size = other.size;
        }

        void addNumber(int number) {
            addCode(number);
        }

        void addName(int place) {
            addCode(NAME + place);
        }

        void addSign(int sign) {
            addCode(SIGN + sign);
        }

        private void addCode(int code) {
            if (size >= 0 && size < codes.length) {
                codes[size] = code;
                size++;
            }
        }

        int valueWith(int[] named) {
            int high = 0;
            for (int i = 0; i < size && i < codes.length; i++) {
                int code = codes[i];
                if (code < SIGN) {
                    if (high >= stack.length) {
                        return 0;
                    }
                    stack[high] = valueOf(code, named);
                    high++;
                } else if (code == SIGN + '!') {
                    if (high < 1) {
                        return 0;
                    }
                    stack[high - 1] = stack[high - 1] == 0 ? 1 : 0;
                } else {
                    if (high < 2) {
                        return 0;
                    }
                    high--;
                    stack[high - 1] = joined(code - SIGN, stack[high - 1], stack[high]);
                }
            }
            return high == 1 ? stack[0] : 0;
        }

        private static int valueOf(int code, int[] named) {
            int place = code - NAME;
            if (place < 0) {
                return code;
            }
            return place < named.length ? named[place] : 0;
        }

        private static int joined(int sign, int a, int b) {
            switch (sign) {
                case '|':
                    return a != 0 || b != 0 ? 1 : 0;
                case '&':
                    return a != 0 && b != 0 ? 1 : 0;
                case '<':
                    return a < b ? 1 : 0;
                case '=':
                    return a == b ? 1 : 0;
                case '>':
                    return a > b ? 1 : 0;
                case '+':
                    return a + b;
                case '-':
                    return a - b;
                case '*':
                    return a * b;
                case '/':
                    return b == 0 ? 0 : a / b;
                case '%':
                    return b == 0 ? 0 : a % b;
                default:
                    return 0;
            }
        }
    }

    /** Reads a TEXT from THE TAPE; what it has made counts only if all of THE TAPE was read. */
    private static final class Reader {
        private static final int MOST_OPEN = 5;
        private static final int MOST_DIGITS = 4;
        private static final int COMPARED = 2;
        private static final int UNIT = 5;
        private final Hall hall;
        private final Text made = new Text();
        private String names = "";
        private int place;

        Reader(Hall hall) {
            this.hall = hall;
        }

        Text made() {
            return made;
        }

        /** Where reading stopped: the FAULT, if it wasn't whole. */
        int place() {
            return place;
        }

        boolean reads(String known) {
            names = known;
            place = 0;
            made.clear();
            return readLevel(0, 0) && place == hall.bytes;
        }

        /** T, A, B, S, P of the document are the levels 0 to 4. */
        private boolean readLevel(int level, int open) {
            if (level >= UNIT) {
                return readUnit(open);
            }
            if (!readLevel(level + 1, open)) {
                return false;
            }
            int most = level == COMPARED ? 1 : Hall.TAPE;
            for (int i = 0; i < most && isSignOf(level); i++) {
                int sign = hall.byteAt(place);
                place++;
                if (!readLevel(level + 1, open)) {
                    return false;
                }
                made.addSign(sign);
            }
            return true;
        }

        private boolean isSignOf(int level) {
            int sign = hall.byteAt(place);
            switch (level) {
                case 0:
                    return sign == '|';
                case 1:
                    return sign == '&';
                case COMPARED:
                    return sign == '<' || sign == '=' || sign == '>';
                case 3:
                    return sign == '+' || sign == '-';
                default:
                    return sign == '*' || sign == '/' || sign == '%';
            }
        }

        private boolean readUnit(int open) {
            int sign = hall.byteAt(place);
            if (sign != '!' && sign != '(') {
                return isDigit(sign) ? readNumber() : readName(sign);
            }
            if (open >= MOST_OPEN) {
                return false;
            }
            place++;
            return sign == '!' ? readNot(open + 1) : readInside(open + 1);
        }

        private boolean readNot(int open) {
            if (!readUnit(open)) {
                return false;
            }
            made.addSign('!');
            return true;
        }

        private boolean readInside(int open) {
            if (!readLevel(0, open) || hall.byteAt(place) != ')') {
                return false;
            }
            place++;
            return true;
        }

        private boolean readNumber() {
            int number = 0;
            for (int i = 0; i < MOST_DIGITS && isDigit(hall.byteAt(place)); i++) {
                number = 10 * number + hall.byteAt(place) - '0';
                place++;
            }
            made.addNumber(number);
            return true;
        }

        private boolean readName(int sign) {
            int name = sign < 0 ? -1 : names.indexOf((char) sign);
            if (name < 0) {
                return false;
            }
            made.addName(name);
            place++;
            return true;
        }

        private static boolean isDigit(int sign) {
            return sign >= '0' && sign <= '9';
        }
    }

    /** All that an IMAGE keeps. */
    private static final class Hall {
        static final int SORTS = 6;
        static final int MOST_PEOPLE = 6;
        static final int MOST_ALIKE = 99;
        static final int TAPE = 60;
        private static final int MOST_WAITING = 24;
        final int[] worths = {1, 2, 5, 10, 20, 50};
        final Heap heap = new Heap();
        final int[] marks = new int[MOST_PEOPLE];
        final Text gives = new Text();
        final Text likes = new Text();
        private final int[] purses = new int[MOST_PEOPLE * SORTS];
        private final int[] tape = new int[TAPE];
        private final int[] numbers = new int[MOST_WAITING];
        int price = 3;
        int kind = Kinds.LAST;
        int m;
        int taken;
        int people;
        int bytes;
        int waiting;
        int z = 1;

        static boolean isSort(int sort) {
            return sort >= 0 && sort < SORTS;
        }

        int worthOf(int sort) {
            return isSort(sort) ? worths[sort] : 0;
        }

        /** 0 for a gap in a HEAP. */
        int worthOfCoin(int coin) {
            return coin >= 0 && coin / 10 < SORTS ? worths[coin / 10] : 0;
        }

        boolean pays(int sort) {
            return isSort(sort) && worths[sort] >= price;
        }

        /** The greatest WORTH of a SORT that is no more than so much; 0 if there is none. */
        int greatestWorth(int most) {
            int greatest = 0;
            for (int i = 0; i < SORTS; i++) {
                if (worths[i] <= most && worths[i] > greatest) {
                    greatest = worths[i];
                }
            }
            return greatest;
        }

        int heapWorth() {
            int sum = 0;
            for (int i = 0; i < heap.size(); i++) {
                sum += worthOfCoin(heap.at(i));
            }
            return sum;
        }

        boolean isPerson(int person) {
            return person >= 0 && person < people && person < MOST_PEOPLE;
        }

        int coinsOf(int person, int sort) {
            return isPerson(person) && isSort(sort) ? purses[person * SORTS + sort] : 0;
        }

        void setCoins(int person, int sort, int coins) {
            if (isPerson(person) && isSort(sort)) {
                purses[person * SORTS + sort] = Math.min(coins, MOST_ALIKE);
            }
        }

        int purseWorth(int person) {
            int sum = 0;
            for (int i = 0; i < SORTS; i++) {
                sum += coinsOf(person, i) * worths[i];
            }
            return sum;
        }

        void comesToPurse(int person, int coin) {
            if (isPerson(person)) {
                setCoins(person, coin / 10, coinsOf(person, coin / 10) + 1);
                marks[person] += coin % 10;
            }
        }

        int byteAt(int place) {
            return place >= 0 && place < bytes && place < TAPE ? tape[place] : -1;
        }

        void addByte(int sign) {
            if (bytes >= 0 && bytes < TAPE) {
                tape[bytes] = sign;
                bytes++;
            }
        }

        boolean addWaiting(int number) {
            if (waiting < 0 || waiting >= MOST_WAITING) {
                return false;
            }
            numbers[waiting] = number;
            waiting++;
            return true;
        }

        /** The first place at which the numbers that wait aren't THE HEAP's SORTS; -1 if there is none. */
        int firstUnlike() {
            int latest = heap.size() - 1;
            int both = Math.min(waiting, heap.size());
            for (int i = 0; i < both && i < MOST_WAITING; i++) {
                if (numbers[i] != heap.at(latest - i) / 10) {
                    return i;
                }
            }
            return waiting == heap.size() ? -1 : both;
        }

        int draw() {
            z = z * 1103515245 + 12345;
            return z >>> 8;
        }

        void copyFrom(Hall other) {
            System.arraycopy(other.worths, 0, worths, 0, worths.length);
            System.arraycopy(other.marks, 0, marks, 0, marks.length);
            System.arraycopy(other.purses, 0, purses, 0, purses.length);
            System.arraycopy(other.tape, 0, tape, 0, tape.length);
            System.arraycopy(other.numbers, 0, numbers, 0, numbers.length);
            heap.copyFrom(other.heap);
            gives.copyFrom(other.gives);
            likes.copyFrom(other.likes);
            price = other.price;
            kind = other.kind;
            m = other.m;
            taken = other.taken;
            people = other.people;
            bytes = other.bytes;
            waiting = other.waiting;
            z = other.z;
        }
    }

    /** CHANGE: the coins of the latest comesFrom(), as they came out. */
    private static final class Change {
        private final Hall hall;
        private final int[] coins = new int[Heap.MOST];
        private final int[] named = new int[4];
        private int size;
        private int sum;
        private int marks;
        private int left;

        Change(Hall hall) {
            this.hall = hall;
        }

        int size() {
            return size;
        }

        int at(int i) {
            return i >= 0 && i < size && i < coins.length ? coins[i] : 0;
        }

        int sum() {
            return sum;
        }

        int marks() {
            return marks;
        }

        boolean isRight() {
            return left == 0;
        }

        /** The coins that are given leave that heap; the one that is put in doesn't come to it here. */
        void comesFrom(Heap heap, int kind, int sort) {
            size = 0;
            sum = 0;
            marks = 0;
            left = hall.worthOf(sort) - hall.price;
            switch (kind) {
                case Kinds.LAST:
                case Kinds.KEEP:
                    fromLatest(heap, kind == Kinds.KEEP);
                    break;
                case Kinds.FIRST:
                case Kinds.ROUND:
                    fromFirst(heap, kind == Kinds.ROUND);
                    break;
                case Kinds.GREAT:
                    greatestFirst(heap);
                    break;
                case Kinds.TOLD:
                    asTold(heap);
                    break;
                default:
                    break;
            }
            heap.closeGaps();
        }

        private void fromLatest(Heap heap, boolean keeps) {
            for (int place = heap.size() - 1; place >= 0 && left > 0; place--) {
                int w = hall.worthOfCoin(heap.at(place));
                if (keeps && w > left) {
                    return;
                }
                handOut(heap, place, w);
            }
        }

        private void fromFirst(Heap heap, boolean passesOver) {
            for (int place = 0; place < heap.size() && left > 0; place++) {
                int w = hall.worthOfCoin(heap.at(place));
                if (!passesOver || w <= left) {
                    handOut(heap, place, w);
                }
            }
        }

        private void greatestFirst(Heap heap) {
            int w = hall.greatestWorth(left);
            // Each turn looks at a lesser WORTH, and there are no more WORTHS than SORTS.
            for (int turn = 0; turn < Hall.SORTS && w > 0; turn++) {
                for (int place = heap.size() - 1; place >= 0 && w <= left; place--) {
                    if (hall.worthOfCoin(heap.at(place)) == w) {
                        handOut(heap, place, w);
                    }
                }
                w = hall.greatestWorth(Math.min(left, w - 1));
            }
        }

        private void asTold(Heap heap) {
            for (int place = heap.size() - 1; place >= 0 && left > 0; place--) {
                int w = hall.worthOfCoin(heap.at(place));
                named[0] = w;
                named[1] = left;
                named[2] = size;
                named[3] = hall.m;
                if (hall.gives.isThere() ? hall.gives.valueWith(named) != 0 : w <= left) {
                    handOut(heap, place, w);
                }
            }
        }

        private void handOut(Heap heap, int place, int w) {
            int coin = heap.at(place);
            if (size < coins.length) {
                coins[size] = coin;
                size++;
            }
            heap.takeOut(place);
            sum += w;
            left -= w;
            marks += coin % 10;
        }
    }

    /** What would be: all goes here are on copies of THE HEAP, so that nothing of the hall changes. */
    private static final class Foresight {
        private static final int MOST_LIKED = 999;
        private static final int MOST_AGAIN = 60;
        private static final int MOST_AT_DAWN = 9;
        private final Hall hall;
        private final Change change;
        private final Heap[] heaps = {
            new Heap(), new Heap(), new Heap(), new Heap(), new Heap(), new Heap(), new Heap(),
        };
        private final int[][] purses = new int[MOST_GOES + 1][Hall.SORTS];
        private final int[] named = new int[4];
        private final int[] queued = new int[Hall.MOST_PEOPLE];
        private final int[] queuedSorts = new int[Hall.MOST_PEOPLE];
        private final int[] row = new int[Hall.MOST_PEOPLE];
        private final int[] bestRow = new int[Hall.MOST_PEOPLE];
        private int queueLength;
        private int mostRight;
        private int wantedSort;
        private int wantedAbove;
        private int firstFitting;

        Foresight(Hall hall, Change change) {
            this.hall = hall;
            this.change = change;
        }

        /** CHANGE for a coin now, by a box of a KIND. */
        void foresee(int kind, int sort) {
            heaps[0].copyFrom(hall.heap);
            change.comesFrom(heaps[0], kind, sort);
        }

        /** A GO on the heap of a level makes that of the next one: whether it is RIGHT. */
        private boolean goesRight(int level, int sort) {
            if (level < 0 || level + 1 >= heaps.length) {
                return false;
            }
            heaps[level + 1].copyFrom(heaps[level]);
            change.comesFrom(heaps[level + 1], hall.kind, sort);
            heaps[level + 1].addLatest(10 * sort);
            return change.isRight();
        }

        /** -1 if there is no coin that pays. */
        int dearest(int person) {
            int dearest = -1;
            int most = 0;
            for (int sort = 0; sort < Hall.SORTS; sort++) {
                if (hall.coinsOf(person, sort) > 0 && hall.pays(sort)) {
                    int gain = gainBy(sort);
                    if (dearest < 0 || gain > most) {
                        dearest = sort;
                        most = gain;
                    }
                }
            }
            return dearest;
        }

        private int gainBy(int sort) {
            foresee(hall.kind, sort);
            int gain = -likesOf(sort);
            for (int i = 0; i < change.size(); i++) {
                gain += likesOf(change.at(i) / 10);
            }
            return gain;
        }

        private int likesOf(int sort) {
            if (!hall.likes.isThere()) {
                return hall.worthOf(sort);
            }
            named[0] = sort;
            named[1] = hall.worthOf(sort);
            named[2] = hall.taken;
            return Math.max(-MOST_LIKED, Math.min(MOST_LIKED, hall.likes.valueWith(named)));
        }

        /** -1 if n are too few. */
        int fewestGoes(int person, int sort, int n) {
            heaps[0].copyFrom(hall.heap);
            for (int i = 0; i < Hall.SORTS; i++) {
                purses[0][i] = hall.coinsOf(person, i);
            }
            wantedSort = sort;
            wantedAbove = hall.coinsOf(person, sort);
            for (int goes = 1; goes <= n; goes++) {
                if (getsIn(0, goes)) {
                    return goes;
                }
            }
            return -1;
        }

        private boolean getsIn(int level, int goes) {
            if (level < 0 || level >= goes || level + 1 >= purses.length) {
                return false;
            }
            for (int sort = 0; sort < Hall.SORTS; sort++) {
                if (purses[level][sort] > 0 && hall.pays(sort)) {
                    goesRight(level, sort);
                    paysFromPurse(level, sort);
                    if (hasMore(level + 1) || getsIn(level + 1, goes)) {
                        return true;
                    }
                }
            }
            return false;
        }

        private boolean hasMore(int level) {
            return level < purses.length && Hall.isSort(wantedSort) && purses[level][wantedSort] > wantedAbove;
        }

        private void paysFromPurse(int level, int sort) {
            if (level < 0 || level + 1 >= purses.length || !Hall.isSort(sort)) {
                return;
            }
            int[] purse = purses[level + 1];
            System.arraycopy(purses[level], 0, purse, 0, Hall.SORTS);
            purse[sort]--;
            for (int i = 0; i < change.size(); i++) {
                int back = change.at(i) / 10;
                if (Hall.isSort(back) && purse[back] < Hall.MOST_ALIKE) {
                    purse[back]++;
                }
            }
        }

        void queueUp(Sheet sheet) {
            queueLength = 0;
            for (int i = 0; i < sheet.size() && queueLength < Hall.MOST_PEOPLE; i++) {
                int sort = sheet.at(i);
                if (hall.pays(sort) && hall.coinsOf(i, sort) > 0) {
                    queued[queueLength] = i;
                    queuedSorts[queueLength] = sort;
                    queueLength++;
                }
            }
        }

        int queueLength() {
            return queueLength;
        }

        void putInOrder() {
            heaps[0].copyFrom(hall.heap);
            mostRight = -1;
            standNext(0, 0, 0);
        }

        int mostRight() {
            return mostRight;
        }

        int ordered(int i) {
            return i >= 0 && i < bestRow.length ? bestRow[i] : 0;
        }

        /** Rows are tried from the first one on: a later one has to be better, not as good. */
        private void standNext(int level, int used, int right) {
            if (right + queueLength - level <= mostRight) {
                return;
            }
            if (level >= queueLength) {
                mostRight = right;
                System.arraycopy(row, 0, bestRow, 0, row.length);
                return;
            }
            for (int i = 0; i < queueLength && i < queued.length; i++) {
                if ((used >> i & 1) == 0 && level < row.length) {
                    row[level] = queued[i];
                    int more = goesRight(level, queuedSorts[i]) ? 1 : 0;
                    standNext(level + 1, used | 1 << i, right + more);
                }
            }
        }

        /** -1 if no number of coins does. */
        int fewestAtDawn(int sort) {
            for (int coins = 0; coins <= MOST_AT_DAWN; coins++) {
                if (allGoRight(sort, coins)) {
                    return coins;
                }
            }
            return -1;
        }

        private boolean allGoRight(int sort, int coins) {
            heaps[0].copyFrom(hall.heap);
            for (int i = 0; i < coins; i++) {
                heaps[0].addLatest(10 * sort);
            }
            for (int i = 0; i < queueLength && i < queuedSorts.length; i++) {
                if (!goesRight(i, queuedSorts[i])) {
                    return false;
                }
            }
            return true;
        }

        /** How many rows of so many coins that pay there are. */
        int rowsOf(int coins) {
            int paying = 0;
            for (int sort = 0; sort < Hall.SORTS; sort++) {
                paying += hall.pays(sort) ? 1 : 0;
            }
            int rows = 1;
            for (int i = 0; i < coins && i < MOST_GOES; i++) {
                rows *= paying;
            }
            return rows;
        }

        int wrongRows(int n) {
            heaps[0].copyFrom(hall.heap);
            return wrongFrom(0, Math.min(n, MOST_GOES));
        }

        private int wrongFrom(int level, int n) {
            if (level >= n) {
                return 0;
            }
            int rows = 0;
            for (int sort = 0; sort < Hall.SORTS; sort++) {
                if (hall.pays(sort)) {
                    // Behind a wrong GO nothing can make the row right: all that go on from it are wrong.
                    rows += goesRight(level, sort) ? wrongFrom(level + 1, n) : rowsOf(n - level - 1);
                }
            }
            return rows;
        }

        /** -1 if no MARKED coin comes. */
        int goesToMarked(int sort) {
            heaps[0].copyFrom(hall.heap);
            for (int goes = 1; goes <= MOST_AGAIN && heaps[0].hasMarked(); goes++) {
                change.comesFrom(heaps[0], hall.kind, sort);
                heaps[0].addLatest(10 * sort);
                if (change.marks() > 0) {
                    return goes;
                }
            }
            return -1;
        }

        int kindsGiving(Sheet sheet, int sort) {
            int kinds = 0;
            for (int kind = Kinds.BOX; kind <= Kinds.ROUND; kind++) {
                foresee(kind, sort);
                kinds |= isChange(sheet) ? 1 << kind : 0;
            }
            return kinds;
        }

        private boolean isChange(Sheet sheet) {
            if (sheet.size() != change.size()) {
                return false;
            }
            for (int i = 0; i < change.size(); i++) {
                if (sheet.at(i) != change.at(i) / 10) {
                    return false;
                }
            }
            return true;
        }

        int rowsFitting(Sheet sheet) {
            heaps[0].copyFrom(hall.heap);
            firstFitting = -1;
            return fittingFrom(sheet, 0, 0);
        }

        int firstFitting() {
            return firstFitting;
        }

        private int fittingFrom(Sheet sheet, int level, int number) {
            if (level >= sheet.size() || level >= MOST_GOES) {
                firstFitting = firstFitting < 0 ? number : firstFitting;
                return 1;
            }
            int rows = 0;
            for (int sort = 0; sort < Hall.SORTS; sort++) {
                if (hall.pays(sort)) {
                    goesRight(level, sort);
                    if (change.size() == sheet.at(level)) {
                        rows += fittingFrom(sheet, level + 1, 6 * number + sort);
                    }
                }
            }
            return rows;
        }
    }

    /** The VOICES of THE BOX, and THE TRACE of the latest one. */
    private static final class Voices {
        private static final int DROPS = 0;
        private static final int GIVES = 1;
        private static final int KEEPS = 2;
        private static final int PARTS = 3;
        private static final int MOST_DEEP = 40;
        private static final int K = 1;
        private final int[] trace = new int[30];
        private int size;
        private int kind;
        private int m;
        private boolean parted;

        int size() {
            return size;
        }

        int at(int i) {
            return i >= 0 && i < size && i < trace.length ? trace[i] : 0;
        }

        /** Whether the latest one was PARTED: then what say() answered means nothing. */
        boolean isParted() {
            return parted;
        }

        int say(Hall hall, int voice, int x) {
            size = 0;
            parted = false;
            kind = hall.kind;
            m = hall.m;
            return own(voice, x, 0);
        }

        private int own(int voice, int x, int depth) {
            return work(Kinds.bodyFor(kind, voice), x, depth + 1);
        }

        private int above(int of, int voice, int x, int depth) {
            return work(Kinds.bodyFor(Kinds.above(of), voice), x, depth + 1);
        }

        private int work(int body, int x, int depth) {
            if (depth > MOST_DEEP) {
                return 0;
            }
            if (size < trace.length) {
                trace[size] = body;
                size++;
            }
            switch (body) {
                case 10:
                    return x + K;
                case 11:
                    return own(DROPS, x, depth) * 2;
                case 12:
                    return own(GIVES, x, depth) - m;
                case 13:
                    return parts(x);
                case 20:
                    return above(Kinds.LAST, DROPS, x, depth) - 3;
                case 21:
                    return partsAndGives(x, depth);
                case 30:
                    return 0 - above(Kinds.FIRST, GIVES, x, depth);
                case 40:
                    return above(Kinds.GREAT, KEEPS, x / 2, depth);
                case 50:
                    return above(Kinds.KEEP, DROPS, x, depth) * 3;
                case 51:
                    return above(Kinds.KEEP, KEEPS, x, depth) ^ K;
                case 60:
                    return above(Kinds.ROUND, GIVES, x + 1, depth);
                case 70:
                    return 2;
                case 71:
                    return above(Kinds.TOLD, GIVES, x, depth) + m;
                default:
                    return 0;
            }
        }

        private int parts(int x) {
            parted = m - K == 0;
            return parted ? 0 : x / (m - K);
        }

        private int partsAndGives(int x, int depth) {
            int part = above(Kinds.LAST, PARTS, x, depth);
            // PARTED ends the voice there and then: no BODY begins behind it.
            return parted ? 0 : part + own(GIVES, 1, depth);
        }
    }

    /** A row of numbers, of which 0 bits mean that it is missing. */
    private static final class Sheet {
        static final int MOST = 24;
        private final int[] numbers = new int[MOST];
        private int bits;
        private int size;

        boolean isMissing() {
            return bits == 0;
        }

        boolean isAlike(Sheet other) {
            return bits == other.bits;
        }

        int size() {
            return size;
        }

        int at(int i) {
            return i >= 0 && i < size && i < MOST ? numbers[i] : -1;
        }

        void renew(int newBits, int newSize) {
            bits = newBits;
            size = Math.max(0, Math.min(newSize, MOST));
            Arrays.fill(numbers, 0);
        }

        void write(int i, int v) {
            if (i >= 0 && i < size && i < MOST) {
                numbers[i] = bits == 8 ? (byte) v : bits == 16 ? (short) v : v;
            }
        }

        boolean hasPart(int i, int n) {
            return i >= 0 && n >= 0 && n <= size && i <= size - n;
        }

        void writePart(int j, Sheet from, int i, int n) {
            if (hasPart(j, n) && from.hasPart(i, n)) {
                System.arraycopy(from.numbers, i, numbers, j, n);
            }
        }
    }
}
