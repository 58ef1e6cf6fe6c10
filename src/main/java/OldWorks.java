import java.util.Arrays;

/** Old machines kept running; ../shared/DOC.md tells what each call answers. */
public final class OldWorks {
    public static final int NONE = -1, BAD = -2, NO = -3, FULL = -4;

    /** BAD and none of the calls whose other answers may be as low as -1 to -4. */
    private static final int WIDE_BAD = -10, WIDE_NONE = -5;
    private static final int SUM_BAD = -2100000000, SUM_NONE = -2000000000;
    private static final int LAST_YEAR = 99;
    private static final int LAST_SIZE = 100000;
    private static final int LAST_WAY_SIZE = 3000;
    private static final int LAST_SUM = 100000;

    private final Shop shop;
    private final Shop firstImage;
    private final Shop secondImage;
    private final boolean[] kept;
    private final Law law;
    private final Sizes sizes;
    private final Fits fits;
    private final Ways ways;
    private final Givings givings;
    private final Breaks breaks;
    private final Plans plans;

    public OldWorks() {
        shop = new Shop();
        firstImage = new Shop();
        secondImage = new Shop();
        kept = new boolean[2];
        law = new Law(shop);
        sizes = new Sizes(shop, law);
        fits = new Fits(shop, law, sizes);
        ways = new Ways(shop);
        givings = new Givings(shop);
        breaks = new Breaks(shop);
        plans = new Plans(shop);
    }

    // ---- parts, sayings

    public int part(int load, int hardness, int year, int family) {
        if (!within(load, 0, 100) || !within(hardness, 1, 100)) return BAD;
        if (!within(year, 0, LAST_YEAR) || !within(family, NONE, 3)) return BAD;
        return shop.parts.add(load, hardness, year, family);
    }

    public int family(int family, int least, int step, int many) {
        if (!shop.families.has(family) || !within(least, 1, LAST_SIZE)) return BAD;
        if (!within(step, 1, LAST_SIZE) || !within(many, 1, LAST_SIZE)) return BAD;
        if (least + (many - 1L) * step > LAST_SIZE) return BAD;
        shop.families.put(family, Shop.LEAST, least);
        shop.families.put(family, Shop.STEP, step);
        shop.families.put(family, Shop.MANY, many);
        return 1;
    }

    public int write(int character) {
        if (!within(character, 0, 127)) return BAD;
        int place = shop.signs.add(character, 0, 0, 0);
        if (place == FULL) return FULL;
        law.read();
        return shop.signs.rows();
    }

    public int erase() {
        int gone = shop.signs.rows();
        shop.signs.empty();
        law.read();
        return gone;
    }

    public int fault() {
        return law.flaw();
    }

    public int worn(int part, int year) {
        if (!shop.parts.has(part) || !within(year, 0, LAST_YEAR)) return BAD;
        return law.wornOf(part, year);
    }

    public int say(int part, int sort, int v, int e, int year) {
        if (!shop.parts.has(part) || !within(sort, 0, 3) || !within(v, -10000, 100000)) return BAD;
        int error = sort == Shop.MEASURE || sort == Shop.BOOK ? e : 0;
        int then = sort == Shop.MEASURE ? year : 0;
        if (!within(error, 0, 10000) || !within(then, 0, LAST_YEAR)) return BAD;
        int saying = shop.sayings.add(part, sort, v, error);
        shop.sayings.put(saying, Shop.SAID_YEAR, then);
        return saying;
    }

    public int deny(int saying, boolean is) {
        if (!shop.sayings.has(saying)) return BAD;
        int denied = is ? 1 : 0;
        if (shop.sayings.at(saying, Shop.DENIED) == denied) return NO;
        shop.sayings.put(saying, Shop.DENIED, denied);
        return 1;
    }

    public int first(int part, int what) {
        if (!shop.parts.has(part) || !within(what, 0, 2)) return BAD;
        sizes.find(part);
        return sizes.answer(what);
    }

    public int quarrel(int part, int what) {
        if (!shop.parts.has(part) || what < -3 || what == -2) return WIDE_BAD;
        sizes.find(part);
        int size = sizes.leastDisputed();
        if (what == -3) return size;
        if (what == NONE) return sizes.against(size);
        return sizes.objector(size, what);
    }

    // ---- chains, works

    public int chain(int low, int high) {
        if (!within(low, -LAST_SUM, LAST_SUM) || !within(high, low, LAST_SUM)) return BAD;
        return shop.chains.add(low, high, 0, 0);
    }

    public int link(int chain, int part, boolean off) {
        if (!shop.chains.has(chain) || !shop.parts.has(part) || shop.isIn(chain, part)) return BAD;
        int links = shop.chains.at(chain, Shop.LINKS);
        if (links >= Shop.MOST_LINKS) return FULL;
        shop.chains.put(chain, Shop.FIRST_LINK + 2 * links, part);
        shop.chains.put(chain, Shop.FIRST_LINK + 2 * links + 1, off ? 1 : 0);
        shop.chains.put(chain, Shop.LINKS, links + 1);
        return links + 1;
    }

    public int sum(int chain, int year, int what) {
        if (!shop.chains.has(chain) || !within(year, 0, LAST_YEAR) || !within(what, 0, 2)) return SUM_BAD;
        fits.take(chain, NONE, NONE);
        if (what == 2) return fits.holdIn(year) ? 1 : 0;
        if (!fits.sized) return SUM_NONE;
        fits.addUp(year);
        return what == 0 ? fits.least : fits.greatest;
    }

    public int stands(int p, int q, int year) {
        if (!shop.parts.has(p) || !shop.parts.has(q) || p == q || !within(year, 0, LAST_YEAR)) return BAD;
        for (int chain = 0; chain < shop.chains.rows(); chain++) {
            if (!shop.isIn(chain, q)) continue;
            if (shop.isIn(chain, p)) return 0;
            fits.take(chain, q, p);
            if (!fits.holdIn(year)) return 0;
        }
        return 1;
    }

    public int life(int chain, int year) {
        if (!shop.chains.has(chain) || !within(year, 0, LAST_YEAR)) return BAD;
        fits.take(chain, NONE, NONE);
        int years = 0;
        for (int then = year; then <= LAST_YEAR && fits.holdIn(then); then++) years++;
        return years;
    }

    public int work(int more, int price, int low, int high) {
        if (more == 0 || !within(more, -500, 500) || !within(price, 1, 1000)) return BAD;
        if (!within(low, 1, LAST_WAY_SIZE) || !within(high, low, LAST_WAY_SIZE)) return BAD;
        return shop.works.add(more, price, low, high);
    }

    public int way(int size, int low, int high, int what) {
        if (!within(size, 1, LAST_WAY_SIZE) || !within(low, 1, LAST_WAY_SIZE)) return WIDE_BAD;
        if (!within(high, low, LAST_WAY_SIZE) || what < -2) return WIDE_BAD;
        ways.find(size, low, high);
        if (ways.price == NONE) return WIDE_NONE;
        if (what == NONE) return ways.price;
        if (what == -2) return ways.steps;
        return ways.stepAt(what);
    }

    // ---- spares, breaks

    public int machine(int kind) {
        if (!within(kind, 0, 3)) return BAD;
        return shop.machines.add(kind, 0, 0, 0);
    }

    public int spare(int kind, int years, int pair) {
        if (!within(kind, 0, 3) || !within(years, 1, 50) || !within(pair, NONE, 3)) return BAD;
        return shop.spares.add(kind, years, pair, 0);
    }

    public int scrap() {
        int gone = shop.machines.rows() + shop.spares.rows();
        shop.machines.empty();
        shop.spares.empty();
        return gone;
    }

    public int taking(int what) {
        if (what != NONE && !shop.machines.has(what)) return WIDE_BAD;
        givings.find();
        return what == NONE ? givings.mostYears() : givings.spareOf(what);
    }

    public int odds(int a, int b) {
        if (!within(a, 0, 9) || !within(b, 0, 9)) return BAD;
        shop.odds.put(0, Shop.ODDS_A, a);
        shop.odds.put(0, Shop.ODDS_B, b);
        return 1;
    }

    public int lasts(int part, int n) {
        if (!shop.parts.has(part) || !within(n, 0, 60)) return BAD;
        breaks.last(part, n);
        return 1;
    }

    public int half(int part) {
        if (!shop.parts.has(part)) return BAD;
        return breaks.halved(part);
    }

    public int limbs(int which) {
        if (!within(which, 0, 1)) return BAD;
        return breaks.side(which).rows();
    }

    public int limb(int which, int i) {
        if (!within(which, 0, 1) || i < 0) return BAD;
        return breaks.side(which).at(i);
    }

    public int told(int load, boolean broke) {
        if (!within(load, 0, 100)) return BAD;
        if (shop.loads.add(load, broke ? 1 : 0, 0, 0) == FULL) return FULL;
        return shop.loads.rows();
    }

    public int fitted() {
        return breaks.fit();
    }

    public int bear(int a, int b, boolean is) {
        if (!shop.parts.has(a) || !shop.parts.has(b) || a == b) return BAD;
        int bearers = shop.parts.at(b, Shop.BEARERS);
        if (((bearers >> a & 1) == 1) == is) return NO;
        shop.parts.put(b, Shop.BEARERS, bearers ^ 1 << a);
        return 1;
    }

    public int along(int part) {
        if (!shop.parts.has(part)) return BAD;
        return breaks.reached(part);
    }

    // ---- hands

    public int hand(int skills, int leaves) {
        if (!within(skills, 0, 15) || !within(leaves, 0, 9)) return BAD;
        return shop.hands.add(skills, leaves, 0, 0);
    }

    public int need(int skill, int runs) {
        if (!shop.runs.has(skill) || !within(runs, 0, 9)) return BAD;
        int before = shop.runs.at(skill, 0);
        shop.runs.put(skill, 0, runs);
        return before;
    }

    public int plan(int n, int what) {
        if (!within(n, 1, Plans.MOST_YEARS) || !within(what, NONE, n - 1)) return WIDE_BAD;
        plans.find(n);
        if (what == NONE) return plans.mostRuns();
        int lesson = plans.lessonIn(what);
        return lesson == NONE ? WIDE_NONE : lesson;
    }

    // ---- images

    public int image(int i) {
        if (!within(i, 0, 1)) return BAD;
        imageAt(i).copy(shop);
        kept[i] = true;
        return 1;
    }

    public int from(int i) {
        if (!within(i, 0, 1)) return BAD;
        if (!kept[i]) return NO;
        shop.copy(imageAt(i));
        law.read();
        return 1;
    }

    private Shop imageAt(int i) {
        return i == 0 ? firstImage : secondImage;
    }

    public int count(int what) {
        switch (what) {
            case 0: return shop.parts.rows();
            case 1: return shop.sayings.rows();
            case 2: return shop.deniedSayings();
            case 3: return shop.chains.rows();
            case 4: return shop.works.rows();
            case 5: return shop.machines.rows();
            case 6: return shop.spares.rows();
            case 7: return shop.loads.rows();
            case 8: return shop.hands.rows();
            case 9: return shop.signs.rows();
            default: return BAD;
        }
    }

    public long digest() {
        long h = 383;
        for (int what = 0; what < 10; what++) h = 31 * h + count(what);
        h = withParts(h);
        h = withTable(h, shop.families, 3);
        h = withTable(h, shop.sayings, 6);
        h = withChains(h);
        h = withTable(h, shop.works, 4);
        h = withTable(h, shop.machines, 1);
        h = withTable(h, shop.spares, 3);
        h = withTable(h, shop.odds, 2);
        h = withTable(h, shop.loads, 2);
        h = withTable(h, shop.hands, 2);
        h = withTable(h, shop.runs, 1);
        return withTable(h, shop.signs, 1);
    }

    private long withParts(long before) {
        long h = before;
        for (int part = 0; part < shop.parts.rows(); part++) {
            h = withRow(h, shop.parts, part, 4);
            sizes.find(part);
            for (int what = 0; what < 3; what++) h = 31 * h + sizes.answer(what);
            h = 31 * h + breaks.reached(part);
        }
        return h;
    }

    private long withChains(long before) {
        long h = before;
        for (int chain = 0; chain < shop.chains.rows(); chain++) {
            h = withRow(h, shop.chains, chain, Shop.FIRST_LINK + 2 * shop.chains.at(chain, Shop.LINKS));
        }
        return h;
    }

    private static long withTable(long before, Table table, int columns) {
        long h = before;
        for (int row = 0; row < table.rows(); row++) h = withRow(h, table, row, columns);
        return h;
    }

    private static long withRow(long before, Table table, int row, int columns) {
        long h = before;
        for (int column = 0; column < columns; column++) h = 31 * h + table.at(row, column);
        return h;
    }

    private static boolean within(int value, int low, int high) {
        return low <= value && value <= high;
    }

    /** Rows of numbers of one width, as they come; no place outside is ever read or written. */
    private static final class Table {
        private final int[] cells;
        private final int width;
        private final int most;
        private int many;

        Table(int most, int width) {
            boolean fair = most > 0 && most <= 100 && width > 0 && width <= 20;
            this.most = fair ? most : 0;
            this.width = fair ? width : 0;
            cells = new int[fair ? most * width : 0];
        }

        int rows() {
            return many;
        }

        boolean has(int row) {
            return 0 <= row && row < many;
        }

        void empty() {
            many = 0;
        }

        /** The new row's number, or FULL; columns behind the fourth are 0. */
        int add(int a, int b, int c, int d) {
            if (many >= most) return FULL;
            int row = many;
            many++;
            for (int column = 4; column < width; column++) put(row, column, 0);
            put(row, 0, a);
            put(row, 1, b);
            put(row, 2, c);
            put(row, 3, d);
            return row;
        }

        int at(int row, int column) {
            if (row < 0 || row >= many || column < 0 || column >= width) return 0;
            int place = row * width + column;
            return place < cells.length ? cells[place] : 0;
        }

        void put(int row, int column, int value) {
            if (row < 0 || row >= many || column < 0 || column >= width) return;
            int place = row * width + column;
            if (place < cells.length) cells[place] = value;
        }

        void copy(Table other) {
            int used = other.many * other.width;
            if (other.width != width || used < 0 || used > cells.length || used > other.cells.length) return;
            System.arraycopy(other.cells, 0, cells, 0, used);
            many = other.many;
        }
    }

    /** All that an image keeps. */
    private static final class Shop {
        static final int LOAD = 0, HARDNESS = 1, YEAR = 2, FAMILY = 3, BEARERS = 4;
        static final int LEAST = 0, STEP = 1, MANY = 2;
        static final int PART = 0, SORT = 1, VALUE = 2, ERROR = 3, SAID_YEAR = 4, DENIED = 5;
        static final int MEASURE = 0, BOOK = 1, AT_MOST = 2, AT_LEAST = 3;
        static final int LOW = 0, HIGH = 1, LINKS = 2, FIRST_LINK = 3, MOST_LINKS = 6;
        static final int MORE = 0, PRICE = 1, FROM_SIZE = 2, TO_SIZE = 3;
        static final int KIND = 0, YEARS = 1, PAIR = 2;
        static final int ODDS_A = 0, ODDS_B = 1;
        static final int TOLD_LOAD = 0, BROKE = 1;
        static final int SKILLS = 0, LEAVES = 1;

        final Table parts = new Table(24, 5);
        final Table families = new Table(4, 3);
        final Table sayings = new Table(60, 6);
        final Table chains = new Table(16, FIRST_LINK + 2 * MOST_LINKS);
        final Table works = new Table(8, 4);
        final Table machines = new Table(6, 1);
        final Table spares = new Table(9, 3);
        final Table odds = new Table(1, 2);
        final Table loads = new Table(40, 2);
        final Table hands = new Table(3, 2);
        final Table runs = new Table(4, 1);
        final Table signs = new Table(Law.MOST_SIGNS, 1);

        Shop() {
            for (int family = 0; family < 4; family++) families.add(1, 1, LAST_SIZE, 0);
            for (int skill = 0; skill < 4; skill++) runs.add(0, 0, 0, 0);
            odds.add(0, 0, 0, 0);
        }

        void copy(Shop other) {
            parts.copy(other.parts);
            families.copy(other.families);
            sayings.copy(other.sayings);
            chains.copy(other.chains);
            works.copy(other.works);
            machines.copy(other.machines);
            spares.copy(other.spares);
            odds.copy(other.odds);
            loads.copy(other.loads);
            hands.copy(other.hands);
            runs.copy(other.runs);
            signs.copy(other.signs);
        }

        int deniedSayings() {
            int denied = 0;
            for (int saying = 0; saying < sayings.rows(); saying++) denied += sayings.at(saying, DENIED);
            return denied;
        }

        boolean isIn(int chain, int part) {
            int links = chains.at(chain, LINKS);
            for (int i = 0; i < links; i++) {
                if (chains.at(chain, FIRST_LINK + 2 * i) == part) return true;
            }
            return false;
        }
    }

    /** The law of wear: its text is read once into steps, each on the last numbers of a pile. */
    private static final class Law {
        static final int MOST_SIGNS = 60;
        private static final int MOST_OPEN = 8, MOST_DIGITS = 6, MOST_WORN = 10000;
        /** Stands for the - before a UNIT, so that it is not the one between TERMS. */
        private static final char MINUS = '~';
        private static final int COMPARES = 3, BINDS_ONE = 6;

        private final Shop shop;
        /** A number as it is; any other step is its sign, less than 0. */
        private final int[] steps = new int[MOST_SIGNS];
        /** Signs read whose step still waits for a UNIT behind them. */
        private final int[] waiting = new int[MOST_SIGNS];
        private final long[] pile = new long[MOST_SIGNS];
        private int written;
        private int waits;
        private int open;
        private int digits;
        private boolean unitDue;
        private int flaw;

        Law(Shop shop) {
            this.shop = shop;
            flaw = 1;
        }

        int flaw() {
            return flaw;
        }

        void read() {
            written = 0;
            waits = 0;
            open = 0;
            digits = 0;
            unitDue = true;
            flaw = NONE;
            int length = shop.signs.rows();
            for (int place = 0; place < length && flaw == NONE; place++) {
                int sign = shop.signs.at(place, 0);
                if ('0' <= sign && sign <= '9') {
                    readDigit(sign - '0', place);
                } else {
                    digits = 0;
                    if (sign != ' ') readSign(sign, place);
                }
            }
            if (flaw == NONE && (unitDue || open > 0)) flaw = 10 * length + 1;
            if (flaw == NONE) settle(1);
        }

        private void readDigit(int digit, int place) {
            if (digits == 0 && !unitDue) {
                flaw = 10 * place + 1;
            } else if (digits >= MOST_DIGITS) {
                flaw = 10 * (place - digits) + 2;
            } else {
                int before = 0;
                if (digits > 0 && written > 0 && written <= steps.length) {
                    written--;
                    before = steps[written];
                }
                put(10 * before + digit);
                digits++;
                unitDue = false;
            }
        }

        private void readSign(int sign, int place) {
            if (unitDue && sign == '(' && open >= MOST_OPEN) flaw = 10 * place + 3;
            else if (unitDue ? !startsUnit(sign) : !followsUnit(sign)) flaw = 10 * place + 1;
        }

        private boolean startsUnit(int sign) {
            if (sign == 'y' || sign == 'l' || sign == 'h') {
                put(-sign);
                unitDue = false;
                return true;
            }
            if (sign == '(') open++;
            else if (sign != '!' && sign != '-') return false;
            await(sign == '-' ? MINUS : sign);
            return true;
        }

        private boolean followsUnit(int sign) {
            if (sign == ')') {
                if (open == 0) return false;
                settle(1);
                waits--;
                open--;
                return true;
            }
            int rank = rank(sign);
            if (rank < 1 || rank >= BINDS_ONE) return false;
            settle(rank == COMPARES ? rank + 1 : rank);
            // a SUM is compared with one other at most
            if (rank == COMPARES && lastRank() == COMPARES) return false;
            await(sign);
            unitDue = true;
            return true;
        }

        private static int rank(int sign) {
            switch (sign) {
                case '|': return 1;
                case '&': return 2;
                case '<': case '>': case '=': return COMPARES;
                case '+': case '-': return 4;
                case '*': case '/': return 5;
                case '!': case MINUS: return BINDS_ONE;
                default: return 0;
            }
        }

        private int lastRank() {
            return waits > 0 && waits <= waiting.length ? rank(waiting[waits - 1]) : 0;
        }

        /** Writes the waiting signs that bind at least so much, back to the last open bracket. */
        private void settle(int rank) {
            for (int i = waits - 1; i >= 0 && i < waiting.length && rank(waiting[i]) >= rank; i--) {
                put(-waiting[i]);
                waits = i;
            }
        }

        private void put(int step) {
            if (written >= 0 && written < steps.length) {
                steps[written] = step;
                written++;
            }
        }

        private void await(int sign) {
            if (waits >= 0 && waits < waiting.length) {
                waiting[waits] = sign;
                waits++;
            }
        }

        int wornOf(int part, int year) {
            int years = Math.max(0, year - shop.parts.at(part, Shop.YEAR));
            if (flaw != NONE) return years;
            long told = tells(years, shop.parts.at(part, Shop.LOAD), shop.parts.at(part, Shop.HARDNESS));
            return (int) Math.max(0L, Math.min((long) MOST_WORN, told));
        }

        private long tells(int y, int l, int h) {
            int high = 0;
            for (int i = 0; i < written && i < steps.length; i++) {
                int step = steps[i];
                if (step >= 0 || step == -'y' || step == -'l' || step == -'h') {
                    if (high >= pile.length) return 0;
                    pile[high] = step >= 0 ? step : step == -'y' ? y : step == -'l' ? l : h;
                    high++;
                } else if (step == -'!' || step == -MINUS) {
                    if (high < 1) return 0;
                    pile[high - 1] = step == -MINUS ? -pile[high - 1] : pile[high - 1] == 0 ? 1 : 0;
                } else {
                    if (high < 2) return 0;
                    high--;
                    pile[high - 1] = joined(-step, pile[high - 1], pile[high]);
                }
            }
            return high > 0 ? pile[high - 1] : 0;
        }

        private static long joined(int sign, long a, long b) {
            switch (sign) {
                case '|': return a != 0 || b != 0 ? 1 : 0;
                case '&': return a != 0 && b != 0 ? 1 : 0;
                case '<': return a < b ? 1 : 0;
                case '>': return a > b ? 1 : 0;
                case '=': return a == b ? 1 : 0;
                case '+': return a + b;
                case '-': return a - b;
                case '*': return a * b;
                case '/': return b == 0 ? 0 : a / b;
                default: return 0;
            }
        }
    }

    /** FIRST and QUARREL of the part that was looked for last. */
    private static final class Sizes {
        private static final int BEYOND = 1000000;

        private final Shop shop;
        private final Law law;
        private final int[] lows;
        private final int[] highs;
        private final int[] sayings;
        private int said;
        private int base;
        private int step;
        private int last;
        int least;
        int greatest;
        int many;

        Sizes(Shop shop, Law law) {
            this.shop = shop;
            this.law = law;
            lows = new int[60];
            highs = new int[60];
            sayings = new int[60];
        }

        void find(int part) {
            chooseFamily(shop.parts.at(part, Shop.FAMILY));
            said = 0;
            for (int saying = 0; saying < shop.sayings.rows(); saying++) {
                boolean counts = shop.sayings.at(saying, Shop.PART) == part
                        && shop.sayings.at(saying, Shop.DENIED) == 0;
                if (counts && said < sayings.length) {
                    allow(part, saying, said);
                    said++;
                }
            }
            chooseSizes();
        }

        private void chooseFamily(int family) {
            boolean has = shop.families.has(family);
            base = has ? shop.families.at(family, Shop.LEAST) : 1;
            step = has ? Math.max(1, shop.families.at(family, Shop.STEP)) : 1;
            last = (has ? shop.families.at(family, Shop.MANY) : LAST_SIZE) - 1;
        }

        private void allow(int part, int saying, int row) {
            if (row < 0 || row >= lows.length || row >= highs.length || row >= sayings.length) return;
            int sort = shop.sayings.at(saying, Shop.SORT);
            int middle = shop.sayings.at(saying, Shop.VALUE);
            int error = shop.sayings.at(saying, Shop.ERROR);
            if (sort == Shop.MEASURE) middle += law.wornOf(part, shop.sayings.at(saying, Shop.SAID_YEAR));
            lows[row] = sort == Shop.AT_MOST ? -BEYOND : middle - error;
            highs[row] = sort == Shop.AT_LEAST ? BEYOND : middle + error;
            sayings[row] = saying;
        }

        private void chooseSizes() {
            int low = -BEYOND;
            int high = BEYOND;
            for (int i = 0; i < said && i < lows.length && i < highs.length; i++) {
                low = Math.max(low, lows[i]);
                high = Math.min(high, highs[i]);
            }
            int from = placeFrom(low);
            int to = high < base || step < 1 ? -1 : Math.min(last, (high - base) / step);
            many = Math.max(0, to - from + 1);
            least = many > 0 ? base + from * step : NONE;
            greatest = many > 0 ? base + to * step : NONE;
        }

        /** The place in the family of its first size that is not below a bound; it may lie behind the last. */
        private int placeFrom(int bound) {
            return bound <= base || step < 1 ? 0 : (bound - base + step - 1) / step;
        }

        int answer(int what) {
            return what == 0 ? least : what == 1 ? greatest : many;
        }

        /** Fewer can quarrel only from where one begins to allow: no other sizes need a look. */
        int leastDisputed() {
            int best = base;
            int fewest = against(base);
            for (int i = 0; i < said && i < lows.length; i++) {
                int place = placeFrom(lows[i]);
                if (place > last) continue;
                int size = base + place * step;
                int objections = against(size);
                if (objections < fewest || objections == fewest && size < best) {
                    best = size;
                    fewest = objections;
                }
            }
            return best;
        }

        int against(int size) {
            int objections = 0;
            for (int i = 0; i < said; i++) {
                if (denies(i, size)) objections++;
            }
            return objections;
        }

        int objector(int size, int which) {
            int before = 0;
            for (int i = 0; i < said && i < sayings.length; i++) {
                if (!denies(i, size)) continue;
                if (before == which) return sayings[i];
                before++;
            }
            return NONE;
        }

        private boolean denies(int row, int size) {
            return row >= 0 && row < lows.length && row < highs.length
                    && (size < lows[row] || size > highs[row]);
        }
    }

    /** The sums of the chain that was taken last, its FIRSTs found once for all years. */
    private static final class Fits {
        private final Shop shop;
        private final Law law;
        private final Sizes sizes;
        private final int[] parts = new int[Shop.MOST_LINKS];
        private final int[] leasts = new int[Shop.MOST_LINKS];
        private final int[] greatests = new int[Shop.MOST_LINKS];
        private int chain;
        boolean sized;
        int least;
        int greatest;

        Fits(Shop shop, Law law, Sizes sizes) {
            this.shop = shop;
            this.law = law;
            this.sizes = sizes;
        }

        void take(int taken, int gone, int instead) {
            chain = taken;
            sized = true;
            int links = shop.chains.at(chain, Shop.LINKS);
            for (int i = 0; i < links && i < Shop.MOST_LINKS; i++) {
                int part = shop.chains.at(chain, Shop.FIRST_LINK + 2 * i);
                parts[i] = part == gone ? instead : part;
                sizes.find(parts[i]);
                if (sizes.many == 0) sized = false;
                leasts[i] = sizes.least;
                greatests[i] = sizes.greatest;
            }
        }

        void addUp(int year) {
            least = 0;
            greatest = 0;
            int links = shop.chains.at(chain, Shop.LINKS);
            for (int i = 0; i < links && i < Shop.MOST_LINKS; i++) {
                int worn = law.wornOf(parts[i], year);
                boolean off = shop.chains.at(chain, Shop.FIRST_LINK + 2 * i + 1) == 1;
                least += off ? worn - greatests[i] : leasts[i] - worn;
                greatest += off ? worn - leasts[i] : greatests[i] - worn;
            }
        }

        boolean holdIn(int year) {
            if (!sized) return false;
            addUp(year);
            return shop.chains.at(chain, Shop.LOW) <= least && greatest <= shop.chains.at(chain, Shop.HIGH);
        }
    }

    /**
     * WAY. Of all rows of as many works to one size, only the best one is kept, as one number:
     * the price first, then the works as digits to the base 8, so that the less number is the better row.
     */
    private static final class Ways {
        private static final int MOST_STEPS = 5, ROWS = 32768;

        private final Shop shop;
        private final int[][] best = new int[2][LAST_WAY_SIZE + 1];
        private final int[][] reached = new int[2][LAST_WAY_SIZE];
        private final int[] many = new int[2];
        private int row;
        int price;
        int steps;

        Ways(Shop shop) {
            this.shop = shop;
            Arrays.fill(best[0], NONE);
            Arrays.fill(best[1], NONE);
        }

        void find(int size, int low, int high) {
            price = NONE;
            reach(0, size, 0);
            for (int done = 0; done <= MOST_STEPS; done++) {
                int now = done & 1;
                look(now, done, low, high);
                if (done < MOST_STEPS) spread(now);
                forget(now);
            }
        }

        private void look(int now, int done, int low, int high) {
            if (!within(now, 0, 1)) return;
            int found = NONE;
            for (int i = 0; i < many[now] && i < LAST_WAY_SIZE; i++) {
                int size = reached[now][i];
                if (!within(size, Math.max(low, 1), Math.min(high, LAST_WAY_SIZE))) continue;
                int key = best[now][size];
                if (found == NONE || key < found) found = key;
            }
            if (found == NONE || price != NONE && price <= found / ROWS) return;
            price = found / ROWS;
            row = found % ROWS;
            steps = done;
        }

        private void spread(int now) {
            if (!within(now, 0, 1)) return;
            for (int i = 0; i < many[now] && i < LAST_WAY_SIZE; i++) {
                int size = reached[now][i];
                if (!within(size, 1, LAST_WAY_SIZE)) continue;
                int key = best[now][size];
                int before = key / ROWS;
                int works = key % ROWS;
                for (int work = 0; work < shop.works.rows(); work++) {
                    if (size < shop.works.at(work, Shop.FROM_SIZE)) continue;
                    if (size > shop.works.at(work, Shop.TO_SIZE)) continue;
                    int paid = before + shop.works.at(work, Shop.PRICE);
                    reach(1 - now, size + shop.works.at(work, Shop.MORE), paid * ROWS + works * 8 + work);
                }
            }
        }

        private void reach(int then, int size, int key) {
            if (!within(then, 0, 1) || !within(size, 1, LAST_WAY_SIZE)) return;
            if (best[then][size] == NONE && within(many[then], 0, LAST_WAY_SIZE - 1)) {
                reached[then][many[then]] = size;
                many[then]++;
                best[then][size] = key;
            } else if (key < best[then][size]) {
                best[then][size] = key;
            }
        }

        private void forget(int now) {
            if (!within(now, 0, 1)) return;
            for (int i = 0; i < many[now] && i < LAST_WAY_SIZE; i++) {
                int size = reached[now][i];
                if (within(size, 1, LAST_WAY_SIZE)) best[now][size] = NONE;
            }
            many[now] = 0;
        }

        int stepAt(int i) {
            return within(i, 0, steps - 1) ? row >> 3 * (steps - 1 - i) & 7 : NONE;
        }
    }

    /** TAKING: for each machine and each set of spares given before it, the most years that can come of it. */
    private static final class Givings {
        private static final int MOST_MACHINES = 6, MOST_SPARES = 9, SETS = 1 << MOST_SPARES;

        private final Shop shop;
        private final int[][] most = new int[MOST_MACHINES + 1][SETS];
        private final int[] years = new int[SETS];
        private final int[] kinds = new int[4];
        private final int[] pairs = new int[4];
        private int spares;

        Givings(Shop shop) {
            this.shop = shop;
        }

        void find() {
            gatherSpares();
            int machines = Math.min(MOST_MACHINES, shop.machines.rows());
            int sets = 1 << spares;
            for (int set = 0; set < sets; set++) {
                if (Integer.bitCount(set) <= machines) most[machines][set] = parts(set) ? NONE : years[set];
            }
            for (int machine = machines - 1; machine >= 0; machine--) {
                for (int set = 0; set < sets; set++) {
                    if (Integer.bitCount(set) <= machine) most[machine][set] = mostOf(machine, set);
                }
            }
        }

        /** By kinds and by pairs the sets of their spares, and the years of every set. */
        private void gatherSpares() {
            spares = Math.min(MOST_SPARES, shop.spares.rows());
            Arrays.fill(kinds, 0);
            Arrays.fill(pairs, 0);
            years[0] = 0;
            for (int spare = 0; spare < spares; spare++) {
                int bit = 1 << spare;
                int kind = shop.spares.at(spare, Shop.KIND);
                int pair = shop.spares.at(spare, Shop.PAIR);
                if (within(kind, 0, kinds.length - 1)) kinds[kind] |= bit;
                if (within(pair, 0, pairs.length - 1)) pairs[pair] |= bit;
                int more = shop.spares.at(spare, Shop.YEARS);
                for (int set = 0; set < bit; set++) years[set | bit] = years[set] + more;
            }
        }

        /** Whether only some spares of a pair are in a set. */
        private boolean parts(int set) {
            for (int pair : pairs) {
                if ((set & pair) != 0 && (set & pair) != pair) return true;
            }
            return false;
        }

        /** The spares that a machine may still get. */
        private int open(int machine, int set) {
            int kind = shop.machines.at(machine, Shop.KIND);
            return within(kind, 0, kinds.length - 1) ? kinds[kind] & ~set : 0;
        }

        private int mostOf(int machine, int set) {
            int found = after(machine, set);
            int open = open(machine, set);
            for (int spare = 0; spare < spares; spare++) {
                if ((open >> spare & 1) == 1) found = Math.max(found, after(machine, set | 1 << spare));
            }
            return found;
        }

        /** The most years where so many machines have been looked at and this set is given. */
        private int after(int machine, int set) {
            if (!within(machine, 0, MOST_MACHINES - 1) || !within(set, 0, SETS - 1)) return NONE;
            return most[machine + 1][set];
        }

        int mostYears() {
            return most[0][0];
        }

        int spareOf(int asked) {
            int set = 0;
            for (int machine = 0; machine < shop.machines.rows(); machine++) {
                int given = givenTo(machine, set);
                if (machine == asked) return given;
                if (given != NONE) set |= 1 << given;
            }
            return NONE;
        }

        private int givenTo(int machine, int set) {
            if (after(machine, set) == mostYears()) return NONE;
            int open = open(machine, set);
            for (int spare = 0; spare < spares; spare++) {
                if ((open >> spare & 1) == 1 && after(machine, set | 1 << spare) == mostYears()) return spare;
            }
            return NONE;
        }
    }

    /** A number from 0 on, as digits to the base 2 to the 30, the lowest first; 0 is one digit. */
    private static final class Big {
        private static final int DIGIT_BITS = 30, MOST_DIGITS = 70;
        private static final long DIGIT_MASK = (1L << DIGIT_BITS) - 1;

        private final int[] digits = new int[MOST_DIGITS];
        private int many = 1;

        void set(int digit) {
            digits[0] = digit;
            many = 1;
        }

        void copy(Big other) {
            System.arraycopy(other.digits, 0, digits, 0, MOST_DIGITS);
            many = other.many;
        }

        /** Times a number of one digit; times 0 only where this is one digit, too. */
        void times(int factor) {
            long carry = 0;
            for (int i = 0; i < many && i < MOST_DIGITS; i++) {
                carry += (long) digits[i] * factor;
                digits[i] = (int) (carry & DIGIT_MASK);
                carry >>= DIGIT_BITS;
            }
            if (carry > 0 && within(many, 0, MOST_DIGITS - 1)) {
                digits[many] = (int) carry;
                many++;
            }
        }

        boolean above(Big other) {
            if (many != other.many) return many > other.many;
            for (int i = many - 1; i >= 0 && i < MOST_DIGITS; i--) {
                if (digits[i] != other.digits[i]) return digits[i] > other.digits[i];
            }
            return false;
        }

        int rows() {
            return many;
        }

        int at(int i) {
            return within(i, 0, many - 1) && i < MOST_DIGITS ? digits[i] : NONE;
        }
    }

    /** Odds of breaking, THE FRACTION, what is fitted, what a break takes along. */
    private static final class Breaks {
        private static final int WHOLE = 1000, MOST_HALF = 200, ONE_DIGIT = 1 << 30;

        private final Shop shop;
        private final Big above = new Big();
        private final Big below = new Big();
        private final Big left = new Big();
        private final Big right = new Big();
        private int keeps;
        private int outOf;

        Breaks(Shop shop) {
            this.shop = shop;
            below.set(1);
        }

        Big side(int which) {
            return which == 0 ? above : below;
        }

        void last(int part, int n) {
            chooseYear(part);
            above.set(1);
            below.set(1);
            for (int year = 0; year < n; year++) {
                above.times(keeps);
                below.times(outOf);
            }
        }

        int halved(int part) {
            chooseYear(part);
            left.set(2);
            right.set(1);
            for (int n = 1; n <= MOST_HALF; n++) {
                left.times(keeps);
                right.times(outOf);
                if (!left.above(right)) return n;
            }
            return NONE;
        }

        /** The chance to last one year, in least terms: 1000 has no divisors but of 2, 2, 2, 5, 5, 5. */
        private void chooseYear(int part) {
            int a = shop.odds.at(0, Shop.ODDS_A);
            int b = shop.odds.at(0, Shop.ODDS_B);
            keeps = WHOLE - Math.min(WHOLE, oddsOf(a, b, shop.parts.at(part, Shop.LOAD)));
            outOf = WHOLE;
            for (int i = 0; i < 3; i++) {
                shorten(2);
                shorten(5);
            }
        }

        private void shorten(int divisor) {
            if (divisor > 0 && keeps % divisor == 0 && outOf % divisor == 0) {
                keeps /= divisor;
                outOf /= divisor;
            }
        }

        private static int oddsOf(int a, int b, int load) {
            return a + b * load;
        }

        int fit() {
            int found = NONE;
            for (int row = 0; row < 100; row++) {
                if (!weigh(row / 10, row % 10)) continue;
                if (found == NONE || left.above(right)) {
                    found = row;
                    right.copy(left);
                }
            }
            return found;
        }

        /** The product of all told loads, times 1000 for each, is put left; false where A and B may not be. */
        private boolean weigh(int a, int b) {
            left.set(1);
            int waiting = 1;
            for (int i = 0; i < shop.loads.rows(); i++) {
                int odds = oddsOf(a, b, shop.loads.at(i, Shop.TOLD_LOAD));
                if (!within(odds, 1, WHOLE - 1)) return false;
                waiting *= shop.loads.at(i, Shop.BROKE) == 1 ? odds : WHOLE - odds;
                // one more factor might not fit into a digit
                if (waiting >= ONE_DIGIT / WHOLE) {
                    left.times(waiting);
                    waiting = 1;
                }
            }
            left.times(waiting);
            return true;
        }

        int reached(int part) {
            int reached = shop.parts.at(part, Shop.BEARERS);
            int before = 0;
            for (int round = 0; round < shop.parts.rows() && reached != before; round++) {
                before = reached;
                for (int other = 0; other < shop.parts.rows(); other++) {
                    if ((reached >> other & 1) == 1) reached |= shop.parts.at(other, Shop.BEARERS);
                }
            }
            return reached;
        }
    }

    /** THE PLAN: for each year and each set of skills learned before it, the most runs from then on. */
    private static final class Plans {
        static final int MOST_YEARS = 8;
        private static final int MOST_HANDS = 3, MOST_SKILLS = 4, ALL_SKILLS = 15, LAST_LESSON = 47;
        /** Each skill that can be learned is had by one hand at first: two others may learn it, from two each. */
        private static final int MOST_LEARNED = 8, MOST_LESSONS = 16, SETS = 1 << MOST_LEARNED;

        private final Shop shop;
        private final int[] lessons = new int[MOST_LESSONS];
        /** By lessons: the bit of a set that tells whether it was learned. */
        private final int[] learns = new int[MOST_LESSONS];
        /** By 4 times the hand and the skill: its bit of a set, 0 where there is nothing to learn. */
        private final int[] bits = new int[MOST_HANDS * MOST_SKILLS];
        /** By sets: four bits of skills for each hand. */
        private final int[] skilled = new int[SETS];
        private final int[] runsOf = new int[ALL_SKILLS + 1];
        /** By years: a bit for each hand who is there. */
        private final int[] there = new int[MOST_YEARS];
        private final int[][] most = new int[MOST_YEARS + 1][SETS];
        private int many;
        private int learned;
        private int years;

        Plans(Shop shop) {
            this.shop = shop;
        }

        void find(int n) {
            years = Math.max(0, Math.min(n, MOST_YEARS));
            chooseBits();
            chooseLessons();
            chooseRuns();
            chooseYears();
            int sets = 1 << Math.max(0, Math.min(MOST_LEARNED, learned));
            for (int set = 0; set < sets; set++) most[years][set] = 0;
            for (int year = years - 1; year >= 0; year--) {
                for (int set = 0; set < sets; set++) {
                    if (Integer.bitCount(set) <= year) most[year][set] = mostOf(year, set);
                }
            }
        }

        private static boolean knows(int all, int hand, int skill) {
            return (all >> MOST_SKILLS * hand + skill & 1) == 1;
        }

        /** What may be learned. A skill that no run needs is never worth a lesson: nobody comes first. */
        private void chooseBits() {
            int all = 0;
            int any = 0;
            for (int hand = 0; hand < shop.hands.rows(); hand++) {
                all |= shop.hands.at(hand, Shop.SKILLS) << MOST_SKILLS * hand;
                any |= shop.hands.at(hand, Shop.SKILLS);
            }
            learned = 0;
            skilled[0] = all;
            for (int i = 0; i < bits.length; i++) {
                int hand = i / MOST_SKILLS;
                int skill = i % MOST_SKILLS;
                boolean lacks = hand < shop.hands.rows() && !knows(all, hand, skill);
                boolean useful = (any >> skill & 1) == 1 && shop.runs.at(skill, 0) > 0;
                bits[i] = 0;
                if (!lacks || !useful || !within(learned, 0, MOST_LEARNED - 1)) continue;
                bits[i] = 1 << learned;
                for (int set = 0; set < bits[i]; set++) skilled[set | bits[i]] = skilled[set] | 1 << i;
                learned++;
            }
        }

        /** Whatever may ever be taught, in the order of THE PLAN's rows. */
        private void chooseLessons() {
            many = 0;
            for (int lesson = 0; lesson <= LAST_LESSON; lesson++) {
                int who = lesson >> 4;
                int whom = lesson & 3;
                int place = MOST_SKILLS * whom + (lesson >> 2 & 3);
                if (who == whom || !shop.hands.has(who) || !within(place, 0, bits.length - 1)) continue;
                if (bits[place] != 0 && within(many, 0, MOST_LESSONS - 1)) {
                    lessons[many] = lesson;
                    learns[many] = bits[place];
                    many++;
                }
            }
        }

        private void chooseRuns() {
            for (int skills = 0; skills <= ALL_SKILLS; skills++) {
                runsOf[skills] = 0;
                for (int skill = 0; skill < MOST_SKILLS; skill++) {
                    if ((skills >> skill & 1) == 1) runsOf[skills] += shop.runs.at(skill, 0);
                }
            }
        }

        private void chooseYears() {
            for (int year = 0; year < MOST_YEARS; year++) {
                there[year] = 0;
                for (int hand = 0; hand < shop.hands.rows(); hand++) {
                    if (year < shop.hands.at(hand, Shop.LEAVES)) there[year] |= 1 << hand;
                }
            }
        }

        private int mostOf(int year, int set) {
            int found = idle(year, set);
            for (int i = 0; i < many; i++) found = Math.max(found, taught(year, set, i));
            return found;
        }

        /** The most runs from a year on in which nobody teaches. */
        private int idle(int year, int set) {
            if (!within(year, 0, MOST_YEARS - 1) || !within(set, 0, SETS - 1)) return NONE;
            return runsBy(there[year], set) + most[year + 1][set];
        }

        /** The most runs from a year on with the i-th lesson in it; NONE where it can not be. */
        private int taught(int year, int set, int i) {
            if (!within(i, 0, MOST_LESSONS - 1)) return NONE;
            if (!within(year, 0, MOST_YEARS - 1) || !within(set, 0, SETS - 1)) return NONE;
            int who = lessons[i] >> 4;
            int busy = 1 << who | 1 << (lessons[i] & 3);
            int next = set | learns[i];
            if ((there[year] & busy) != busy || next == set || next >= SETS) return NONE;
            if (!knows(skilled[set], who, lessons[i] >> 2 & 3)) return NONE;
            return runsBy(there[year] & ~busy, set) + most[year + 1][next];
        }

        private int runsBy(int free, int set) {
            if (!within(set, 0, SETS - 1)) return 0;
            int skills = 0;
            for (int hand = 0; hand < MOST_HANDS; hand++) {
                if ((free >> hand & 1) == 1) skills |= skilled[set] >> MOST_SKILLS * hand;
            }
            return runsOf[skills & ALL_SKILLS];
        }

        int mostRuns() {
            return most[0][0];
        }

        int lessonIn(int asked) {
            int set = 0;
            for (int year = 0; year < years; year++) {
                int i = bestIn(year, set);
                boolean any = within(i, 0, MOST_LESSONS - 1);
                if (year == asked) return any ? lessons[i] : NONE;
                if (any) set |= learns[i];
            }
            return NONE;
        }

        private int bestIn(int year, int set) {
            int best = mostOf(year, set);
            if (idle(year, set) == best) return NONE;
            for (int i = 0; i < many; i++) {
                if (taught(year, set, i) == best) return i;
            }
            return NONE;
        }
    }
}
