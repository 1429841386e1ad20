import java.util.Arrays;

/** A workshop whose glue holds as long as whoever boiled it mourns. */
public final class GriefGlue {
    public static final int NONE = -1, BAD = -2, NO = -3, FULL = -4;

    private static final int MOST = 99;
    private static final int LAST_DAY = 99;
    private static final int NEVER = 100;
    private static final int DAYS = 100;
    private static final int GRIEFS = 100;

    private static final int MOURNERS = 6;
    private static final int JOINTS = 6;
    private static final int PIECES = 4;
    private static final int FEASTS = 10;
    private static final int FACTS = 6;
    private static final int IMAGES = 2;
    private static final int TEXT_BYTES = 250;
    private static final int PASTS = 10;
    private static final int LAST_KIND = 5;
    private static final int MOST_WEDDING_DAYS = 15;

    // Columns of the ledgers.
    private static final int KIND = 0, FIRST_GRIEF = 1, PRICE = 2;
    private static final int LOAD = 0;
    private static final int SET = 0, LEASE = 1;
    private static final int WHAT = 0, FEAST_DAY = 1, WHOSE = 2;
    private static final int FACT_LOAD = 0, FACT_BOILED = 1, FACT_OPENED = 2;

    private static final int WEDDING = 0, ONION = 1;
    private static final int ONION_GRIEF = 5;

    // A joint's boiling is three numbers; a past is the day and the boilings of all joints.
    private static final int BOIL_WIDTH = 3;
    private static final int BOIL_CELLS = JOINTS * BOIL_WIDTH;
    private static final int PAST_WIDTH = 1 + BOIL_CELLS;

    private final Shop shop = new Shop();
    private final Shop[] images = {new Shop(), new Shop()};
    private final boolean[] kept = new boolean[IMAGES];
    private final Reader reader = new Reader();
    private final Hiring hiring = new Hiring();
    private final Outlook outlook = new Outlook();
    private long above;
    private long below = 1;
    private int bads;
    private int noes;
    private int fulls;

    public GriefGlue() {
    }

    // ---- a shop

    public int mourner(int kind, int grief, int price) {
        if (!isWithin(kind, 0, LAST_KIND) || !isWithin(grief, 0, MOST) || !isWithin(price, 0, MOST)) {
            return refuseBad();
        }
        if (shop.mourners.isFull()) {
            return refuseFull();
        }
        return shop.addMourner(kind, grief, price);
    }

    public int joint(int load) {
        if (!isWithin(load, 0, MOST)) {
            return refuseBad();
        }
        if (shop.joints.isFull()) {
            return refuseFull();
        }
        return shop.joints.add(load, 0, 0);
    }

    public int piece(int set, int lease) {
        if (!isWithin(set, 1, shop.allJoints()) || !isWithin(lease, 0, LAST_DAY)) {
            return refuseBad();
        }
        if (shop.pieces.isFull()) {
            return refuseFull();
        }
        return shop.pieces.add(set, lease, 0);
    }

    public int feast(int what, int day, int m) {
        if (!isWithin(what, WEDDING, ONION) || !isWithin(day, 1, LAST_DAY) || !shop.mourners.has(m)) {
            return refuseBad();
        }
        if (shop.feasts.isFull()) {
            return refuseFull();
        }
        return shop.addFeast(what, day, m);
    }

    public int skip() {
        if (shop.feasts.size == 0) {
            return refuseNo();
        }
        shop.dropFeast();
        return shop.feasts.size;
    }

    public int boil(int joint, int a, int b) {
        if (!shop.joints.has(joint) || !shop.mourners.has(a)) {
            return refuseBad();
        }
        if (b != NONE && (!shop.mourners.has(b) || b == a)) {
            return refuseBad();
        }
        shop.keepPast();
        shop.boilNow(joint, a, b);
        return shop.openingOf(joint);
    }

    public int day(int d) {
        if (!isWithin(d, shop.day, LAST_DAY)) {
            return refuseBad();
        }
        shop.keepPast();
        shop.day = d;
        return Integer.bitCount(shop.openJoints());
    }

    public int undo() {
        if (shop.pasts == 0) {
            return refuseNo();
        }
        shop.goBack();
        return 1;
    }

    public int type(long v, int n) {
        if (!isWithin(n, 1, 8)) {
            return refuseBad();
        }
        if (reader.length + n > TEXT_BYTES) {
            return refuseFull();
        }
        for (int i = n - 1; i >= 0; i--) {
            reader.addByte((int) (v >>> (8 * i)) & 255);
        }
        return reader.length;
    }

    public int clear() {
        int had = reader.length;
        reader.length = 0;
        return had;
    }

    public int read() {
        int items = reader.readItems();
        if (reader.fault != NONE) {
            return -10 - reader.fault;
        }
        shop.copyFrom(reader.shop);
        shop.renewAllGriefs();
        return items;
    }

    // ---- what holds

    public int grief(int m, int day) {
        if (!shop.mourners.has(m) || !isWithin(day, 0, LAST_DAY)) {
            return refuseBad();
        }
        return shop.griefOn(m, day);
    }

    public int opens(int joint) {
        if (!shop.joints.has(joint)) {
            return refuseBad();
        }
        return shop.openingOf(joint);
    }

    public int lasts(int piece) {
        if (!shop.pieces.has(piece)) {
            return refuseBad();
        }
        return shop.isLasting(piece) ? 1 : 0;
    }

    public int open() {
        return shop.openJoints();
    }

    // ---- whom to hire

    public int hire(int what) {
        if (!isWithin(what, 0, 1)) {
            return refuseBad();
        }
        hiring.lookAt(shop);
        int set = hiring.cheapest(NONE);
        if (set == NONE || what == 1) {
            return set;
        }
        return hiring.priceOf(set);
    }

    public int who(int joint) {
        if (!shop.joints.has(joint)) {
            return refuseBad();
        }
        hiring.lookAt(shop);
        int set = hiring.cheapest(NONE);
        if (set == NONE || !hiring.isNeedy(joint)) {
            return NONE;
        }
        return hiring.boilersFor(joint, set);
    }

    public int saves(int m) {
        if (!shop.mourners.has(m)) {
            return refuseBad();
        }
        hiring.lookAt(shop);
        int with = hiring.cheapest(NONE);
        int without = hiring.cheapest(m);
        if (with == NONE || without == NONE) {
            return NONE;
        }
        return hiring.priceOf(without) - hiring.priceOf(with);
    }

    public int tears(int m, int load, int day) {
        if (!shop.mourners.has(m) || !isWithin(load, 0, MOST) || !isWithin(day, shop.day, LAST_DAY)) {
            return refuseBad();
        }
        return outlook.fewestOnions(shop, m, load, day);
    }

    // ---- what is likely

    public int fact(int load, int boiled, int opened) {
        if (!isWithin(load, 0, MOST) || !isWithin(boiled, 0, LAST_DAY) || !isWithin(opened, boiled, NEVER)) {
            return refuseBad();
        }
        if (shop.facts.isFull()) {
            return refuseFull();
        }
        return shop.facts.add(load, boiled, opened);
    }

    public int forget() {
        int had = shop.facts.size;
        shop.facts.size = 0;
        return had;
    }

    public int likely(int kind, int what) {
        if (!isWithin(kind, 0, LAST_KIND) || !isWithin(what, 0, 2)) {
            return refuseBad();
        }
        return outlook.firstGriefs(shop.facts, kind, what);
    }

    public int odds(int m, int load, int n, int p) {
        if (!shop.mourners.has(m) || !isWithin(load, 0, MOST)) {
            return refuseBad();
        }
        if (!isWithin(n, 0, MOST_WEDDING_DAYS) || !isWithin(p, 0, 10) || shop.day + n > LAST_DAY) {
            return refuseBad();
        }
        long held = outlook.chancesToHold(shop, m, load, n, p);
        long all = tenTo(n);
        long common = commonDivisor(held, all);
        if (common > 0) {
            above = held / common;
            below = all / common;
        }
        return 1;
    }

    public int harm(int feast) {
        if (!shop.feasts.has(feast)) {
            refuseBad();
            return -10;
        }
        return outlook.harmOf(shop, feast);
    }

    // ---- what there is

    public long part(int what) {
        if (!isWithin(what, 0, 1)) {
            return refuseBad();
        }
        return what == 0 ? above : below;
    }

    public int image(int i) {
        if (!isWithin(i, 0, IMAGES - 1)) {
            return refuseBad();
        }
        images[i].copyFrom(shop);
        kept[i] = true;
        return 1;
    }

    public int from(int i) {
        if (!isWithin(i, 0, IMAGES - 1)) {
            return refuseBad();
        }
        if (!kept[i]) {
            return refuseNo();
        }
        shop.copyFrom(images[i]);
        return 1;
    }

    public int status(int what) {
        switch (what) {
            case 0:
                return bads;
            case 1:
                return noes;
            case 2:
                return fulls;
            default:
                refuseBad();
                return -1;
        }
    }

    public int count(int what) {
        return isWithin(what, 0, 7) ? countOf(what) : refuseBad();
    }

    public long digest() {
        long h = 797;
        for (int what = 0; what <= 7; what++) {
            h = 31 * h + countOf(what);
        }
        h = shop.mourners.mixInto(h);
        h = shop.mixJointsInto(h);
        h = shop.pieces.mixInto(h);
        h = shop.feasts.mixInto(h);
        h = shop.facts.mixInto(h);
        h = 31 * h + above;
        return 31 * h + below;
    }

    private int countOf(int what) {
        switch (what) {
            case 0:
                return shop.mourners.size;
            case 1:
                return shop.joints.size;
            case 2:
                return shop.pieces.size;
            case 3:
                return shop.feasts.size;
            case 4:
                return shop.facts.size;
            case 5:
                return shop.day;
            case 6:
                return shop.pasts;
            default:
                return reader.length;
        }
    }

    private int refuseBad() {
        bads++;
        return BAD;
    }

    private int refuseNo() {
        noes++;
        return NO;
    }

    private int refuseFull() {
        fulls++;
        return FULL;
    }

    private static boolean isWithin(int x, int least, int greatest) {
        return x >= least && x <= greatest;
    }

    private static long tenTo(int n) {
        long power = 1;
        for (int i = 0; i < n; i++) {
            power *= 10;
        }
        return power;
    }

    private static long commonDivisor(long x, long y) {
        long one = x;
        long other = y;
        // Euclid's rests at least halve every second time, so 200 are more than a long can need.
        for (int i = 0; i < 200 && other != 0; i++) {
            long rest = one % other;
            one = other;
            other = rest;
        }
        return one;
    }

    /** Rows of one to three numbers, as they come, up to a limit. */
    private static final class Ledger {
        private final int limit;
        private final int width;
        private final int[] cells;
        private int size;

        Ledger(int limit, int width) {
            this.limit = Math.max(limit, 0);
            this.width = Math.max(width, 1);
            this.cells = new int[this.limit * this.width];
        }

        boolean isFull() {
            return size >= limit;
        }

        boolean has(int row) {
            return row >= 0 && row < size;
        }

        int at(int row, int column) {
            if (!has(row) || column < 0 || column >= width) {
                return NONE;
            }
            return cells[row * width + column];
        }

        int add(int x, int y, int z) {
            if (isFull()) {
                return FULL;
            }
            int start = size * width;
            cells[start] = x;
            if (width > 1) {
                cells[start + 1] = y;
            }
            if (width > 2) {
                cells[start + 2] = z;
            }
            size++;
            return size - 1;
        }

        void dropLast() {
            if (size > 0) {
                size--;
            }
        }

        void copyFrom(Ledger other) {
            if (other.cells.length == cells.length) {
                System.arraycopy(other.cells, 0, cells, 0, cells.length);
                size = other.size;
            }
        }

        long mixInto(long before) {
            long h = before;
            for (int i = 0; i < size * width; i++) {
                h = 31 * h + cells[i];
            }
            return h;
        }
    }

    /** What a day makes of a grief, kind by kind, each by the one it stands under. */
    private static final class Kinds {
        private Kinds() {
        }

        static int stepOf(int kind, int g, int day) {
            switch (kind) {
                case 1:
                    return widowStep(g, day);
                case 2:
                    return heirStep(g);
                case 3:
                    return day > 20 ? 0 : widowStep(g, day);
                case 4:
                    return g > 50 ? heirStep(g) : g;
                case 5:
                    return widowStep(widowStep(g, day), day);
                default:
                    return mournerStep(g);
            }
        }

        private static int mournerStep(int g) {
            return g > 1 ? g - 1 : 0;
        }

        private static int widowStep(int g, int day) {
            return day % 7 == 0 ? g : mournerStep(g);
        }

        private static int heirStep(int g) {
            return g > 3 ? g - 3 : 0;
        }

        static int feastOf(int what, int g) {
            return what == WEDDING ? g / 2 : Math.min(g + ONION_GRIEF, MOST);
        }
    }

    /** All that an image keeps. */
    private static final class Shop {
        private final Ledger mourners = new Ledger(MOURNERS, 3);
        private final Ledger joints = new Ledger(JOINTS, 1);
        private final Ledger pieces = new Ledger(PIECES, 2);
        private final Ledger feasts = new Ledger(FEASTS, 3);
        private final Ledger facts = new Ledger(FACTS, 3);
        // The griefs of each mourner by days, kept as feasts come and go, so that no question works them out again.
        private final int[][] griefs = new int[MOURNERS][DAYS];
        // Of each joint: the day of boiling, by whom, by whom else; NONE also where there is no joint yet.
        private final int[] boils = new int[BOIL_CELLS];
        private final int[] past = new int[PASTS * PAST_WIDTH];
        private int pasts;
        private int day;

        Shop() {
            Arrays.fill(boils, NONE);
        }

        void makeEmpty() {
            mourners.size = 0;
            joints.size = 0;
            pieces.size = 0;
            feasts.size = 0;
            facts.size = 0;
            Arrays.fill(boils, NONE);
            pasts = 0;
            day = 0;
        }

        void copyFrom(Shop other) {
            mourners.copyFrom(other.mourners);
            joints.copyFrom(other.joints);
            pieces.copyFrom(other.pieces);
            feasts.copyFrom(other.feasts);
            facts.copyFrom(other.facts);
            for (int m = 0; m < mourners.size; m++) {
                System.arraycopy(other.griefs[m], 0, griefs[m], 0, DAYS);
            }
            System.arraycopy(other.boils, 0, boils, 0, BOIL_CELLS);
            System.arraycopy(other.past, 0, past, 0, PASTS * PAST_WIDTH);
            pasts = other.pasts;
            day = other.day;
        }

        int allJoints() {
            return (1 << joints.size) - 1;
        }

        int addMourner(int kind, int grief, int price) {
            int m = mourners.add(kind, grief, price);
            renewGriefs(m);
            return m;
        }

        int addFeast(int what, int feastDay, int m) {
            int feast = feasts.add(what, feastDay, m);
            renewGriefs(m);
            return feast;
        }

        void dropFeast() {
            int m = feasts.at(feasts.size - 1, WHOSE);
            feasts.dropLast();
            renewGriefs(m);
        }

        void renewAllGriefs() {
            for (int m = 0; m < mourners.size; m++) {
                renewGriefs(m);
            }
        }

        private void renewGriefs(int m) {
            if (mourners.has(m)) {
                fillGriefs(griefs[m], m, NONE);
            }
        }

        /** The griefs of one by days, were one of the feasts not. */
        void fillGriefs(int[] row, int m, int without) {
            int kind = mourners.at(m, KIND);
            int g = mourners.at(m, FIRST_GRIEF);
            row[0] = g;
            for (int d = 1; d < DAYS; d++) {
                g = Kinds.stepOf(kind, g, d);
                for (int i = 0; i < feasts.size; i++) {
                    if (i != without && isFeastOf(i, m, d)) {
                        g = Kinds.feastOf(feasts.at(i, WHAT), g);
                    }
                }
                row[d] = g;
            }
        }

        /** What the steps and feasts of a day make of each grief that one may have had on the day ahead. */
        void fillNextGriefs(int[] next, int m, int d) {
            int kind = mourners.at(m, KIND);
            for (int g = 0; g < GRIEFS; g++) {
                next[g] = Kinds.stepOf(kind, g, d);
            }
            for (int i = 0; i < feasts.size; i++) {
                if (isFeastOf(i, m, d)) {
                    for (int g = 0; g < GRIEFS; g++) {
                        next[g] = Kinds.feastOf(feasts.at(i, WHAT), next[g]);
                    }
                }
            }
        }

        private boolean isFeastOf(int feast, int m, int d) {
            return feasts.at(feast, FEAST_DAY) == d && feasts.at(feast, WHOSE) == m;
        }

        /** The griefs of one by days; null where there is nobody. */
        int[] griefsOf(int m) {
            return mourners.has(m) ? griefs[m] : null;
        }

        int griefOn(int m, int d) {
            return mourners.has(m) && isWithin(d, 0, LAST_DAY) ? griefs[m][d] : NONE;
        }

        void boilNow(int joint, int a, int b) {
            if (joints.has(joint)) {
                boils[joint * BOIL_WIDTH] = day;
                boils[joint * BOIL_WIDTH + 1] = a;
                boils[joint * BOIL_WIDTH + 2] = b;
            }
        }

        int boiledOn(int joint) {
            return joints.has(joint) ? boils[joint * BOIL_WIDTH] : NONE;
        }

        int firstBoiler(int joint) {
            return joints.has(joint) ? boils[joint * BOIL_WIDTH + 1] : NONE;
        }

        int secondBoiler(int joint) {
            return joints.has(joint) ? boils[joint * BOIL_WIDTH + 2] : NONE;
        }

        /** NONE, which is less than any day till which a joint might hold, if it was never boiled. */
        int openingOf(int joint) {
            int on = boiledOn(joint);
            if (on == NONE) {
                return NONE;
            }
            int[] one = griefsOf(firstBoiler(joint));
            int[] other = griefsOf(secondBoiler(joint));
            return firstWeakDay(one, other, joints.at(joint, LOAD), on, LAST_DAY);
        }

        /** The first of the days on which the strength of one, or of two, is less than the load; else the day behind. */
        static int firstWeakDay(int[] one, int[] other, int load, int start, int end) {
            if (one == null) {
                return start;
            }
            for (int d = Math.max(start, 0); d <= end && d < DAYS; d++) {
                int strength = other == null ? one[d] : (one[d] + other[d]) / 2;
                if (strength < load) {
                    return d;
                }
            }
            return end + 1;
        }

        int openJoints() {
            int bits = 0;
            for (int j = 0; j < joints.size; j++) {
                if (openingOf(j) <= day) {
                    bits |= 1 << j;
                }
            }
            return bits;
        }

        boolean isLasting(int piece) {
            int till = Math.max(pieces.at(piece, LEASE), day);
            for (int j = 0; j < joints.size; j++) {
                if (isPartOf(j, piece) && openingOf(j) <= till) {
                    return false;
                }
            }
            return true;
        }

        boolean isPartOf(int joint, int piece) {
            return (pieces.at(piece, SET) >> joint & 1) == 1;
        }

        void keepPast() {
            if (pasts >= PASTS) {
                System.arraycopy(past, PAST_WIDTH, past, 0, (PASTS - 1) * PAST_WIDTH);
                pasts = PASTS - 1;
            }
            past[pasts * PAST_WIDTH] = day;
            System.arraycopy(boils, 0, past, pasts * PAST_WIDTH + 1, BOIL_CELLS);
            pasts++;
        }

        void goBack() {
            if (pasts > 0) {
                pasts--;
                day = past[pasts * PAST_WIDTH];
                System.arraycopy(past, pasts * PAST_WIDTH + 1, boils, 0, BOIL_CELLS);
            }
        }

        long mixJointsInto(long before) {
            long h = before;
            for (int j = 0; j < joints.size; j++) {
                h = 31 * h + joints.at(j, LOAD);
                h = 31 * h + boiledOn(j);
                h = 31 * h + firstBoiler(j);
                h = 31 * h + secondBoiler(j);
            }
            return h;
        }
    }

    /** Whom to hire, so that what does not last may be boiled now and last. */
    private static final class Hiring {
        // Till when each joint is to hold; NONE: it needs nobody.
        private final int[] tills = new int[JOINTS];
        // Who can boil each joint so, as bits: two at pairBit of both, one alone at pairBit of himself twice.
        private final long[] fits = new long[JOINTS];
        private final int[] prices = new int[MOURNERS];
        private int mourners;

        void lookAt(Shop shop) {
            mourners = Math.min(shop.mourners.size, MOURNERS);
            for (int m = 0; m < mourners; m++) {
                prices[m] = shop.mourners.at(m, PRICE);
            }
            lookForNeeds(shop);
            for (int j = 0; j < JOINTS; j++) {
                fits[j] = tills[j] == NONE ? 0 : fitsOf(shop, j);
            }
        }

        private void lookForNeeds(Shop shop) {
            Arrays.fill(tills, NONE);
            for (int p = 0; p < shop.pieces.size; p++) {
                if (!shop.isLasting(p)) {
                    int till = Math.max(shop.pieces.at(p, LEASE), shop.day);
                    for (int j = 0; j < JOINTS; j++) {
                        if (shop.isPartOf(j, p)) {
                            tills[j] = Math.max(tills[j], till);
                        }
                    }
                }
            }
        }

        private long fitsOf(Shop shop, int joint) {
            int load = shop.joints.at(joint, LOAD);
            int till = tills[joint];
            long bits = 0;
            for (int a = 0; a < mourners; a++) {
                for (int b = a; b < mourners; b++) {
                    int[] other = a == b ? null : shop.griefsOf(b);
                    if (Shop.firstWeakDay(shop.griefsOf(a), other, load, shop.day, till) > till) {
                        bits |= pairBit(a, b);
                    }
                }
            }
            return bits;
        }

        private static long pairBit(int a, int b) {
            return 1L << (a * MOURNERS + b);
        }

        boolean isNeedy(int joint) {
            return isWithin(joint, 0, JOINTS - 1) && tills[joint] != NONE;
        }

        int priceOf(int set) {
            int sum = 0;
            for (int m = 0; m < mourners; m++) {
                if (isIn(m, set)) {
                    sum += prices[m];
                }
            }
            return sum;
        }

        /** The cheapest set that will do, of like ones the least, without one of them; NONE: no set does. */
        int cheapest(int without) {
            int best = NONE;
            int bestPrice = 0;
            for (int set = 0; set < 1 << mourners; set++) {
                if (without != NONE && isIn(without, set)) {
                    continue;
                }
                int price = priceOf(set);
                if ((best == NONE || price < bestPrice) && isEnough(set)) {
                    best = set;
                    bestPrice = price;
                }
            }
            return best;
        }

        private boolean isEnough(int set) {
            for (int j = 0; j < JOINTS; j++) {
                if (tills[j] != NONE && boilersFor(j, set) == NONE) {
                    return false;
                }
            }
            return true;
        }

        /** The first of a set that can boil a joint: 60 and the one alone, else 10 times the lesser and the other. */
        int boilersFor(int joint, int set) {
            if (!isWithin(joint, 0, JOINTS - 1)) {
                return NONE;
            }
            for (int a = 0; a < mourners; a++) {
                if (isIn(a, set) && (fits[joint] & pairBit(a, a)) != 0) {
                    return 60 + a;
                }
            }
            for (int a = 0; a < mourners; a++) {
                for (int b = a + 1; b < mourners; b++) {
                    if (isIn(a, set) && isIn(b, set) && (fits[joint] & pairBit(a, b)) != 0) {
                        return 10 * a + b;
                    }
                }
            }
            return NONE;
        }

        private static boolean isIn(int m, int set) {
            return (set >> m & 1) == 1;
        }
    }

    /** What more onions, more weddings, fewer feasts or another first grief would do. */
    private static final class Outlook {
        // Far above the onions of 99 days.
        private static final int TOO_MANY = 1000000;
        private static final int ONIONS_A_DAY = 3;

        private final int[] row = new int[DAYS];
        private final int[] next = new int[GRIEFS];
        // By griefs: the fewest onions by which one comes to have it.
        private final int[] onions = new int[GRIEFS];
        private final int[] onionsThen = new int[GRIEFS];
        // By griefs: how many of all tenths of tenths come to have it.
        private final long[] chances = new long[GRIEFS];
        private final long[] chancesThen = new long[GRIEFS];

        // More grief can be worse later (a poet's), so all griefs that can be reached are gone on with.
        int fewestOnions(Shop shop, int m, int load, int till) {
            int now = shop.griefOn(m, shop.day);
            if (!isWithin(now, load, MOST)) {
                return NONE;
            }
            Arrays.fill(onions, TOO_MANY);
            onions[now] = 0;
            for (int d = shop.day + 1; d <= till; d++) {
                shop.fillNextGriefs(next, m, d);
                weepADay(load);
            }
            int fewest = TOO_MANY;
            for (int g = 0; g < GRIEFS; g++) {
                fewest = Math.min(fewest, onions[g]);
            }
            return fewest == TOO_MANY ? NONE : fewest;
        }

        private void weepADay(int load) {
            Arrays.fill(onionsThen, TOO_MANY);
            for (int g = 0; g < GRIEFS; g++) {
                if (onions[g] != TOO_MANY) {
                    for (int more = 0; more <= ONIONS_A_DAY; more++) {
                        int then = Math.min(next[g] + more * ONION_GRIEF, MOST);
                        if (isWithin(then, load, MOST)) {
                            onionsThen[then] = Math.min(onionsThen[then], onions[g] + more);
                        }
                    }
                }
            }
            System.arraycopy(onionsThen, 0, onions, 0, GRIEFS);
        }

        /** How many of 10 to the n chances leave one with the load at least. */
        long chancesToHold(Shop shop, int m, int load, int n, int p) {
            int now = shop.griefOn(m, shop.day);
            Arrays.fill(chances, 0);
            if (isWithin(now, 0, MOST)) {
                chances[now] = 1;
            }
            for (int i = 1; i <= n; i++) {
                shop.fillNextGriefs(next, m, shop.day + i);
                weddingADay(p);
            }
            long held = 0;
            for (int g = Math.max(load, 0); g < GRIEFS; g++) {
                held += chances[g];
            }
            return held;
        }

        private void weddingADay(int p) {
            Arrays.fill(chancesThen, 0);
            for (int g = 0; g < GRIEFS; g++) {
                int then = next[g];
                if (chances[g] != 0 && isWithin(then, 0, MOST)) {
                    chancesThen[then] += chances[g] * (10 - p);
                    chancesThen[then / 2] += chances[g] * p;
                }
            }
            System.arraycopy(chancesThen, 0, chances, 0, GRIEFS);
        }

        /** Of the griefs on day 0 by which all facts are so: how many (0), the least (1), the greatest (2). */
        int firstGriefs(Ledger facts, int kind, int what) {
            int many = 0;
            int least = NONE;
            int greatest = NONE;
            for (int first = 0; first < GRIEFS; first++) {
                if (isByFacts(facts, kind, first)) {
                    many++;
                    greatest = first;
                    if (least == NONE) {
                        least = first;
                    }
                }
            }
            if (what == 0) {
                return many;
            }
            return what == 1 ? least : greatest;
        }

        private boolean isByFacts(Ledger facts, int kind, int first) {
            int g = first;
            row[0] = g;
            for (int d = 1; d < DAYS; d++) {
                g = Kinds.stepOf(kind, g, d);
                row[d] = g;
            }
            for (int i = 0; i < facts.size; i++) {
                int load = facts.at(i, FACT_LOAD);
                int opened = Shop.firstWeakDay(row, null, load, facts.at(i, FACT_BOILED), LAST_DAY);
                if (opened != facts.at(i, FACT_OPENED)) {
                    return false;
                }
            }
            return true;
        }

        int harmOf(Shop shop, int feast) {
            int m = shop.feasts.at(feast, WHOSE);
            shop.fillGriefs(row, m, feast);
            int harmed = 0;
            for (int j = 0; j < shop.joints.size; j++) {
                int on = shop.boiledOn(j);
                if (on != NONE) {
                    int[] one = griefsWithout(shop, m, shop.firstBoiler(j));
                    int[] other = griefsWithout(shop, m, shop.secondBoiler(j));
                    int without = Shop.firstWeakDay(one, other, shop.joints.at(j, LOAD), on, LAST_DAY);
                    int with = shop.openingOf(j);
                    if (without > with) {
                        harmed++;
                    } else if (without < with) {
                        harmed--;
                    }
                }
            }
            return harmed;
        }

        private int[] griefsWithout(Shop shop, int changed, int m) {
            return m == changed ? row : shop.griefsOf(m);
        }
    }

    /** The text, and the shop that it tells. */
    private static final class Reader {
        private static final int END = 0, WORD = 1, NUMBER = 2, STOP = 3, NO_TOKEN = 4;
        private static final char STOP_SIGN = ';', BLANK = ' ';

        private final int[] text = new int[TEXT_BYTES];
        private int length;
        private int place;
        private int fault = NONE;
        // What the text has told so far, without griefs: apart from the workshop, which stays if there is a fault.
        private final Shop shop = new Shop();

        // The token read last.
        private int sort;
        private int start;
        private int value;

        void addByte(int sign) {
            if (length < TEXT_BYTES) {
                text[length] = sign;
                length++;
            }
        }

        /** How many items there are; the fault is NONE, or its place. */
        int readItems() {
            shop.makeEmpty();
            place = 0;
            fault = NONE;
            int items = 0;
            // No item is shorter than a byte.
            for (int i = 0; i <= length && fault == NONE; i++) {
                nextToken();
                if (sort == END) {
                    break;
                }
                items++;
                if (isWord("mourner")) {
                    readMourner();
                } else if (isWord("joint")) {
                    readJoint();
                } else if (isWord("piece")) {
                    readPiece();
                } else if (isWord("wedding")) {
                    readFeast(WEDDING);
                } else if (isWord("onion")) {
                    readFeast(ONION);
                } else if (isWord("day")) {
                    readDay();
                } else if (isWord("boil")) {
                    readBoil();
                } else {
                    blame();
                }
            }
            return items;
        }

        private void readMourner() {
            wantRoom(shop.mourners);
            int kind = readNumber(0, LAST_KIND);
            int grief = readNumber(0, MOST);
            int price = readNumber(0, MOST);
            readStop();
            if (fault == NONE) {
                shop.mourners.add(kind, grief, price);
            }
        }

        private void readJoint() {
            wantRoom(shop.joints);
            int load = readNumber(0, MOST);
            readStop();
            if (fault == NONE) {
                shop.joints.add(load, 0, 0);
            }
        }

        private void readPiece() {
            wantRoom(shop.pieces);
            int set = readNumber(1, shop.allJoints());
            int lease = readNumber(0, LAST_DAY);
            readStop();
            if (fault == NONE) {
                shop.pieces.add(set, lease, 0);
            }
        }

        private void readFeast(int what) {
            wantRoom(shop.feasts);
            int day = readNumber(1, LAST_DAY);
            int m = readNumber(0, shop.mourners.size - 1);
            readStop();
            if (fault == NONE) {
                shop.feasts.add(what, day, m);
            }
        }

        private void readDay() {
            int day = readNumber(shop.day, LAST_DAY);
            readStop();
            if (fault == NONE) {
                shop.day = day;
            }
        }

        private void readBoil() {
            int joint = readNumber(0, shop.joints.size - 1);
            int a = readNumber(0, shop.mourners.size - 1);
            int b = NONE;
            if (fault == NONE) {
                nextToken();
                if (sort == NUMBER) {
                    b = value;
                    wantNumber(0, shop.mourners.size - 1);
                    if (b == a) {
                        blame();
                    }
                    readStop();
                } else {
                    wantStop();
                }
            }
            if (fault == NONE) {
                shop.boilNow(joint, a, b);
            }
        }

        private void wantRoom(Ledger ledger) {
            if (ledger.isFull()) {
                blame();
            }
        }

        private int readNumber(int least, int greatest) {
            if (fault == NONE) {
                nextToken();
                wantNumber(least, greatest);
            }
            return value;
        }

        private void wantNumber(int least, int greatest) {
            if (sort != NUMBER || !isWithin(value, least, greatest)) {
                blame();
            }
        }

        private void readStop() {
            if (fault == NONE) {
                nextToken();
                wantStop();
            }
        }

        private void wantStop() {
            if (sort != STOP) {
                blame();
            }
        }

        // The token at the end starts at the text's length, which is the fault of a text that ends too early.
        private void blame() {
            if (fault == NONE) {
                fault = start;
            }
        }

        private void nextToken() {
            while (place < length && text[place] == BLANK) {
                place++;
            }
            start = place;
            value = 0;
            if (place >= length) {
                sort = END;
            } else if (isLetter(text[place])) {
                readLetters();
            } else if (isFigure(text[place])) {
                readFigures();
            } else {
                sort = text[place] == STOP_SIGN ? STOP : NO_TOKEN;
                place++;
            }
        }

        private void readLetters() {
            sort = WORD;
            while (place < length && isLetter(text[place])) {
                place++;
            }
        }

        private void readFigures() {
            while (place < length && isFigure(text[place])) {
                if (place - start < 2) {
                    value = 10 * value + text[place] - '0';
                }
                place++;
            }
            sort = place - start <= 2 ? NUMBER : NO_TOKEN;
        }

        private static boolean isLetter(int sign) {
            return sign >= 'a' && sign <= 'z';
        }

        private static boolean isFigure(int sign) {
            return sign >= '0' && sign <= '9';
        }

        private boolean isWord(String word) {
            if (sort != WORD || place - start != word.length()) {
                return false;
            }
            for (int i = 0; i < word.length() && start + i < length; i++) {
                if (text[start + i] != word.charAt(i)) {
                    return false;
                }
            }
            return true;
        }
    }
}
