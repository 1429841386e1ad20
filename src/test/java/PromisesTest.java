/** Each promise by its number: ordinary inputs, the edges that the document names, and wrong inputs. */
public final class PromisesTest {
    private static final Due due = new Due();
    private static final int[] FAR = {Integer.MIN_VALUE, Integer.MAX_VALUE, -1000, 1000};

    public static void main(String[] args) {
        promise1New();
        promise2Mourner();
        promise3Joint();
        promise4Piece();
        promise5Feast();
        promise6Skip();
        promise7Boil();
        promise8Day();
        promise9Undo();
        promise10Type();
        promise11Clear();
        promise12ReadItems();
        promise12ReadFaults();
        promise12ReadPlaces();
        promise13Grief();
        promise14Opens();
        promise15Lasts();
        promise16Open();
        promise17Hire();
        promise18Who();
        promise19Saves();
        promise20Tears();
        promise21Fact();
        promise22Forget();
        promise23Likely();
        promise24Odds();
        promise25Harm();
        promise26Part();
        promise27And28Images();
        promise29Status();
        promise30Count();
        promise31Digest();
        due.end();
    }

    private static void is(String call, long got, long want) {
        due.is(call, got, want);
    }

    private static void statusIs(String where, GriefGlue x, int bad, int no, int full) {
        is(where + ": status(0)", x.status(0), bad);
        is(where + ": status(1)", x.status(1), no);
        is(where + ": status(2)", x.status(2), full);
    }

    private static long mixed(long... values) {
        long h = 797;
        for (long v : values) {
            h = 31 * h + v;
        }
        return h;
    }

    private static void promise1New() {
        GriefGlue x = new GriefGlue();
        for (int what = 0; what <= 7; what++) {
            is("new: count(" + what + ")", x.count(what), 0);
        }
        is("new: part(0)", x.part(0), 0);
        is("new: part(1)", x.part(1), 1);
        is("new: open()", x.open(), 0);
        is("new: hire(0)", x.hire(0), 0);
        is("new: from(0)", x.from(0), -3);
        is("new: from(1)", x.from(1), -3);
        statusIs("new", x, 0, 2, 0);
        is("NONE", GriefGlue.NONE, -1);
        is("BAD", GriefGlue.BAD, -2);
        is("NO", GriefGlue.NO, -3);
        is("FULL", GriefGlue.FULL, -4);
    }

    private static void promise2Mourner() {
        GriefGlue x = new GriefGlue();
        is("mourner(-1, 0, 0)", x.mourner(-1, 0, 0), -2);
        is("mourner(6, 0, 0)", x.mourner(6, 0, 0), -2);
        is("mourner(0, -1, 0)", x.mourner(0, -1, 0), -2);
        is("mourner(0, 100, 0)", x.mourner(0, 100, 0), -2);
        is("mourner(0, 0, -1)", x.mourner(0, 0, -1), -2);
        is("mourner(0, 0, 100)", x.mourner(0, 0, 100), -2);
        for (int far : FAR) {
            is("mourner far", x.mourner(far, far, far), -2);
        }
        for (int m = 0; m < 6; m++) {
            is("mourner " + m, x.mourner(m, 99, m == 0 ? 99 : 0), m);
        }
        is("a seventh mourner", x.mourner(0, 0, 0), -4);
        is("a seventh mourner that is wrong", x.mourner(0, 0, 100), -2);
        is("mourners", x.count(0), 6);
        statusIs("mourner", x, 11, 0, 1);
    }

    private static void promise3Joint() {
        GriefGlue x = new GriefGlue();
        is("joint(-1)", x.joint(-1), -2);
        is("joint(100)", x.joint(100), -2);
        for (int j = 0; j < 6; j++) {
            is("joint " + j, x.joint(j == 5 ? 99 : j), j);
        }
        is("a seventh joint", x.joint(0), -4);
        is("a seventh joint that is wrong", x.joint(100), -2);
        is("joints", x.count(1), 6);
        statusIs("joint", x, 3, 0, 1);
    }

    private static void promise4Piece() {
        GriefGlue x = new GriefGlue();
        is("piece of no joints", x.piece(1, 0), -2);
        x.joint(1);
        x.joint(2);
        is("piece(0, 0)", x.piece(0, 0), -2);
        is("piece(4, 0)", x.piece(4, 0), -2);
        is("piece(5, 0)", x.piece(5, 0), -2);
        is("piece(-1, 0)", x.piece(-1, 0), -2);
        is("piece(1, -1)", x.piece(1, -1), -2);
        is("piece(1, 100)", x.piece(1, 100), -2);
        is("piece(3, 99)", x.piece(3, 99), 0);
        is("piece(1, 0)", x.piece(1, 0), 1);
        is("piece(2, 0)", x.piece(2, 0), 2);
        is("piece(2, 0)", x.piece(2, 0), 3);
        is("a fifth piece", x.piece(2, 0), -4);
        is("a fifth piece that is wrong", x.piece(4, 0), -2);
        is("pieces", x.count(2), 4);
        statusIs("piece", x, 8, 0, 1);
    }

    private static void promise5Feast() {
        GriefGlue x = new GriefGlue();
        is("a feast of nobody", x.feast(0, 1, 0), -2);
        x.mourner(0, 50, 1);
        is("feast(-1, 1, 0)", x.feast(-1, 1, 0), -2);
        is("feast(2, 1, 0)", x.feast(2, 1, 0), -2);
        is("feast(0, 0, 0)", x.feast(0, 0, 0), -2);
        is("feast(0, 100, 0)", x.feast(0, 100, 0), -2);
        is("feast(0, 1, 1)", x.feast(0, 1, 1), -2);
        is("feast(0, 1, -1)", x.feast(0, 1, -1), -2);
        x.day(50);
        for (int i = 0; i < 10; i++) {
            is("feast " + i, x.feast(i % 2, i == 9 ? 99 : 1 + i, 0), i);
        }
        is("an eleventh feast", x.feast(0, 1, 0), -4);
        is("an eleventh feast that is wrong", x.feast(0, 1, 1), -2);
        is("feasts", x.count(3), 10);
        statusIs("feast", x, 8, 0, 1);
    }

    private static void promise6Skip() {
        GriefGlue x = Due.shop("mourner 0 40 0;mourner 0 60 0;wedding 2 0;wedding 2 1;onion 3 0;");
        is("grief(0, 3)", x.grief(0, 3), 23);
        is("skip()", x.skip(), 2);
        is("grief(0, 3) behind skip", x.grief(0, 3), 18);
        is("grief(1, 2)", x.grief(1, 2), 29);
        is("skip()", x.skip(), 1);
        is("grief(1, 2) behind skip", x.grief(1, 2), 58);
        is("skip()", x.skip(), 0);
        is("grief(0, 3) behind skip", x.grief(0, 3), 37);
        is("skip() of none", x.skip(), -3);
        is("feast behind skip", x.feast(1, 1, 0), 0);
        statusIs("skip", x, 0, 1, 0);
    }

    private static void promise7Boil() {
        GriefGlue x = Due.shop("mourner 0 20 0;mourner 0 31 0;mourner 4 50 0;joint 20;joint 22;joint 60;");
        is("boil(3, 0, -1)", x.boil(3, 0, -1), -2);
        is("boil(-1, 0, -1)", x.boil(-1, 0, -1), -2);
        is("boil(0, -1, -1)", x.boil(0, -1, -1), -2);
        is("boil(0, 3, -1)", x.boil(0, 3, -1), -2);
        is("boil(0, 0, 3)", x.boil(0, 0, 3), -2);
        is("boil(0, 0, -2)", x.boil(0, 0, -2), -2);
        is("boil(0, 1, 1)", x.boil(0, 1, 1), -2);
        for (int far : FAR) {
            is("boil far", x.boil(far, far, far), -2);
        }
        is("nothing to undo", x.count(6), 0);
        is("boil(0, 0, -1): load is strength on day 0", x.boil(0, 0, -1), 1);
        is("boil(1, 0, 1): half of 51 is cut", x.boil(1, 0, 1), 4);
        is("boil(1, 1, 0)", x.boil(1, 1, 0), 4);
        is("boil(2, 0, -1): open from the start", x.boil(2, 0, -1), 0);
        is("boil(0, 2, -1): never", x.boil(0, 2, -1), 100);
        is("open()", x.open(), 4);
        x.day(5);
        is("boil(0, 0, -1) on day 5", x.boil(0, 0, -1), 5);
        is("boil(0, 1, -1) on day 5", x.boil(0, 1, -1), 12);
        statusIs("boil", x, 11, 0, 0);
    }

    private static void promise8Day() {
        GriefGlue x = Due.shop("mourner 0 20 0;joint 20;joint 18;joint 1;boil 0 0;boil 1 0;");
        is("day(-1)", x.day(-1), -2);
        is("day(100)", x.day(100), -2);
        is("day(0): a joint that was never boiled is open", x.day(0), 1);
        is("day(1)", x.day(1), 2);
        is("day(0)", x.day(0), -2);
        is("day(1) again", x.day(1), 2);
        is("day(2)", x.day(2), 2);
        is("day(3)", x.day(3), 3);
        is("day(99)", x.day(99), 3);
        is("count(5)", x.count(5), 99);
        is("count(6)", x.count(6), 6);
        statusIs("day", x, 3, 0, 0);
    }

    private static void promise9Undo() {
        GriefGlue x = Due.shop("mourner 0 20 0;mourner 0 90 0;joint 15;day 2;boil 0 0;");
        is("undo() of what was read", x.undo(), -3);
        x.day(4);
        x.boil(0, 1, -1);
        is("joint behind", x.joint(7), 1);
        x.feast(0, 50, 1);
        x.boil(1, 0, 1);
        x.day(9);
        is("count(6)", x.count(6), 4);
        is("undo the day", x.undo(), 1);
        is("count(5)", x.count(5), 4);
        is("opens(1)", x.opens(1), 57);
        is("undo the boiling", x.undo(), 1);
        is("opens(1)", x.opens(1), -1);
        is("undo the first boiling", x.undo(), 1);
        is("opens(0)", x.opens(0), 6);
        is("count(5)", x.count(5), 4);
        is("undo the first day", x.undo(), 1);
        is("count(5)", x.count(5), 2);
        is("joints stay", x.count(1), 2);
        is("feasts stay", x.count(3), 1);
        is("undo() of none", x.undo(), -3);
        for (int d = 10; d < 22; d++) {
            x.day(d);
        }
        is("ten at most", x.count(6), 10);
        for (int i = 0; i < 10; i++) {
            is("undo " + i, x.undo(), 1);
        }
        is("an eleventh undo", x.undo(), -3);
        is("count(5)", x.count(5), 11);
        statusIs("undo", x, 0, 3, 0);
        GriefGlue y = Due.shop("mourner 0 90 0;joint 0;");
        for (int d = 0; d < 14; d++) {
            y.day(d * 3);
        }
        for (int i = 12; i >= 3; i--) {
            y.undo();
            is("undone: the day", y.count(5), i * 3);
        }
    }

    private static void promise10Type() {
        GriefGlue x = new GriefGlue();
        is("type(0, 0)", x.type(0, 0), -2);
        is("type(0, 9)", x.type(0, 9), -2);
        is("type(0, -1)", x.type(0, -1), -2);
        is("type of j", x.type(-256L + 'j', 1), 1);
        is("type of oint 5;", x.type(0x006f696e7420353bL, 7), 8);
        is("read() of joint 5;", x.read(), 1);
        is("joints", x.count(1), 1);
        is("eight bytes, the highest first", x.type(0x6a6f696e7420363bL, 8), 16);
        is("read() of two", x.read(), 2);
        for (int i = 0; i < 29; i++) {
            is("type " + i, x.type(-1, 8), 24 + 8 * i);
        }
        is("three more than 250", x.type(0, 3), -4);
        is("none came", x.count(7), 248);
        is("up to 250", x.type(0, 2), 250);
        is("one more than 250", x.type(0, 1), -4);
        is("nine of a full text", x.type(0, 9), -2);
        statusIs("type", x, 4, 0, 2);
    }

    private static void promise11Clear() {
        GriefGlue x = new GriefGlue();
        is("clear() of none", x.clear(), 0);
        x.type(0x6a6f, 2);
        is("clear()", x.clear(), 2);
        is("count(7)", x.count(7), 0);
        is("read() of an empty text", x.read(), 0);
    }

    private static void read(String text, int want) {
        GriefGlue x = Due.shop("mourner 1 2 3;joint 4;");
        x.fact(1, 2, 3);
        x.boil(0, 0, -1);
        long before = digestWithoutText(x);
        Due.put(x, text);
        is("read() of <" + text + ">", x.read(), want);
        is("<" + text + "> has so many bytes still", x.count(7), text.length());
        if (want < 0) {
            is("all stays, by <" + text + ">", digestWithoutText(x), before);
        }
        statusIs("<" + text + ">", x, 0, 0, 0);
    }

    private static long digestWithoutText(GriefGlue x) {
        x.clear();
        return x.digest();
    }

    private static void fault(String text, int place) {
        GriefGlue x = Due.shop("mourner 1 2 3;joint 4;piece 1 9;onion 5 0;day 4;boil 0 0;");
        x.fact(1, 2, 3);
        x.boil(0, 0, -1);
        Due.put(x, text);
        long before = x.digest();
        is("read() of <" + text + ">", x.read(), -10 - place);
        is("all stays, by <" + text + ">", x.digest(), before);
        statusIs("<" + text + ">", x, 0, 0, 0);
    }

    private static void promise12ReadItems() {
        read("", 0);
        read("   ", 0);
        read("joint 5;", 1);
        read("  joint  05  ;  joint5;", 2);
        read("mourner5 99 0;", 1);
        GriefGlue x = Due.shop("mourner 0 50 7;");
        x.fact(1, 2, 3);
        x.odds(0, 99, 0, 0);
        x.image(0);
        x.day(30);
        Due.put(x, "mourner 2 60 8;mourner 0 44 1;joint 33;day 4;boil 0 1;onion 6 0;wedding 5 1;day 9;day 9;piece 1 50;"
                + "boil 0 0 1;joint 9;");
        is("read()", x.read(), 12);
        is("digest()", x.digest(), mixed(2, 2, 1, 2, 0, 9, 0, x.count(7), 2, 60, 8, 0, 44, 1, 33, 9, 0, 1, 9, -1, -1, -1,
                1, 50, 1, 6, 0, 0, 5, 1, 0, 1));
        is("undo() behind read", x.undo(), -3);
        is("the image stays", x.from(0), 1);
        is("facts of the image", x.count(4), 1);
        Due.put(x, "mourner 0 9 9;mourner 0 9 9;joint 9;boil 0 1 0;");
        is("read() of two that boil", x.read(), 4);
        is("opens(0)", x.opens(0), 1);
        Due.put(x, "joint 9;");
        is("read() of a joint that nobody boils", x.read(), 1);
        is("opens(0)", x.opens(0), -1);
        Due.put(x, "");
        is("read() of an empty text", x.read(), 0);
        is("nobody", x.digest(), mixed(0, 0, 0, 0, 0, 0, 0, 0, 0, 1));
    }

    private static void promise12ReadFaults() {
        fault("mourner", 7);
        fault("mourner 0 0 0", 13);
        fault("mourner 0 0 0 ", 14);
        fault("mourne", 0);
        fault("mourners 0 0 0;", 0);
        fault("mourner 6 0 0;", 8);
        fault("mourner 5 0 100;", 12);
        fault("mourner 5 0 0 0;", 14);
        fault("mourner 5 0;", 11);
        fault("point 5;", 0);
        fault("joins 5;", 0);
        fault("joint;", 5);
        fault("joint 1 2;", 8);
        fault("joint 1;;", 8);
        fault(";", 0);
        fault("5;", 0);
        fault("Joint 5;", 0);
        fault("joint 5!;", 7);
        fault("jointX 5;", 5);
        fault("joint -5;", 6);
        fault("joint 5;\n", 8);
        fault("joint 5\u00e9;", 7);
        fault("joint 5;\u0000", 8);
        fault("joint joint;", 6);
        fault("joint 000;", 6);
        fault("joint 9;piece 0 0;", 14);
        fault("joint 9;piece 2 0;", 14);
        fault("joint 9;piece 1 100;", 16);
        fault("piece 1 1;joint 9;", 6);
        fault("wedding 1 0;", 10);
        fault("mourner 0 0 0;wedding 0 0;", 22);
        fault("mourner 0 0 0;onion 1 1;", 22);
        fault("day 100;", 4);
        fault("day 9;day 8;", 10);
        fault("boil 0 0;", 5);
        fault("joint 0;boil 0 0;", 15);
        fault("joint 0;mourner 0 0 0;boil 0 0 0;", 31);
        fault("joint 0;mourner 0 0 0;boil 0 0 1;", 31);
        fault("joint 0;mourner 0 0 0;boil 0 0 111;", 31);
        fault("joint 0;mourner 0 0 0;boil 0 0 x;", 31);
        fault("joint 0;mourner 0 0 0;boil 1 0;", 27);
        fault("joint 0;mourner 0 0 0;mourner 0 0 0;boil 0 0 1 1;", 47);
        fault("joint 0;mourner 0 0 0;boil 0 0", 30);
    }

    private static void promise12ReadPlaces() {
        StringBuilder mourners = new StringBuilder();
        StringBuilder joints = new StringBuilder();
        for (int i = 0; i < 6; i++) {
            mourners.append("mourner 0 0 0;");
            joints.append("joint 0;");
        }
        read(mourners.toString(), 6);
        fault(mourners + "mourner 6 0 0;", 84);
        fault(mourners + " mourner", 85);
        read(joints.toString(), 6);
        fault(joints + "joint 0;", 48);
        read(joints + "piece 63 0;piece 1 0;piece 1 0;piece 1 0;", 10);
        fault(joints + "piece 64 0;", 54);
        fault("joint 0;piece 1 0;piece 1 0;piece 1 0;piece 1 0;piece 0", 48);
        String ten = "mourner 0 0 0;" + "onion 1 0;wedding 1 0;".repeat(5);
        read(ten, 11);
        fault(ten + "onion 1 0;", ten.length());
        fault(ten + "wedding 0 0;", ten.length());
        read("day 1;".repeat(41), 41);
    }

    private static void promise13Grief() {
        GriefGlue x = Due.shop("mourner 0 9 0;mourner 1 9 0;mourner 2 9 0;mourner 3 40 0;mourner 4 53 0;mourner 5 9 0;");
        int[][] want = {
            {9, 8, 3, 2, 1, 0, 0}, {9, 8, 3, 3, 2, 0, 0}, {9, 6, 0, 0, 0, 0, 0},
            {40, 39, 34, 34, 33, 22, 0}, {53, 50, 50, 50, 50, 50, 50}, {9, 7, 0, 0, 0, 0, 0}};
        int[] days = {0, 1, 6, 7, 8, 20, 21};
        for (int m = 0; m < 6; m++) {
            for (int i = 0; i < days.length; i++) {
                is("grief(" + m + ", " + days[i] + ")", x.grief(m, days[i]), want[m][i]);
            }
        }
        is("grief(6, 0)", x.grief(6, 0), -2);
        is("grief(-1, 0)", x.grief(-1, 0), -2);
        is("grief(0, -1)", x.grief(0, -1), -2);
        is("grief(0, 100)", x.grief(0, 100), -2);
        x.feast(0, 1, 4);
        x.feast(1, 1, 4);
        is("a wedding ahead of an onion", x.grief(4, 1), 30);
        x.feast(1, 30, 3);
        is("an onion of one hired", x.grief(3, 30), 5);
        is("and the day behind", x.grief(3, 31), 0);
        GriefGlue y = Due.shop("mourner 0 98 0;onion 1 0;onion 2 0;wedding 2 0;wedding 2 0;mourner 4 51 0;mourner 5 1 0;");
        is("99 at most", y.grief(0, 1), 99);
        is("halves are cut", y.grief(0, 2), 24);
        is("a poet above 50", y.grief(1, 1), 48);
        is("a poet not above 50", y.grief(1, 99), 48);
        is("twice is cut at 0", y.grief(2, 1), 0);
    }

    private static void promise14Opens() {
        GriefGlue x = Due.shop("mourner 0 99 0;joint 0;joint 10;joint 99;");
        is("opens of what was never boiled", x.opens(1), -1);
        is("opens(3)", x.opens(3), -2);
        is("opens(-1)", x.opens(-1), -2);
        x.boil(0, 0, -1);
        x.boil(1, 0, -1);
        x.boil(2, 0, -1);
        is("opens(0)", x.opens(0), 100);
        is("opens(1)", x.opens(1), 90);
        is("opens(2)", x.opens(2), 1);
        x.feast(0, 40, 0);
        is("opens(1) by a wedding", x.opens(1), 60);
        x.feast(1, 99, 0);
        is("the first day counts", x.opens(1), 60);
        statusIs("opens", x, 2, 0, 0);
    }

    private static void promise15Lasts() {
        GriefGlue x = Due.shop("mourner 0 20 0;joint 15;joint 10;piece 1 5;piece 1 6;piece 3 0;piece 2 3;boil 0 0;");
        is("lasts(0)", x.lasts(0), 1);
        is("lasts(1): opens on the lease's day", x.lasts(1), 0);
        is("lasts(2): a joint was never boiled", x.lasts(2), 0);
        x.boil(1, 0, -1);
        is("lasts(2)", x.lasts(2), 1);
        is("lasts(4)", x.lasts(4), -2);
        is("lasts(-1)", x.lasts(-1), -2);
        x.day(5);
        is("lasts(0) on day 5", x.lasts(0), 1);
        x.day(6);
        is("lasts(0) on day 6: till now, too", x.lasts(0), 0);
        is("lasts(3) on day 6", x.lasts(3), 1);
    }

    private static void promise16Open() {
        GriefGlue x = Due.shop("mourner 0 20 0;joint 15;joint 21;joint 1;boil 0 0;boil 1 0;");
        is("open()", x.open(), 6);
        x.day(5);
        is("open() on day 5", x.open(), 6);
        x.day(6);
        is("open() on day 6", x.open(), 7);
        x.feast(1, 7, 0);
        x.day(7);
        is("what is open stays so", x.open(), 7);
    }

    private static void promise17Hire() {
        GriefGlue x = Due.shop("mourner 0 30 9;mourner 0 20 4;mourner 0 40 4;joint 30;joint 10;piece 1 0;");
        is("hire(0)", x.hire(0), 4);
        is("hire(1)", x.hire(1), 4);
        is("hire(2)", x.hire(2), -2);
        is("hire(-1)", x.hire(-1), -2);
        x.piece(3, 10);
        is("hire(0)", x.hire(0), 4);
        x.piece(2, 31);
        is("none: hire(0)", x.hire(0), -1);
        is("none: hire(1)", x.hire(1), -1);
        // Two together where none alone will do; a price that counts once for two joints.
        GriefGlue y = Due.shop("mourner 2 62 5;mourner 0 44 3;mourner 0 1 0;onion 2 1;onion 2 1;onion 2 1;"
                + "joint 50;joint 52;piece 1 5;piece 2 0;");
        is("two together: hire(0)", y.hire(0), 8);
        is("two together: hire(1)", y.hire(1), 3);
        // Like prices: the least bits.
        GriefGlue z = Due.shop("mourner 0 9 5;mourner 0 9 5;mourner 0 9 0;joint 9;piece 1 0;");
        is("like prices: hire(1)", z.hire(1), 4);
        z.mourner(0, 9, 0);
        is("like prices: hire(1)", z.hire(1), 4);
        z.boil(0, 1, -1);
        is("all last: hire(0)", z.hire(0), 0);
        is("all last: hire(1)", z.hire(1), 0);
        z.day(1);
        is("a lease that is gone: hire(0)", z.hire(0), -1);
        z.feast(1, 1, 3);
        is("a lease that is gone: hire(1)", z.hire(1), 8);
        // A joint that holds is boiled anew, if its piece does not last for another's sake.
        GriefGlue v = Due.shop("mourner 0 50 0;mourner 4 50 7;joint 50;joint 10;piece 3 5;boil 0 1;day 1;boil 1 1;day 2;");
        is("lasts(0)", v.lasts(0), 1);
        v.boil(1, 0, -1);
        is("hire of nothing", v.hire(1), 0);
        v.feast(0, 3, 0);
        v.feast(0, 3, 0);
        v.feast(0, 3, 0);
        is("joint 0 holds, joint 1 does not", v.lasts(0), 0);
        is("both are boiled: hire(0)", v.hire(0), 7);
        is("who(0)", v.who(0), 61);
    }

    private static void promise18Who() {
        GriefGlue x = Due.shop("mourner 2 62 5;mourner 0 44 3;mourner 0 1 0;onion 2 1;onion 2 1;onion 2 1;"
                + "joint 50;joint 40;joint 0;piece 1 5;piece 2 4;");
        is("who(0): two", x.who(0), 1);
        is("who(1): one", x.who(1), 60);
        is("who(2): needs nobody", x.who(2), -1);
        is("who(3)", x.who(3), -2);
        is("who(-1)", x.who(-1), -2);
        x.piece(4, 99);
        is("who(2): the first of the set", x.who(2), 60);
        x.joint(99);
        x.piece(8, 0);
        is("no hire", x.who(0), -1);
        GriefGlue y = Due.shop("mourner 0 0 9;mourner 0 60 0;mourner 0 50 0;mourner 0 40 0;joint 55;joint 60;piece 1 0;");
        is("one alone ahead", y.who(0), 61);
        y.piece(1, 5);
        is("one alone ahead", y.who(0), 61);
        y.piece(2, 1);
        is("no hire of it", y.who(0), -1);
        GriefGlue z = Due.shop("mourner 0 1 0;mourner 2 62 5;mourner 0 1 0;mourner 0 44 3;onion 2 3;onion 2 3;onion 2 3;"
                + "joint 9;joint 9;joint 9;joint 9;joint 9;joint 50;piece 32 5;");
        is("hire(1)", z.hire(1), 10);
        is("who(5): two, neither of them 0", z.who(5), 13);
        z.piece(63, 0);
        is("who(4)", z.who(4), 61);
        is("who(5)", z.who(5), 13);
    }

    private static void promise19Saves() {
        GriefGlue x = Due.shop("mourner 0 40 3;mourner 0 40 8;mourner 0 10 0;joint 30;joint 35;piece 3 1;");
        is("hire(0)", x.hire(0), 3);
        is("saves(0)", x.saves(0), 5);
        is("saves(1)", x.saves(1), 0);
        is("saves(2)", x.saves(2), 0);
        is("saves(3)", x.saves(3), -2);
        is("saves(-1)", x.saves(-1), -2);
        x.feast(0, 1, 1);
        is("not without him", x.saves(0), -1);
        x.feast(0, 1, 0);
        is("not at all", x.saves(2), -1);
        is("not at all", x.saves(0), -1);
    }

    private static void promise20Tears() {
        GriefGlue x = Due.shop("mourner 0 20 0;mourner 4 51 0;mourner 3 90 0;mourner 0 99 0;");
        is("tears(0, 20, 0)", x.tears(0, 20, 0), 0);
        is("tears(0, 21, 0)", x.tears(0, 21, 0), -1);
        is("tears(0, 20, 1)", x.tears(0, 20, 1), 1);
        is("tears(0, 20, 5)", x.tears(0, 20, 5), 1);
        is("tears(0, 20, 6)", x.tears(0, 20, 6), 2);
        is("tears(0, 0, 99)", x.tears(0, 0, 99), 0);
        is("tears(1, 48, 99)", x.tears(1, 48, 99), 0);
        is("tears(1, 50, 99): up to 53, then to 50", x.tears(1, 50, 99), 1);
        is("tears(1, 51, 2)", x.tears(1, 51, 2), 2);
        is("tears(2, 15, 21)", x.tears(2, 15, 21), 3);
        is("tears(2, 16, 21): three a day", x.tears(2, 16, 21), -1);
        is("tears(2, 15, 22)", x.tears(2, 15, 22), 6);
        is("tears(3, 99, 3): 99 at most", x.tears(3, 99, 3), 3);
        is("tears(4, 0, 0)", x.tears(4, 0, 0), -2);
        is("tears(-1, 0, 0)", x.tears(-1, 0, 0), -2);
        is("tears(0, -1, 0)", x.tears(0, -1, 0), -2);
        is("tears(0, 100, 0)", x.tears(0, 100, 0), -2);
        is("tears(0, 0, 100)", x.tears(0, 0, 100), -2);
        x.feast(0, 3, 0);
        is("behind feasts", x.tears(0, 18, 3), 2);
        x.feast(1, 2, 3);
        x.day(10);
        is("from now on", x.tears(0, 1, 10), 0);
        is("a day that was", x.tears(0, 0, 9), -2);
        is("no onions now", x.tears(0, 2, 10), -1);
    }

    private static void promise21Fact() {
        GriefGlue x = new GriefGlue();
        is("fact(-1, 0, 0)", x.fact(-1, 0, 0), -2);
        is("fact(100, 0, 0)", x.fact(100, 0, 0), -2);
        is("fact(0, -1, 0)", x.fact(0, -1, 0), -2);
        is("fact(0, 100, 100)", x.fact(0, 100, 100), -2);
        is("fact(0, 5, 4)", x.fact(0, 5, 4), -2);
        is("fact(0, 5, 101)", x.fact(0, 5, 101), -2);
        is("fact(0, 0, -1)", x.fact(0, 0, -1), -2);
        is("fact(99, 99, 100)", x.fact(99, 99, 100), 0);
        for (int i = 1; i < 6; i++) {
            is("fact " + i, x.fact(i, i, i), i);
        }
        is("a seventh fact", x.fact(0, 0, 0), -4);
        is("a seventh fact that is wrong", x.fact(0, 1, 0), -2);
        statusIs("fact", x, 8, 0, 1);
    }

    private static void promise22Forget() {
        GriefGlue x = new GriefGlue();
        is("forget() of none", x.forget(), 0);
        x.fact(1, 2, 3);
        x.fact(1, 2, 3);
        is("forget()", x.forget(), 2);
        is("count(4)", x.count(4), 0);
        is("fact behind forget", x.fact(0, 0, 100), 0);
    }

    private static void promise23Likely() {
        GriefGlue x = new GriefGlue();
        is("no facts: likely(4, 0)", x.likely(4, 0), 100);
        is("no facts: likely(4, 1)", x.likely(4, 1), 0);
        is("no facts: likely(4, 2)", x.likely(4, 2), 99);
        is("likely(-1, 0)", x.likely(-1, 0), -2);
        is("likely(6, 0)", x.likely(6, 0), -2);
        is("likely(0, -1)", x.likely(0, -1), -2);
        is("likely(0, 3)", x.likely(0, 3), -2);
        x.fact(10, 5, 100);
        is("never by 99: likely(0, 0)", x.likely(0, 0), 0);
        is("never by 99: likely(0, 1)", x.likely(0, 1), -1);
        is("never by 99: likely(0, 2)", x.likely(0, 2), -1);
        is("never by 99: likely(4, 0)", x.likely(4, 0), 90);
        is("never by 99: likely(4, 1)", x.likely(4, 1), 10);
        x.fact(50, 0, 1);
        is("a poet of 51 or 52: likely(4, 0)", x.likely(4, 0), 2);
        is("a poet of 51 or 52: likely(4, 1)", x.likely(4, 1), 51);
        is("a poet of 51 or 52: likely(4, 2)", x.likely(4, 2), 52);
        x.forget();
        x.fact(3, 2, 2);
        is("a heir: likely(2, 2)", x.likely(2, 2), 8);
        is("feasts are not", x.mourner(2, 20, 0), 0);
        x.feast(0, 1, 0);
        is("a heir: likely(2, 0)", x.likely(2, 0), 9);
    }

    private static void odds(GriefGlue x, int m, int load, int n, int p, long above, long below) {
        String call = "odds(" + m + ", " + load + ", " + n + ", " + p + ")";
        is(call, x.odds(m, load, n, p), 1);
        is(call + ": part(0)", x.part(0), above);
        is(call + ": part(1)", x.part(1), below);
    }

    private static void promise24Odds() {
        GriefGlue x = Due.shop("mourner 4 48 0;mourner 0 99 0;mourner 1 98 0;");
        odds(x, 0, 48, 1, 3, 7, 10);
        odds(x, 0, 48, 2, 5, 1, 4);
        odds(x, 0, 24, 2, 5, 3, 4);
        odds(x, 0, 24, 3, 4, 81, 125);
        odds(x, 0, 48, 0, 5, 1, 1);
        odds(x, 0, 49, 0, 5, 0, 1);
        odds(x, 0, 48, 15, 0, 1, 1);
        odds(x, 0, 1, 15, 10, 0, 1);
        odds(x, 0, 48, 15, 1, 205891132094649L, 1000000000000000L);
        odds(x, 1, 84, 15, 9, 1, 1000000000000000L);
        is("odds(3, 0, 0, 0)", x.odds(3, 0, 0, 0), -2);
        is("odds(-1, 0, 0, 0)", x.odds(-1, 0, 0, 0), -2);
        is("odds(0, -1, 0, 0)", x.odds(0, -1, 0, 0), -2);
        is("odds(0, 100, 0, 0)", x.odds(0, 100, 0, 0), -2);
        is("odds(0, 0, -1, 0)", x.odds(0, 0, -1, 0), -2);
        is("odds(0, 0, 16, 0)", x.odds(0, 0, 16, 0), -2);
        is("odds(0, 0, 0, -1)", x.odds(0, 0, 0, -1), -2);
        is("odds(0, 0, 0, 11)", x.odds(0, 0, 0, 11), -2);
        is("the fraction stays", x.part(1), 1000000000000000L);
        x.day(6);
        x.feast(1, 7, 2);
        odds(x, 2, 97, 1, 2, 4, 5);
        odds(x, 2, 98, 1, 2, 0, 1);
        x.mourner(0, 0, 0);
        odds(x, 3, 0, 2, 5, 1, 1);
        odds(x, 3, 1, 2, 5, 0, 1);
        x.feast(1, 8, 3);
        odds(x, 3, 5, 2, 5, 1, 2);
        x.skip();
        x.feast(0, 7, 3);
        x.feast(1, 7, 3);
        odds(x, 3, 5, 1, 5, 1, 2);
        x.day(98);
        odds(x, 0, 0, 1, 5, 1, 1);
        is("a day beyond 99", x.odds(0, 0, 2, 5), -2);
    }

    private static void promise25Harm() {
        GriefGlue x = Due.shop("mourner 0 40 0;mourner 0 50 0;joint 30;joint 5;joint 44;joint 0;joint 1;"
                + "wedding 3 0;onion 4 1;wedding 9 1;wedding 1 1;boil 0 0;boil 1 0 1;boil 2 1;boil 3 0;");
        is("a wedding: harm(0)", x.harm(0), 2);
        is("an onion: harm(1)", x.harm(1), -1);
        is("a wedding behind: harm(2)", x.harm(2), 1);
        is("a wedding ahead: harm(3)", x.harm(3), 2);
        is("harm(4)", x.harm(4), -10);
        is("harm(-1)", x.harm(-1), -10);
        statusIs("harm", x, 2, 0, 0);
    }

    private static void promise26Part() {
        GriefGlue x = new GriefGlue();
        is("part(0)", x.part(0), 0);
        is("part(1)", x.part(1), 1);
        is("part(2)", x.part(2), -2);
        is("part(-1)", x.part(-1), -2);
        x.mourner(0, 1, 1);
        x.odds(0, 1, 0, 0);
        is("part(0)", x.part(0), 1);
        statusIs("part", x, 2, 0, 0);
    }

    private static void promise27And28Images() {
        GriefGlue x = Due.shop("mourner 0 40 0;joint 30;piece 1 5;wedding 3 0;boil 0 0;");
        x.fact(1, 2, 3);
        x.day(1);
        x.boil(0, 0, -1);
        x.clear();
        long before = x.digest();
        is("from(0) of none", x.from(0), -3);
        is("image(0)", x.image(0), 1);
        is("image(2)", x.image(2), -2);
        is("image(-1)", x.image(-1), -2);
        is("from(2)", x.from(2), -2);
        is("from(-1)", x.from(-1), -2);
        is("from(1) of none", x.from(1), -3);
        x.mourner(1, 50, 2);
        x.joint(4);
        x.skip();
        x.forget();
        x.boil(1, 1, 0);
        x.undo();
        x.undo();
        x.day(9);
        is("image(1)", x.image(1), 1);
        is("from(0)", x.from(0), 1);
        is("as it was", x.digest(), before);
        is("griefs as they were", x.grief(0, 3), 18);
        is("undo() goes on", x.undo(), 1);
        is("undo() goes on", x.undo(), 1);
        is("undo() ends", x.undo(), -3);
        is("the day ahead of all", x.count(5), 0);
        is("from(0) again", x.from(0), 1);
        is("as it was", x.digest(), before);
        x.undo();
        x.undo();
        x.day(20);
        x.day(21);
        x.from(0);
        x.undo();
        is("undone from an image: the day", x.count(5), 1);
        x.undo();
        is("undone from an image: the first day", x.count(5), 0);
        is("from(1)", x.from(1), 1);
        is("griefs of it", x.grief(0, 3), 37);
        is("its day", x.count(5), 9);
        x.type('a', 1);
        x.odds(0, 99, 0, 0);
        x.odds(1, 0, 0, 0);
        x.from(0);
        is("the text stays", x.count(7), 1);
        is("the fraction stays", x.part(0), 1);
        x.image(1);
        x.day(50);
        x.from(1);
        is("an image is kept anew", x.count(5), 1);
        statusIs("images", x, 4, 3, 0);
    }

    private static void promise29Status() {
        GriefGlue x = new GriefGlue();
        is("status(0)", x.status(0), 0);
        is("status(3)", x.status(3), -1);
        is("status(-1)", x.status(-1), -1);
        is("another what counts", x.status(0), 2);
        x.undo();
        x.skip();
        x.from(0);
        for (int i = 0; i < 8; i++) {
            x.joint(1);
        }
        x.hire(2);
        x.image(0);
        x.from(0);
        statusIs("status", x, 3, 3, 2);
    }

    private static void promise30Count() {
        GriefGlue x = Due.shop("mourner 0 40 0;mourner 0 40 0;joint 30;joint 30;joint 30;piece 1 5;wedding 3 0;"
                + "onion 3 0;wedding 3 0;onion 3 0;day 8;");
        x.fact(1, 2, 3);
        x.boil(0, 0, -1);
        x.boil(0, 0, -1);
        int[] want = {2, 3, 1, 4, 1, 8, 2, 117};
        for (int what = 0; what <= 7; what++) {
            is("count(" + what + ")", x.count(what), want[what]);
        }
        is("count(-1)", x.count(-1), -2);
        is("count(8)", x.count(8), -2);
        statusIs("count", x, 2, 0, 0);
    }

    private static void promise31Digest() {
        GriefGlue x = new GriefGlue();
        is("digest() of nobody", x.digest(), mixed(0, 0, 0, 0, 0, 0, 0, 0, 0, 1));
        x.mourner(3, 40, 7);
        x.mourner(4, 60, 8);
        x.joint(33);
        x.joint(44);
        x.joint(55);
        x.piece(5, 6);
        x.feast(1, 9, 1);
        x.feast(0, 8, 0);
        x.fact(1, 2, 100);
        x.day(2);
        x.boil(0, 1, 0);
        x.boil(2, 0, -1);
        x.type(65, 1);
        x.odds(1, 54, 1, 2);
        is("digest()", x.digest(), mixed(2, 3, 1, 2, 1, 2, 3, 1, 3, 40, 7, 4, 60, 8, 33, 2, 1, 0, 44, -1, -1, -1,
                55, 2, 0, -1, 5, 6, 1, 9, 1, 0, 8, 0, 1, 2, 100, x.part(0), x.part(1)));
    }
}
