/**
 * Promises 1 to 16, and the sentences of the terms that they stand on: each sentence that names an edge has a test of
 * its own, with answers worked out by hand. A poet of 50 or less, whose grief stays, makes most of them plain.
 */
public final class EdgesTest {
    private static final Due due = new Due();

    public static void main(String[] args) {
        newObject();
        asTheyCome();
        piecesOfJointsThatAre();
        feastsOfMournersThatAre();
        stepsOfKinds();
        stepsOnSevenths();
        hiredBeyondTwenty();
        halvesAndOnions();
        feastsAsTheyCome();
        feastsOnTheirDay();
        skippedFeasts();
        boiledByOneOrTwoUnlike();
        strengthOfOneOrTwo();
        firstDayOfOpening();
        openingFromTheBoilingOn();
        neverBoiledIsOpen();
        openNow();
        lastsTillTheLease();
        lastsTillNow();
        lastsByAllItsJoints();
        daysThatAre();
        undoneTenAtMost();
        undoneWhat();
        typedBytes();
        typedTillFull();
        clearedText();
        due.end();
    }

    private static void is(String call, long got, long want) {
        due.is(call, got, want);
    }

    private static void statusIs(String where, GriefGlue x, int bad, int no, int full) {
        is(where + ": status(0)", x.status(0), bad);
        is(where + ": status(1)", x.status(1), no);
        is(where + ": status(2)", x.status(2), full);
    }

    // Promise 1: "As told; nobody." "DAY .. 0 at first" "THE FRACTION is 0 by 1 at first"
    private static void newObject() {
        GriefGlue x = new GriefGlue();
        for (int what = 0; what <= 7; what++) {
            is("new: count(" + what + ")", x.count(what), 0);
        }
        is("new: part(0)", x.part(0), 0);
        is("new: part(1)", x.part(1), 1);
        statusIs("new", x, 0, 0, 0);
        is("new: open()", x.open(), 0);
        is("new: hire(0)", x.hire(0), 0);
        is("new: hire(1)", x.hire(1), 0);
        is("new: clear()", x.clear(), 0);
        is("new: forget()", x.forget(), 0);
        is("new: read()", x.read(), 0);
        is("new: day(0)", x.day(0), 0);
        is("new: undo() of that", x.undo(), 1);
        statusIs("new, asked", x, 0, 0, 0);
        is("new: undo()", x.undo(), -3);
        is("new: skip()", x.skip(), -3);
        is("new: from(0)", x.from(0), -3);
        is("new: from(1)", x.from(1), -3);
        is("new: grief(0, 0)", x.grief(0, 0), -2);
        is("new: opens(0)", x.opens(0), -2);
        is("new: lasts(0)", x.lasts(0), -2);
        is("new: harm(0)", x.harm(0), -10);
        statusIs("new, refused", x, 4, 4, 0);
        GriefGlue other = new GriefGlue();
        statusIs("another new one is apart", other, 0, 0, 0);
    }

    // Promises 2 to 5, 21: "the number .. FULL": MOURNERS 0 .. 5, JOINTS 0 .. 5, PIECES 0 .. 3, FEASTS 0 .. 9, FACTS 0 .. 5.
    private static void asTheyCome() {
        GriefGlue x = new GriefGlue();
        for (int i = 0; i < 12; i++) {
            is("mourner " + i, x.mourner(i % 6, i, i), i < 6 ? i : -4);
            is("mourners", x.count(0), Math.min(i + 1, 6));
        }
        for (int i = 0; i < 12; i++) {
            is("joint " + i, x.joint(i), i < 6 ? i : -4);
            is("joints", x.count(1), Math.min(i + 1, 6));
        }
        for (int i = 0; i < 8; i++) {
            is("piece " + i, x.piece(63 - i, i), i < 4 ? i : -4);
            is("pieces", x.count(2), Math.min(i + 1, 4));
        }
        for (int i = 0; i < 20; i++) {
            is("feast " + i, x.feast(i % 2, i + 1, i % 6), i < 10 ? i : -4);
            is("feasts", x.count(3), Math.min(i + 1, 10));
        }
        for (int i = 0; i < 12; i++) {
            is("fact " + i, x.fact(i, i, i), i < 6 ? i : -4);
            is("facts", x.count(4), Math.min(i + 1, 6));
        }
        statusIs("full", x, 0, 0, 6 + 6 + 4 + 10 + 6);
        is("skip() makes room", x.skip(), 9);
        is("feast 9 again", x.feast(1, 99, 5), 9);
        is("no room again", x.feast(1, 99, 5), -4);
        is("forget() makes room", x.forget(), 6);
        is("fact 0 again", x.fact(99, 99, 100), 0);
        is("image(0) of a full one", x.image(0), 1);
        is("from(0) of a full one", x.from(0), 1);
        is("full still", x.mourner(0, 0, 0), -4);
        is("full still", x.joint(0), -4);
        is("full still", x.piece(1, 0), -4);
        is("full still", x.feast(0, 1, 0), -4);
    }

    // Promise 4: "a set of JOINTS (bits, not none), a LEASE (0 .. 99)"
    private static void piecesOfJointsThatAre() {
        for (int joints = 0; joints <= 6; joints++) {
            GriefGlue x = new GriefGlue();
            for (int j = 0; j < joints; j++) {
                x.joint(j);
            }
            int all = (1 << joints) - 1;
            is(joints + " joints: piece(0, 0)", x.piece(0, 0), -2);
            is(joints + " joints: piece(all and one more)", x.piece(all + 1, 0), -2);
            is(joints + " joints: piece(that one, too)", x.piece(2 * all + 1, 0), -2);
            is(joints + " joints: piece(-1, 0)", x.piece(-1, 0), -2);
            is(joints + " joints: piece(the sign alone)", x.piece(Integer.MIN_VALUE, 0), -2);
            is(joints + " joints: piece(the sign and all)", x.piece(Integer.MIN_VALUE | all, 0), -2);
            is(joints + " joints: no piece yet", x.count(2), 0);
            if (joints > 0) {
                is(joints + " joints: piece(all, 99)", x.piece(all, 99), 0);
                is(joints + " joints: piece(the last, 0)", x.piece(1 << joints - 1, 0), 1);
                is(joints + " joints: piece(the first, 0)", x.piece(1, 0), 2);
                is(joints + " joints: piece(1, 100)", x.piece(1, 100), -2);
                is(joints + " joints: piece(1, -1)", x.piece(1, -1), -2);
            }
        }
    }

    // Promise 5: "a WEDDING (0) or an ONION (1) on a DAY (1 .. 99), of a MOURNER"
    private static void feastsOfMournersThatAre() {
        GriefGlue x = new GriefGlue();
        for (int mourners = 0; mourners <= 6; mourners++) {
            is(mourners + " mourners: one too many", x.feast(1, 1, mourners), -2);
            is(mourners + " mourners: NONE", x.feast(1, 1, -1), -2);
            if (mourners > 0) {
                is(mourners + " mourners: the last", x.feast(1, 1, mourners - 1), mourners - 1);
                is(mourners + " mourners: its grief", x.grief(mourners - 1, 1), 15);
            }
            x.mourner(4, 10, 0);
        }
        is("feast(0, 0, 0): no feast on day 0", x.feast(0, 0, 0), -2);
        is("feast(0, 100, 0)", x.feast(0, 100, 0), -2);
        is("feast(-1, 1, 0)", x.feast(-1, 1, 0), -2);
        is("feast(2, 1, 0)", x.feast(2, 1, 0), -2);
        is("feasts", x.count(3), 6);
    }

    // "0 MOURNER: g less 1. .. 2 HEIR: g less 3. .. 4 POET: as an HEIR, if g is above 50; else g stays. 5 TWICE: a
    // WIDOW's step, and once more of what came of it. Each step cut at 0."
    private static void stepsOfKinds() {
        int[] from = {0, 1, 2, 3, 4, 5, 49, 50, 51, 52, 53, 54, 98, 99};
        int[][] first = {
            {0, 0, 1, 2, 3, 4, 48, 49, 50, 51, 52, 53, 97, 98},
            {0, 0, 1, 2, 3, 4, 48, 49, 50, 51, 52, 53, 97, 98},
            {0, 0, 0, 0, 1, 2, 46, 47, 48, 49, 50, 51, 95, 96},
            {0, 0, 1, 2, 3, 4, 48, 49, 50, 51, 52, 53, 97, 98},
            {0, 1, 2, 3, 4, 5, 49, 50, 48, 49, 50, 51, 95, 96},
            {0, 0, 0, 1, 2, 3, 47, 48, 49, 50, 51, 52, 96, 97}};
        int[][] last = {
            {0, 0, 0, 0, 0, 0, 0, 0, 0, 0, 0, 0, 0, 0},
            {0, 0, 0, 0, 0, 0, 0, 0, 0, 0, 0, 0, 13, 14},
            {0, 0, 0, 0, 0, 0, 0, 0, 0, 0, 0, 0, 0, 0},
            {0, 0, 0, 0, 0, 0, 0, 0, 0, 0, 0, 0, 0, 0},
            {0, 1, 2, 3, 4, 5, 49, 50, 48, 49, 50, 48, 50, 48},
            {0, 0, 0, 0, 0, 0, 0, 0, 0, 0, 0, 0, 0, 0}};
        for (int kind = 0; kind <= 5; kind++) {
            for (int i = 0; i < from.length; i++) {
                GriefGlue x = new GriefGlue();
                x.mourner(kind, from[i], 0);
                String one = "kind " + kind + " of " + from[i];
                is(one + " on day 0", x.grief(0, 0), from[i]);
                is(one + " on day 1", x.grief(0, 1), first[kind][i]);
                is(one + " on day 99", x.grief(0, 99), last[kind][i]);
            }
        }
    }

    // "1 WIDOW: as that; but g stays on DAYS that 7 divides. .. 3 HIRED: as a WIDOW .. 5 TWICE: a WIDOW's step"
    private static void stepsOnSevenths() {
        GriefGlue x = Due.shop("mourner 0 99 0;mourner 1 99 0;mourner 2 99 0;mourner 3 99 0;mourner 4 99 0;mourner 5 99 0;");
        int[] days = {6, 7, 8, 13, 14, 15, 20};
        int[][] want = {
            {93, 92, 91, 86, 85, 84, 79}, {93, 93, 92, 87, 87, 86, 81}, {81, 78, 75, 60, 57, 54, 39},
            {93, 93, 92, 87, 87, 86, 81}, {81, 78, 75, 60, 57, 54, 48}, {87, 87, 85, 75, 75, 73, 63}};
        for (int m = 0; m <= 5; m++) {
            for (int i = 0; i < days.length; i++) {
                is("sevenths: grief(" + m + ", " + days[i] + ")", x.grief(m, days[i]), want[m][i]);
            }
        }
        int before = 99;
        for (int day = 1; day <= 99; day++) {
            int now = x.grief(1, day);
            is("a widow on day " + day, now, day % 7 == 0 ? before : before - 1);
            before = now;
        }
        x.feast(0, 7, 1);
        is("a wedding on a seventh", x.grief(1, 7), 46);
    }

    // "3 HIRED: .. 0 on DAYS above 20": also on day 21, that 7 divides; FEASTS come behind.
    private static void hiredBeyondTwenty() {
        GriefGlue x = Due.shop("mourner 3 99 0;");
        is("hired on day 20", x.grief(0, 20), 81);
        is("hired on day 21", x.grief(0, 21), 0);
        is("hired on day 22", x.grief(0, 22), 0);
        is("hired on day 99", x.grief(0, 99), 0);
        x.feast(1, 20, 0);
        x.feast(1, 21, 0);
        x.feast(1, 21, 0);
        x.feast(1, 99, 0);
        is("an onion on day 20", x.grief(0, 20), 86);
        is("two onions on day 21", x.grief(0, 21), 10);
        is("gone on day 22", x.grief(0, 22), 0);
        is("an onion on day 99", x.grief(0, 99), 5);
    }

    // "a WEDDING: half, cut; an ONION: 5 more, 99 at most."
    private static void halvesAndOnions() {
        int[] from = {0, 1, 2, 3, 49, 50};
        int[] half = {0, 0, 1, 1, 24, 25};
        for (int i = 0; i < from.length; i++) {
            GriefGlue x = new GriefGlue();
            x.mourner(4, from[i], 0);
            x.feast(0, 1, 0);
            x.feast(1, 2, 0);
            is("half of " + from[i], x.grief(0, 1), half[i]);
            is("half of " + from[i] + ", and 5", x.grief(0, 2), half[i] + 5);
        }
        int[] first = {93, 94, 95, 96, 99};
        int[] more = {97, 98, 99, 99, 99};
        for (int i = 0; i < first.length; i++) {
            GriefGlue x = new GriefGlue();
            x.mourner(0, first[i], 0);
            x.feast(1, 1, 0);
            is("an onion of " + first[i], x.grief(0, 1), more[i]);
            x.feast(1, 1, 0);
            is("two onions of " + first[i], x.grief(0, 1), 99);
        }
        GriefGlue y = Due.shop("mourner 0 99 0;wedding 1 0;");
        is("half of 98", y.grief(0, 1), 49);
    }

    // "Then FEASTS of that DAY and that one, as they come"
    private static void feastsAsTheyCome() {
        GriefGlue x = Due.shop("mourner 4 40 0;mourner 4 40 0;mourner 0 99 0;wedding 3 0;onion 3 1;wedding 9 0;onion 3 0;"
                + "wedding 3 1;onion 3 2;wedding 3 2;");
        is("a wedding, then an onion", x.grief(0, 3), 25);
        is("an onion, then a wedding", x.grief(1, 3), 22);
        is("an onion cut at 99, then a wedding", x.grief(2, 3), 49);
        x.feast(0, 3, 0);
        is("a wedding, an onion, a wedding", x.grief(0, 3), 12);
        is("first the step, then feasts", Due.shop("mourner 0 41 0;wedding 1 0;").grief(0, 1), 20);
        GriefGlue y = Due.shop("mourner 4 1 0;" + "onion 5 0;".repeat(10));
        is("ten onions", y.grief(0, 5), 51);
        is("and the day behind", y.grief(0, 6), 48);
        GriefGlue z = Due.shop("mourner 4 50 0;" + "wedding 5 0;".repeat(10));
        is("ten weddings", z.grief(0, 5), 0);
    }

    // "FEASTS .. on a DAY (1 .. 99), of a MOURNER": that day and that one alone, also ahead of now.
    private static void feastsOnTheirDay() {
        GriefGlue x = Due.shop("mourner 4 40 0;mourner 4 40 0;joint 30;boil 0 0;");
        is("a feast on day 99", x.feast(0, 99, 0), 0);
        is("grief(0, 98)", x.grief(0, 98), 40);
        is("grief(0, 99)", x.grief(0, 99), 20);
        is("opens(0)", x.opens(0), 99);
        x.day(50);
        is("a feast on day 1, told on day 50", x.feast(0, 1, 0), 1);
        is("grief(0, 0)", x.grief(0, 0), 40);
        is("grief(0, 1)", x.grief(0, 1), 20);
        is("grief(0, 99)", x.grief(0, 99), 10);
        is("opens(0)", x.opens(0), 1);
        is("open()", x.open(), 1);
        is("the other's grief", x.grief(1, 99), 40);
    }

    // Promise 6: "The last FEAST goes: how many are left. NO: there is none."
    private static void skippedFeasts() {
        GriefGlue x = Due.shop("mourner 4 40 0;mourner 4 32 0;joint 30;boil 0 0;wedding 1 1;wedding 2 0;");
        is("opens(0)", x.opens(0), 2);
        is("skip()", x.skip(), 1);
        is("the last is gone: opens(0)", x.opens(0), 100);
        is("the first is not", x.grief(1, 1), 16);
        is("skip()", x.skip(), 0);
        is("the first is gone", x.grief(1, 1), 32);
        is("skip() of none", x.skip(), -3);
        is("skip() of none again", x.skip(), -3);
        statusIs("skip", x, 0, 2, 0);
        for (int i = 0; i < 10; i++) {
            x.feast(0, 1, 1);
        }
        for (int left = 9; left >= 0; left--) {
            is("skip() of ten", x.skip(), left);
            is("left", x.count(3), left);
        }
        is("all are gone", x.grief(1, 99), 32);
    }

    // Promise 7: "by one (b = NONE), or two .. BAD: alike, too."
    private static void boiledByOneOrTwoUnlike() {
        GriefGlue x = Due.shop("mourner 4 40 0;mourner 4 40 0;joint 30;joint 30;");
        for (int m = 0; m <= 1; m++) {
            is("alike " + m, x.boil(0, m, m), -2);
        }
        is("by NONE", x.boil(0, -1, -1), -2);
        is("by NONE and one", x.boil(0, -1, 0), -2);
        is("by one and -2", x.boil(0, 0, -2), -2);
        is("by one and one who is not", x.boil(0, 0, 2), -2);
        is("by one who is not", x.boil(0, 2, -1), -2);
        is("by one who is not and one", x.boil(0, 2, 0), -2);
        is("a joint that is not", x.boil(2, 0, -1), -2);
        is("a joint that is none", x.boil(-1, 0, -1), -2);
        is("nothing may be undone", x.count(6), 0);
        is("nothing is boiled", x.open(), 3);
        is("by one", x.boil(0, 1, -1), 100);
        is("by two", x.boil(1, 1, 0), 100);
        is("alike, of what is boiled", x.boil(1, 1, 1), -2);
        is("two may be undone", x.count(6), 2);
        statusIs("boil", x, 11, 0, 0);
    }

    // "its STRENGTH on a DAY is the GRIEF of the one then, of two half of both together, cut"
    private static void strengthOfOneOrTwo() {
        GriefGlue x = Due.shop("mourner 4 50 0;mourner 4 49 0;mourner 4 1 0;mourner 4 0 0;joint 49;joint 50;joint 1;joint 0;");
        is("one of 50 under 50", x.boil(1, 0, -1), 100);
        is("one of 49 under 50", x.boil(1, 1, -1), 0);
        is("half of 99 under 49", x.boil(0, 0, 1), 100);
        is("half of 99 under 50", x.boil(1, 0, 1), 0);
        is("half of 1 under 1", x.boil(2, 2, 3), 0);
        is("half of 1 under 0", x.boil(3, 2, 3), 100);
        is("one of 0 under 0", x.boil(3, 3, -1), 100);
        is("one of 0 under 1", x.boil(2, 3, -1), 0);
        is("half of 51 under 1", x.boil(2, 0, 2), 100);
        // Both griefs count on each day: 40 and 20, then 20 and 40 by feasts.
        GriefGlue y = Due.shop("mourner 4 40 0;mourner 4 20 0;wedding 9 0;onion 9 1;onion 9 1;onion 9 1;onion 9 1;joint 30;joint 31;");
        is("two under 30", y.boil(0, 0, 1), 100);
        is("two under 31", y.boil(1, 1, 0), 0);
        is("the first alone under 30", y.boil(0, 0, -1), 9);
        is("the second alone under 30", y.boil(0, 1, -1), 0);
        GriefGlue z = Due.shop("mourner 1 99 0;mourner 1 99 0;joint 99;");
        is("two of 99 under 99", z.boil(0, 0, 1), 1);
    }

    // "It OPENS on the first DAY .. on which its STRENGTH is less than LOAD (none: not by DAY 99)." "100: not by 99"
    private static void firstDayOfOpening() {
        GriefGlue x = Due.shop("mourner 0 20 0;mourner 0 99 0;mourner 1 99 0;joint 20;joint 21;joint 1;joint 14;joint 15;joint 0;");
        is("20 under 20", x.boil(0, 0, -1), 1);
        is("20 under 21", x.boil(1, 0, -1), 0);
        is("99 under 1: 0 on day 99", x.boil(2, 1, -1), 99);
        is("a widow of 99 under 14: 14 on day 99", x.boil(3, 2, -1), 100);
        is("a widow of 99 under 15: 15 on day 98", x.boil(4, 2, -1), 99);
        is("under 0", x.boil(5, 0, -1), 100);
        for (int j = 0; j < 6; j++) {
            is("as told by boil: opens(" + j + ")", x.opens(j), new int[] {1, 0, 99, 100, 99, 100}[j]);
        }
        x.day(99);
        is("a widow under 14, boiled on day 99", x.boil(3, 2, -1), 100);
        is("a widow under 15, boiled on day 99", x.boil(4, 2, -1), 99);
        is("open() on day 99", x.open(), 1 + 2 + 4 + 16);
    }

    // ".. from that of its boiling on": days ahead of it are nothing to it, that day is.
    private static void openingFromTheBoilingOn() {
        GriefGlue x = Due.shop("mourner 0 20 0;joint 20;onion 10 0;onion 10 0;onion 10 0;boil 0 0;");
        is("boiled on day 0", x.opens(0), 1);
        x.day(9);
        is("boiled on day 9", x.boil(0, 0, -1), 9);
        is("open on day 9", x.open(), 1);
        x.day(10);
        is("boiled on day 9, open on day 10, too", x.open(), 1);
        is("boiled on day 10: 25 there", x.boil(0, 0, -1), 16);
        is("open on day 10", x.open(), 0);
        is("boiled on day 10, day(15)", x.day(15), 0);
        is("boiled on day 10, day(16)", x.day(16), 1);
        is("boiled on day 16", x.boil(0, 0, -1), 16);
        is("day 16 stands", x.opens(0), 16);
    }

    // "A JOINT that was never BOILED is open." Promise 14: "NONE: it was never BOILED."
    private static void neverBoiledIsOpen() {
        GriefGlue x = Due.shop("mourner 4 50 0;joint 0;piece 1 0;");
        is("under 0, never boiled: opens(0)", x.opens(0), -1);
        is("under 0, never boiled: open()", x.open(), 1);
        is("under 0, never boiled: lasts(0)", x.lasts(0), 0);
        is("under 0, never boiled: day(0)", x.day(0), 1);
        is("under 0, never boiled: day(99)", x.day(99), 1);
        is("boiled on day 99", x.boil(0, 0, -1), 100);
        is("no more open", x.open(), 0);
        x.undo();
        is("undone, it was never boiled", x.opens(0), -1);
        is("undone, it is open", x.open(), 1);
        is("opens(1)", x.opens(1), -2);
        is("opens(-1)", x.opens(-1), -2);
        statusIs("never boiled", x, 2, 0, 0);
    }

    // Promise 16: "Which JOINTS are open now, as bits." Promise 8: "how many JOINTS are open"
    private static void openNow() {
        GriefGlue x = Due.shop("mourner 0 20 0;joint 20;joint 19;joint 18;joint 17;joint 16;joint 15;boil 0 0;boil 1 0;"
                + "boil 2 0;boil 3 0;boil 4 0;boil 5 0;");
        is("none is open", x.open(), 0);
        for (int day = 1; day <= 6; day++) {
            is("day(" + day + ")", x.day(day), day);
            is("open() on day " + day, x.open(), (1 << day) - 1);
        }
        x.feast(1, 7, 0);
        is("day(7): what is open stays so", x.day(7), 6);
        is("open() on day 7", x.open(), 63);
        is("no joints: day(9)", Due.shop("mourner 0 1 1;").day(9), 0);
    }

    // "it LASTS, if all its JOINTS HOLD till its LEASE": "does not OPEN on a DAY up to that one"
    private static void lastsTillTheLease() {
        GriefGlue x = Due.shop("mourner 0 20 0;mourner 4 50 0;joint 15;piece 1 5;piece 1 6;piece 1 0;piece 1 99;boil 0 0;");
        is("opens(0)", x.opens(0), 6);
        is("a lease of 5", x.lasts(0), 1);
        is("a lease of 6", x.lasts(1), 0);
        is("a lease of 0", x.lasts(2), 1);
        is("a lease of 99", x.lasts(3), 0);
        x.boil(0, 1, -1);
        is("never: a lease of 99", x.lasts(3), 1);
        x.feast(0, 99, 1);
        x.feast(0, 99, 1);
        is("on day 99: opens(0)", x.opens(0), 99);
        is("on day 99: a lease of 99", x.lasts(3), 0);
        is("lasts(4)", x.lasts(4), -2);
        is("lasts(-1)", x.lasts(-1), -2);
        GriefGlue y = Due.shop("mourner 0 20 0;joint 20;joint 21;piece 1 0;piece 2 0;piece 1 1;boil 0 0;boil 1 0;");
        is("opens on day 1, a lease of 0", y.lasts(0), 1);
        is("opens on day 0, a lease of 0", y.lasts(1), 0);
        is("opens on day 1, a lease of 1", y.lasts(2), 0);
    }

    // ".. and till now."
    private static void lastsTillNow() {
        GriefGlue x = Due.shop("mourner 0 20 0;joint 15;piece 1 2;boil 0 0;");
        x.day(5);
        is("opens tomorrow", x.lasts(0), 1);
        x.day(6);
        is("opens today", x.lasts(0), 0);
        x.day(7);
        is("opened yesterday", x.lasts(0), 0);
        x.mourner(4, 50, 0);
        x.boil(0, 1, -1);
        is("boiled behind its lease, it holds", x.lasts(0), 1);
        x.day(99);
        is("on the last day", x.lasts(0), 1);
    }

    private static void lastsByAllItsJoints() {
        GriefGlue x = Due.shop("mourner 4 50 0;joint 0;joint 0;joint 0;joint 0;joint 0;joint 51;piece 63 9;piece 31 9;piece 32 0;"
                + "boil 0 0;boil 1 0;boil 2 0;boil 3 0;boil 4 0;");
        is("one of six was never boiled", x.lasts(0), 0);
        is("the other five", x.lasts(1), 1);
        x.boil(5, 0, -1);
        is("one of six opens at once", x.lasts(0), 0);
        is("that one alone", x.lasts(2), 0);
        x.mourner(0, 99, 0);
        is("boiled to hold till 48", x.boil(5, 1, -1), 49);
        is("all six", x.lasts(0), 1);
        is("that one alone", x.lasts(2), 1);
    }

    // Promise 8: "BAD: less than it is, too." "DAY: what it is now (0 .. 99 ..)"
    private static void daysThatAre() {
        GriefGlue x = new GriefGlue();
        is("day(-1)", x.day(-1), -2);
        is("day(100)", x.day(100), -2);
        is("still day 0", x.count(5), 0);
        is("day(0) on day 0", x.day(0), 0);
        is("day(40)", x.day(40), 0);
        is("day(39) on day 40", x.day(39), -2);
        is("day(0) on day 40", x.day(0), -2);
        is("still day 40", x.count(5), 40);
        is("day(40) on day 40", x.day(40), 0);
        is("day(41) on day 40", x.day(41), 0);
        is("day(99)", x.day(99), 0);
        is("day(99) on day 99", x.day(99), 0);
        is("day(98) on day 99", x.day(98), -2);
        is("day(100) on day 99", x.day(100), -2);
        is("still day 99", x.count(5), 99);
        is("what was refused is not to be undone", x.count(6), 6);
        statusIs("day", x, 6, 0, 0);
    }

    // "UNDO: .. (10 at most)". Promise 9: "NO: none may be."
    private static void undoneTenAtMost() {
        for (int told = 0; told <= 13; told++) {
            GriefGlue x = new GriefGlue();
            for (int d = 1; d <= told; d++) {
                x.day(d);
            }
            int may = Math.min(told, 10);
            is(told + " days told: count(6)", x.count(6), may);
            for (int i = 1; i <= may; i++) {
                is(told + " days told: undo " + i, x.undo(), 1);
                is(told + " days told: the day", x.count(5), told - i);
                is(told + " days told: that may be undone", x.count(6), may - i);
            }
            is(told + " days told: one more", x.undo(), -3);
            is(told + " days told: the day stays", x.count(5), told - may);
            statusIs(told + " days told", x, 0, 1, 0);
        }
        GriefGlue y = Due.shop("mourner 4 50 0;mourner 4 40 0;joint 45;");
        for (int i = 0; i < 11; i++) {
            y.boil(0, i % 2, -1);
        }
        for (int i = 9; i >= 0; i--) {
            is("boiled eleven times: undo", y.undo(), 1);
            is("boiled eleven times: opens(0)", y.opens(0), i % 2 == 0 ? 100 : 0);
        }
        is("the first boiling stays", y.undo(), -3);
        is("the first boiling stays", y.opens(0), 100);
    }

    // "UNDO: DAY, what is BOILED as ahead of the last boiling or DAY told": nothing else.
    private static void undoneWhat() {
        GriefGlue x = Due.shop("mourner 4 50 0;joint 45;day 3;boil 0 0;");
        is("what was read is not undone", x.undo(), -3);
        x.day(5);
        x.mourner(4, 20, 6);
        x.joint(7);
        x.piece(3, 50);
        x.feast(0, 9, 0);
        x.fact(1, 2, 3);
        x.type('j', 1);
        x.odds(0, 50, 1, 3);
        is("only the day is told", x.count(6), 1);
        x.boil(0, 1, -1);
        x.boil(1, 0, 1);
        x.day(4);
        x.boil(0, 1, 1);
        is("what is refused is not kept", x.count(6), 3);
        is("the last boiling", x.undo(), 1);
        is("of joint 1", x.opens(1), -1);
        is("not of joint 0", x.opens(0), 5);
        is("the boiling ahead", x.undo(), 1);
        is("of joint 0, which a wedding opens now", x.opens(0), 9);
        is("not the day", x.count(5), 5);
        is("the day", x.undo(), 1);
        is("as it was", x.count(5), 3);
        int[] want = {2, 2, 1, 1, 1, 3, 0, 40};
        for (int what = 0; what <= 7; what++) {
            is("all else stays: count(" + what + ")", x.count(what), want[what]);
        }
        is("the fraction stays", x.part(0), 7);
        is("none more", x.undo(), -3);
        statusIs("undo", x, 2, 2, 0);
        is("it goes on: day(8)", x.day(8), 1);
        is("it goes on: undo()", x.undo(), 1);
        is("it goes on: the day", x.count(5), 3);
        GriefGlue y = new GriefGlue();
        y.day(7);
        y.day(7);
        is("the day that is, told again, is told", y.count(6), 2);
    }

    // Promise 10: "The lowest n (1 .. 8) bytes of v, the highest of them first"
    private static void typedBytes() {
        GriefGlue x = new GriefGlue();
        is("no bytes", x.type(0x6a, 0), -2);
        is("nine bytes", x.type(0x6a, 9), -2);
        is("none came", x.count(7), 0);
        is("eight bytes", x.type(0x6a6f696e7420373bL, 8), 8);
        is("joint 7;", x.read(), 1);
        x.clear();
        is("one byte, the lowest", x.type(0x3b3b3b3b3b3b3b6aL, 1), 1);
        is("two bytes", x.type(0x3b3b3b3b3b3b6f69L, 2), 3);
        is("five bytes", x.type(0x3b3b3b6e7420373bL, 5), 8);
        is("joint 7; again", x.read(), 1);
        x.clear();
        is("the sign's byte is one, too", x.type(0xff6f696e7420373bL, 8), 8);
        is("it begins nothing", x.read(), -10);
        x.clear();
        is("-1 is eight bytes of 255", x.type(-1, 8), 8);
        is("they begin nothing", x.read(), -10);
        x.clear();
        is("joint", x.type(0x6a6f696e74L, 5), 5);
        is("a byte of 0", x.type(0, 1), 6);
        is("it begins nothing", x.read(), -15);
        x.clear();
        is("bytes of 32 alone", x.type(0x2020202020202020L, 8), 8);
        is("they are blanks", x.read(), 0);
        statusIs("type", x, 2, 0, 0);
    }

    // "THE SHOP is a TEXT (250 bytes at most)". Promise 10: "BAD; FULL."
    private static void typedTillFull() {
        for (int n = 1; n <= 8; n++) {
            GriefGlue x = new GriefGlue();
            for (int i = 0; i < 31; i++) {
                x.type(0x2020202020202020L, 8);
            }
            is("248 bytes", x.count(7), 248);
            is("248 and " + n, x.type(0x2020202020202020L, n), n <= 2 ? 248 + n : -4);
            is("all of them or none", x.count(7), n <= 2 ? 248 + n : 248);
            statusIs("248 and " + n, x, 0, 0, n <= 2 ? 0 : 1);
        }
        GriefGlue y = new GriefGlue();
        for (int i = 0; i < 50; i++) {
            is("five more", y.type(0x646179393bL, 5), 5 * i + 5);
        }
        is("one of a full text", y.type(0x20, 1), -4);
        is("none of a full text", y.type(0x20, 0), -2);
        is("nine of a full text", y.type(0x20, 9), -2);
        is("fifty items", y.read(), 50);
        is("the text stays", y.count(7), 250);
        is("clear()", y.clear(), 250);
        is("there is room", y.type(0x20, 1), 1);
        statusIs("a full text", y, 2, 0, 1);
    }

    // Promise 11: "THE TEXT is empty: how many it had."
    private static void clearedText() {
        GriefGlue x = Due.shop("joint 5;");
        is("clear()", x.clear(), 8);
        is("clear() again", x.clear(), 0);
        is("the shop stays", x.count(1), 1);
        is("read() of nothing", x.read(), 0);
        is("the shop is empty", x.count(1), 0);
    }
}
