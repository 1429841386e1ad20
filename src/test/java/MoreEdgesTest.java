/**
 * Promises 17 to 31, and the sentences of the terms that they stand on: each sentence that names an edge has a test of
 * its own, with answers worked out by hand. A poet of 50 or less, whose grief stays, makes most of them plain.
 */
public final class MoreEdgesTest {
    private static final Due due = new Due();

    // One falls from 40 to 20 on day 9 by a wedding, the other rises from 20 to 40 by four onions: 30 together, always.
    private static final String FALLS = "mourner 4 40 3;";
    private static final String RISES = "mourner 4 20 4;";

    public static void main(String[] args) {
        nobodyToHire();
        hiredTillTheLease();
        hiredTillNow();
        hiredTogether();
        hiredOnce();
        hiredForTheLeast();
        likeOnesTheLeastBits();
        greatestLease();
        leasesOfPiecesThatLast();
        jointsOfNoPiece();
        whoAlone();
        whoTogether();
        whoOfSeveral();
        whoNobody();
        savesMore();
        savesNone();
        tearsTillADay();
        tearsThreeADay();
        tearsBehindFeasts();
        tearsBehindNow();
        tearsNinetyNineAtMost();
        tearsOfPoets();
        tearsRefused();
        factsAsTold();
        forgottenFacts();
        likelyByNoFacts();
        likelyByFacts();
        likelyNoFeasts();
        oddsOfDays();
        oddsInLowestTerms();
        oddsBehindFeasts();
        oddsOnTheLastDay();
        oddsOfAllGriefs();
        oddsBeyondTheLastDay();
        harmOfFeasts();
        harmOfBoiledOnes();
        harmLessThoseSooner();
        harmRefused();
        partsOfTheFraction();
        imagesKept();
        imagesKeepAllBut();
        imagesOfWhatMayBeUndone();
        statusOfRefusals();
        countsAtTheirEdges();
        digestOfAll();
        callsTillTheLast();
        due.end();
    }

    private static void is(String call, long got, long want) {
        due.is(call, got, want);
    }

    private static void statusIs(String where, GriefGlue x, int bad, int no, int full) {
        is(where + ": status(0)", x.status(0), bad);
        is(where + ": status(1)", x.status(1), no);
        is(where + ": status(2)", x.status(2), full);
    }

    private static void hireIs(String where, GriefGlue x, int prices, int set) {
        is(where + ": hire(0)", x.hire(0), prices);
        is(where + ": hire(1)", x.hire(1), set);
    }

    private static String onDay9(int falls, int rises) {
        return "wedding 9 " + falls + ";" + ("onion 9 " + rises + ";").repeat(4);
    }

    // Promise 17: "NONE. BAD."
    private static void nobodyToHire() {
        GriefGlue x = new GriefGlue();
        hireIs("nobody for nothing", x, 0, 0);
        x.joint(0);
        hireIs("nobody for a joint of no piece", x, 0, 0);
        x.piece(1, 0);
        hireIs("nobody for a piece", x, -1, -1);
        x.mourner(4, 0, 3);
        hireIs("somebody for a load of 0", x, 3, 1);
        x.boil(0, 0, -1);
        hireIs("nobody where all lasts", x, 0, 0);
        x.joint(1);
        x.piece(2, 0);
        hireIs("one who can not", x, -1, -1);
        is("hire(-1)", x.hire(-1), -2);
        is("hire(2)", x.hire(2), -2);
        statusIs("hire: none is no refusal", x, 2, 0, 0);
    }

    // "to HOLD till the greatest LEASE of the PIECES that do not LAST and have it"
    private static void hiredTillTheLease() {
        hireIs("15 on day 5", Due.shop("mourner 0 20 7;joint 15;piece 1 5;"), 7, 1);
        hireIs("14 on day 6", Due.shop("mourner 0 20 7;joint 15;piece 1 6;"), -1, -1);
        hireIs("20 on day 0", Due.shop("mourner 0 20 7;joint 20;piece 1 0;"), 7, 1);
        hireIs("not 21 on day 0", Due.shop("mourner 0 20 7;joint 21;piece 1 0;"), -1, -1);
        hireIs("50 on day 99", Due.shop("mourner 4 50 7;joint 50;piece 1 99;"), 7, 1);
        hireIs("not on day 99", Due.shop("mourner 4 50 7;joint 50;piece 1 99;wedding 99 0;"), -1, -1);
        hireIs("on day 98", Due.shop("mourner 4 50 7;joint 50;piece 1 98;wedding 99 0;"), 7, 1);
    }

    // ".. (and now)"; "(A LEASE that is gone is held by being so now.)"
    private static void hiredTillNow() {
        GriefGlue x = Due.shop("mourner 0 20 7;joint 17;joint 12;piece 1 2;day 2;");
        hireIs("the lease is now", x, 7, 1);
        x.day(3);
        hireIs("gone, and held now", x, 7, 1);
        is("gone, and held now: who(0)", x.who(0), 60);
        x.day(4);
        hireIs("gone, and not held now", x, -1, -1);
        GriefGlue y = Due.shop("mourner 0 20 7;joint 12;piece 1 2;piece 1 9;day 5;");
        hireIs("one lease is gone, the other not", y, -1, -1);
        GriefGlue z = Due.shop("mourner 0 20 7;joint 12;piece 1 2;piece 1 8;day 5;");
        hireIs("12 on day 8", z, 7, 1);
        GriefGlue last = Due.shop("mourner 4 50 7;joint 50;piece 1 99;day 99;");
        hireIs("on the last day", last, 7, 1);
        // Days ahead of now are nothing: 40 and less, then four onions.
        GriefGlue v = Due.shop("mourner 4 20 7;onion 9 0;onion 9 0;onion 9 0;onion 9 0;joint 40;piece 1 99;day 8;");
        hireIs("a day too soon", v, -1, -1);
        v.day(9);
        hireIs("not too soon", v, 7, 1);
    }

    // ".. may be BOILED now by one of these, or two"
    private static void hiredTogether() {
        String two = FALLS + RISES + onDay9(0, 1);
        hireIs("30 by two", Due.shop(two + "joint 30;piece 1 9;"), 7, 3);
        hireIs("30 by two till 99", Due.shop(two + "joint 30;piece 1 99;"), 7, 3);
        hireIs("31 by nobody", Due.shop(two + "joint 31;piece 1 9;"), -1, -1);
        hireIs("30 by one till 8", Due.shop(two + "joint 30;piece 1 8;"), 3, 1);
        hireIs("20 by each alone", Due.shop(two + "joint 20;piece 1 9;"), 3, 1);
        hireIs("half is cut", Due.shop("mourner 4 41 3;" + RISES + onDay9(0, 1) + "joint 30;piece 1 9;"), 7, 3);
        hireIs("half is cut", Due.shop("mourner 4 41 3;" + RISES + onDay9(0, 1) + "joint 31;piece 1 9;"), -1, -1);
    }

    // "the least PRICES together (each once)"
    private static void hiredOnce() {
        hireIs("one for two joints", Due.shop("mourner 4 50 7;joint 9;joint 50;piece 3 9;"), 7, 1);
        hireIs("one for six joints", Due.shop("mourner 4 50 99;" + "joint 50;".repeat(6) + "piece 63 99;"), 99, 1);
        hireIs("two for two joints", Due.shop(FALLS + RISES + onDay9(0, 1) + "joint 30;joint 29;piece 1 9;piece 2 9;"), 7, 3);
        hireIs("two for one joint each", Due.shop("mourner 0 99 99;mourner 4 40 99;joint 90;joint 40;piece 1 5;piece 2 99;"),
                198, 3);
    }

    private static void hiredForTheLeast() {
        hireIs("the cheaper one", Due.shop("mourner 4 50 9;mourner 4 50 8;joint 50;piece 1 9;"), 8, 2);
        hireIs("the cheaper one", Due.shop("mourner 4 50 8;mourner 4 50 9;joint 50;piece 1 9;"), 8, 1);
        hireIs("the last one", Due.shop("mourner 4 50 9;".repeat(5) + "mourner 4 50 8;joint 50;piece 1 9;"), 8, 32);
        hireIs("one who can not is free", Due.shop("mourner 4 49 0;mourner 4 50 8;joint 50;piece 1 9;"), 8, 2);
        String three = FALLS + RISES + "mourner 4 50 8;" + onDay9(0, 1) + "joint 30;piece 1 9;";
        hireIs("two are less than one", Due.shop(three), 7, 3);
        String other = FALLS + RISES + "mourner 4 50 6;" + onDay9(0, 1) + "joint 30;piece 1 9;";
        hireIs("one is less than two", Due.shop(other), 6, 4);
    }

    // "of like ones the least bits"
    private static void likeOnesTheLeastBits() {
        hireIs("like prices", Due.shop("mourner 4 50 9;mourner 4 50 9;joint 50;piece 1 9;"), 9, 1);
        hireIs("like prices of 0", Due.shop("mourner 4 50 0;mourner 4 50 0;joint 50;piece 1 9;"), 0, 1);
        hireIs("no one for nothing", Due.shop("mourner 4 10 0;mourner 4 50 0;joint 50;piece 1 9;"), 0, 2);
        hireIs("no one more for 0", Due.shop("mourner 4 50 5;mourner 4 50 0;mourner 4 50 0;joint 50;piece 1 9;"), 0, 2);
        String three = FALLS + RISES + "mourner 4 50 7;" + onDay9(0, 1) + "joint 30;piece 1 9;";
        hireIs("bits 3 are less than bits 4", Due.shop(three), 7, 3);
        String turned = "mourner 4 50 7;" + FALLS + RISES + onDay9(1, 2) + "joint 30;piece 1 9;";
        hireIs("bits 1 are less than bits 6", Due.shop(turned), 7, 1);
    }

    private static void greatestLease() {
        String two = "mourner 0 30 1;mourner 4 50 9;joint 20;";
        hireIs("20 on day 10", Due.shop(two + "piece 1 10;"), 1, 1);
        hireIs("19 on day 11", Due.shop(two + "piece 1 11;"), 9, 2);
        hireIs("the greater comes last", Due.shop(two + "piece 1 10;piece 1 11;"), 9, 2);
        hireIs("the greater comes first", Due.shop(two + "piece 1 11;piece 1 10;"), 9, 2);
        hireIs("the greater is of another", Due.shop(two + "joint 0;piece 1 10;piece 2 11;"), 1, 1);
        hireIs("the greater has both", Due.shop(two + "joint 0;piece 1 10;piece 3 11;"), 9, 2);
        hireIs("the greatest of four", Due.shop(two + "piece 1 1;piece 1 11;piece 1 2;piece 1 10;"), 9, 2);
    }

    // ".. of the PIECES that do not LAST": one that lasts needs nobody, and its lease is nothing to the others.
    private static void leasesOfPiecesThatLast() {
        GriefGlue x = Due.shop("mourner 4 50 9;mourner 0 30 1;joint 20;joint 20;piece 1 50;piece 3 5;boil 0 0;");
        is("the first lasts", x.lasts(0), 1);
        is("the second does not", x.lasts(1), 0);
        hireIs("till the second's lease", x, 1, 2);
        is("each joint of it is boiled, also one that holds", x.who(0), 61);
        is("and the one that does not", x.who(1), 61);
        x.boil(1, 0, -1);
        hireIs("all last", x, 0, 0);
        is("nobody is needed", x.who(0), -1);
        is("nobody is needed", x.who(1), -1);
    }

    private static void jointsOfNoPiece() {
        GriefGlue x = Due.shop("mourner 4 50 9;joint 20;joint 99;piece 1 5;");
        hireIs("a joint of no piece", x, 9, 1);
        is("it needs nobody", x.who(1), -1);
        is("the other one does", x.who(0), 60);
    }

    // Promise 18, WHO: "60 and the one alone"
    private static void whoAlone() {
        for (int m = 0; m <= 5; m++) {
            String shop = "mourner 4 0 0;".repeat(m) + "mourner 4 50 1;" + "mourner 4 0 0;".repeat(5 - m);
            GriefGlue x = Due.shop(shop + "joint 50;piece 1 99;");
            hireIs("alone " + m, x, 1, 1 << m);
            is("alone " + m + ": who(0)", x.who(0), 60 + m);
        }
        GriefGlue six = Due.shop("mourner 4 50 1;" + "joint 50;".repeat(6) + "piece 63 9;");
        for (int j = 0; j <= 5; j++) {
            is("of six joints: who(" + j + ")", six.who(j), 60);
        }
    }

    // "as 10 times the lesser and the other one"
    private static void whoTogether() {
        for (int a = 0; a <= 5; a++) {
            for (int b = 0; b <= 5; b++) {
                if (a != b) {
                    StringBuilder shop = new StringBuilder();
                    for (int m = 0; m <= 5; m++) {
                        shop.append(m == a ? FALLS : m == b ? RISES : "mourner 4 0 0;");
                    }
                    GriefGlue x = Due.shop(shop + onDay9(a, b) + "joint 30;piece 1 9;");
                    hireIs("together " + a + " " + b, x, 7, 1 << a | 1 << b);
                    is("together: who(0)", x.who(0), 10 * Math.min(a, b) + Math.max(a, b));
                }
            }
        }
    }

    // "the first one, or two (one alone ahead of two; lesser numbers ahead)", "by HIRE's set"
    private static void whoOfSeveral() {
        String early = "mourner 0 99 5;";
        String joints = "joint 90;joint 30;joint 30;joint 30;piece 1 5;piece 2 99;piece 4 20;piece 8 75;";
        // Of 99 less the day: alone under 90 till 5, under 30 till 69, with the one who rises till 79.
        GriefGlue x = Due.shop(FALLS + RISES + early + onDay9(0, 1) + joints);
        hireIs("all three", x, 12, 7);
        is("under 90 alone", x.who(0), 62);
        is("under 30 till 99 together", x.who(1), 1);
        is("one alone ahead of two", x.who(2), 62);
        is("0 and 1 ahead of 1 and 2", x.who(3), 1);
        GriefGlue y = Due.shop(early + FALLS + RISES + onDay9(1, 2) + joints);
        is("under 90 alone", y.who(0), 60);
        is("under 30 till 99 together", y.who(1), 12);
        is("one alone ahead of two", y.who(2), 60);
        is("0 and 2 ahead of 1 and 2", y.who(3), 2);
        GriefGlue z = Due.shop(RISES + early + FALLS + onDay9(2, 0) + joints);
        is("under 90 alone", z.who(0), 61);
        is("under 30 till 99 together", z.who(1), 2);
        is("one alone ahead of two", z.who(2), 61);
        is("0 and 1 ahead of 0 and 2", z.who(3), 1);
        GriefGlue v = Due.shop("mourner 0 99 1;mourner 4 40 1;joint 90;joint 40;joint 30;piece 1 5;piece 2 99;piece 4 5;");
        hireIs("both", v, 2, 3);
        is("the lesser of two who can alone", v.who(2), 60);
        GriefGlue w = Due.shop("mourner 4 50 9;mourner 4 50 1;joint 50;piece 1 9;");
        is("one who is not hired does not boil", w.who(0), 61);
    }

    // Promise 18: "NONE: there is no HIRE, or the JOINT needs nobody. BAD."
    private static void whoNobody() {
        GriefGlue x = Due.shop("mourner 4 50 9;joint 20;joint 99;joint 0;piece 1 5;");
        is("who(0)", x.who(0), 60);
        is("it needs nobody", x.who(2), -1);
        x.piece(2, 0);
        is("no hire for another's sake", x.who(0), -1);
        is("no hire", x.who(1), -1);
        is("no hire, and it needs nobody", x.who(2), -1);
        is("who(3)", x.who(3), -2);
        is("who(-1)", x.who(-1), -2);
        statusIs("who", x, 2, 0, 0);
    }

    // Promise 19, SAVES: "how much more HIRE is without him"
    private static void savesMore() {
        GriefGlue x = Due.shop("mourner 4 50 5;mourner 4 50 8;mourner 4 10 0;joint 50;piece 1 9;");
        is("who is hired", x.saves(0), 3);
        is("who would be", x.saves(1), 0);
        is("who can not", x.saves(2), 0);
        GriefGlue like = Due.shop("mourner 4 50 5;mourner 4 50 5;joint 50;piece 1 9;");
        is("one like him", like.saves(0), 0);
        is("and he", like.saves(1), 0);
        GriefGlue most = Due.shop("mourner 4 50 0;mourner 4 50 99;joint 50;piece 1 9;");
        is("99 more", most.saves(0), 99);
        GriefGlue two = Due.shop(FALLS + RISES + "mourner 4 50 6;" + onDay9(0, 1) + "joint 30;piece 1 9;");
        is("two in his place", two.saves(2), 1);
        is("one of the two", two.saves(0), 0);
        GriefGlue one = Due.shop(FALLS + RISES + "mourner 4 50 9;" + onDay9(0, 1) + "joint 30;piece 1 9;");
        is("one in place of two", one.saves(0), 2);
        is("one in place of two", one.saves(1), 2);
        is("who would be in their place", one.saves(2), 0);
        GriefGlue none = Due.shop("mourner 4 50 6;");
        is("nothing is needed", none.saves(0), 0);
    }

    // "none: it can not be then, or not at all." Promise 19: "NONE. BAD."
    private static void savesNone() {
        GriefGlue x = Due.shop("mourner 4 50 5;mourner 4 10 0;joint 50;piece 1 9;");
        is("not without him", x.saves(0), -1);
        is("without the other", x.saves(1), 0);
        x.joint(51);
        x.piece(2, 0);
        is("not at all", x.saves(0), -1);
        is("not at all", x.saves(1), -1);
        is("saves(2)", x.saves(2), -2);
        is("saves(-1)", x.saves(-1), -2);
        statusIs("saves", x, 2, 0, 0);
    }

    // Promise 20, TEARS: "by which his GRIEF is LOAD at least on each DAY from now to that"
    private static void tearsTillADay() {
        GriefGlue x = Due.shop("mourner 0 20 0;");
        is("20 now", x.tears(0, 20, 0), 0);
        is("not 21 now", x.tears(0, 21, 0), -1);
        is("not 21 now, nor later", x.tears(0, 21, 9), -1);
        is("19 on day 1", x.tears(0, 19, 1), 0);
        is("20 on day 1", x.tears(0, 20, 1), 1);
        is("24 on day 1, 20 on day 5", x.tears(0, 20, 5), 1);
        is("once more on day 6", x.tears(0, 20, 6), 2);
        is("once more on day 11", x.tears(0, 20, 11), 3);
        is("a load of 0", x.tears(0, 0, 99), 0);
        is("a load of 1 till day 19", x.tears(0, 1, 19), 0);
        is("a load of 1 till day 20", x.tears(0, 1, 20), 1);
        is("each day, not the last alone", Due.shop("mourner 4 40 0;wedding 5 0;onion 6 0;onion 6 0;onion 6 0;onion 6 0;")
                .tears(0, 30, 6), 2);
    }

    // "3 at most on each DAY": of those that are more; FEASTS do not count.
    private static void tearsThreeADay() {
        GriefGlue x = Due.shop("mourner 4 40 0;wedding 1 0;");
        is("35 by three", x.tears(0, 35, 1), 3);
        is("36 by none", x.tears(0, 36, 1), -1);
        GriefGlue y = Due.shop("mourner 4 40 0;wedding 1 0;onion 1 0;");
        is("an onion that is, and three more", y.tears(0, 40, 1), 3);
        GriefGlue z = Due.shop("mourner 4 40 0;wedding 2 0;");
        is("35 by three on day 2", z.tears(0, 35, 2), 3);
        is("36: one on day 1 already", z.tears(0, 36, 2), 4);
        is("37: one on day 1 already", z.tears(0, 37, 2), 4);
        is("38: two on day 1 already", z.tears(0, 38, 2), 5);
        is("40: two on day 1 already", z.tears(0, 40, 2), 5);
        GriefGlue v = Due.shop("mourner 3 99 0;");
        is("hired, till day 20", v.tears(0, 15, 20), 0);
        is("hired, 15 on day 21", v.tears(0, 15, 21), 3);
        is("hired, 16 on day 21", v.tears(0, 16, 21), -1);
        is("hired, 15 till day 99", v.tears(0, 15, 99), 237);
        is("hired, 11 till day 99", v.tears(0, 11, 99), 237);
        is("hired, 10 till day 99", v.tears(0, 10, 99), 158);
        is("hired, 6 till day 99", v.tears(0, 6, 99), 158);
        is("hired, 5 till day 99", v.tears(0, 5, 99), 79);
        is("hired, 1 till day 99", v.tears(0, 1, 99), 79);
        is("hired, 0 till day 99", v.tears(0, 0, 99), 0);
    }

    // "(they come behind FEASTS of that DAY)"
    private static void tearsBehindFeasts() {
        GriefGlue x = Due.shop("mourner 4 40 0;wedding 1 0;");
        is("20", x.tears(0, 20, 1), 0);
        is("21", x.tears(0, 21, 1), 1);
        is("25", x.tears(0, 25, 1), 1);
        is("26", x.tears(0, 26, 1), 2);
        is("30", x.tears(0, 30, 1), 2);
        is("31", x.tears(0, 31, 1), 3);
    }

    // "on each DAY behind now"; "till a DAY (no less than now)"
    private static void tearsBehindNow() {
        GriefGlue x = Due.shop("mourner 0 20 0;day 10;");
        is("10 now", x.tears(0, 10, 10), 0);
        is("not 11 now", x.tears(0, 11, 10), -1);
        is("10 on day 11", x.tears(0, 10, 11), 1);
        is("till a day ahead of now", x.tears(0, 10, 9), -2);
        is("till day 0", x.tears(0, 0, 0), -2);
        x.day(99);
        is("on the last day", x.tears(0, 0, 99), 0);
        is("none on the last day", x.tears(0, 1, 99), -1);
        is("till day 98", x.tears(0, 0, 98), -2);
        is("till day 100", x.tears(0, 0, 100), -2);
        statusIs("tears", x, 4, 0, 0);
    }

    // "an ONION: 5 more, 99 at most"
    private static void tearsNinetyNineAtMost() {
        int[] want = {99, 85, 99, 18, 99, 85};
        for (int kind = 0; kind <= 5; kind++) {
            GriefGlue x = new GriefGlue();
            x.mourner(kind, 99, 0);
            is("99 till " + (kind == 3 ? 20 : 99) + " of kind " + kind, x.tears(0, 99, kind == 3 ? 20 : 99), want[kind]);
            is("99 on day 1 of kind " + kind, x.tears(0, 99, 1), 1);
        }
        GriefGlue heir = Due.shop("mourner 2 99 0;");
        is("97: 96 on day 1, and 5 is cut at 99, 96 on day 2", heir.tears(0, 97, 2), 2);
        is("96: 96 on day 1, 98 on day 2", heir.tears(0, 96, 2), 1);
        GriefGlue none = Due.shop("mourner 3 5 0;onion 30 0;day 30;onion 31 0;");
        is("5 by an onion of day 31 that is", none.tears(0, 5, 31), 0);
        is("5 by an onion of day 32 more", none.tears(0, 5, 32), 1);
    }

    // A poet above 50 falls, so that more may be worse.
    private static void tearsOfPoets() {
        GriefGlue x = Due.shop("mourner 4 51 0;mourner 4 50 0;");
        is("48 stays", x.tears(0, 48, 99), 0);
        is("53, then 50 stays", x.tears(0, 49, 99), 1);
        is("53, then 50 stays", x.tears(0, 50, 99), 1);
        is("53 on day 1", x.tears(0, 51, 1), 1);
        is("50 stays", x.tears(1, 50, 99), 0);
        is("not 51", x.tears(1, 51, 99), -1);
    }

    private static void tearsRefused() {
        GriefGlue x = Due.shop("mourner 4 50 0;mourner 4 50 0;");
        is("tears(-1, 0, 0)", x.tears(-1, 0, 0), -2);
        is("tears(2, 0, 0)", x.tears(2, 0, 0), -2);
        is("tears(1, 0, 0)", x.tears(1, 0, 0), 0);
        is("tears(0, -1, 0)", x.tears(0, -1, 0), -2);
        is("tears(0, 100, 0)", x.tears(0, 100, 0), -2);
        is("tears(0, 99, 0)", x.tears(0, 99, 0), -1);
        is("tears(0, 0, -1)", x.tears(0, 0, -1), -2);
        is("tears(0, 0, 100)", x.tears(0, 0, 100), -2);
        is("tears(0, 0, 99)", x.tears(0, 0, 99), 0);
        statusIs("tears, none is no refusal", x, 6, 0, 0);
    }

    // Promise 21: "BAD (opened 0 .. 100, no less than boiled); FULL: 6."
    private static void factsAsTold() {
        int[][] good = {{0, 0, 0}, {99, 99, 99}, {99, 99, 100}, {0, 0, 100}, {50, 5, 5}, {50, 5, 6}};
        int[][] bad = {
            {-1, 0, 0}, {100, 0, 0}, {0, -1, 0}, {0, -1, -1}, {0, 100, 100}, {0, 100, 101}, {0, 0, -1}, {0, 0, 101},
            {0, 99, 98}, {0, 99, 101}, {50, 5, 4}, {0, 1, 0}, {0, Integer.MIN_VALUE, 0}, {0, 0, Integer.MAX_VALUE}};
        GriefGlue x = new GriefGlue();
        for (int[] f : bad) {
            is("fact(" + f[0] + ", " + f[1] + ", " + f[2] + ")", x.fact(f[0], f[1], f[2]), -2);
        }
        is("no fact yet", x.count(4), 0);
        for (int i = 0; i < good.length; i++) {
            is("fact " + i, x.fact(good[i][0], good[i][1], good[i][2]), i);
        }
        for (int[] f : bad) {
            is("full: fact(" + f[0] + ", " + f[1] + ", " + f[2] + ")", x.fact(f[0], f[1], f[2]), -2);
        }
        for (int[] f : good) {
            is("full: fact(" + f[0] + ", " + f[1] + ", " + f[2] + ")", x.fact(f[0], f[1], f[2]), -4);
        }
        statusIs("facts", x, 2 * bad.length, 0, good.length);
        GriefGlue y = new GriefGlue();
        y.day(50);
        is("the day that is is nothing to facts", y.fact(1, 2, 3), 0);
    }

    // Promise 22: "No FACTS: how many there were."
    private static void forgottenFacts() {
        GriefGlue x = new GriefGlue();
        for (int many = 0; many <= 6; many++) {
            for (int i = 0; i < many; i++) {
                x.fact(99, 0, 0);
            }
            is("forget() of " + many, x.forget(), many);
            is("no facts", x.count(4), 0);
            is("none counts", x.likely(0, 0), 100);
        }
    }

    private static void likelyIs(String where, GriefGlue x, int kind, int many, int least, int greatest) {
        is(where + ": likely(" + kind + ", 0)", x.likely(kind, 0), many);
        is(where + ": likely(" + kind + ", 1)", x.likely(kind, 1), least);
        is(where + ": likely(" + kind + ", 2)", x.likely(kind, 2), greatest);
    }

    // Promise 23, LIKELY: "GRIEFS on DAY 0 (0 .. 99) by which all FACTS are so"
    private static void likelyByNoFacts() {
        GriefGlue x = new GriefGlue();
        for (int kind = 0; kind <= 5; kind++) {
            likelyIs("no facts", x, kind, 100, 0, 99);
            for (int what = -1; what <= 3; what += 4) {
                is("likely(" + kind + ", " + what + ")", x.likely(kind, what), -2);
            }
        }
        is("likely(-1, 0)", x.likely(-1, 0), -2);
        is("likely(6, 0)", x.likely(6, 0), -2);
        statusIs("likely", x, 14, 0, 0);
    }

    private static GriefGlue byFact(int load, int boiled, int opened) {
        GriefGlue x = new GriefGlue();
        x.fact(load, boiled, opened);
        return x;
    }

    private static void likelyByFacts() {
        likelyIs("open at once under 1", byFact(1, 0, 0), 0, 1, 0, 0);
        likelyIs("open at once under 99", byFact(99, 0, 0), 0, 99, 0, 98);
        likelyIs("open on day 1 under 99", byFact(99, 0, 1), 0, 1, 99, 99);
        likelyIs("open on day 2 under 99", byFact(99, 0, 2), 0, 0, -1, -1);
        likelyIs("never open under 0", byFact(0, 0, 100), 0, 100, 0, 99);
        likelyIs("open under 0", byFact(0, 0, 0), 0, 0, -1, -1);
        likelyIs("open on day 99 under 0", byFact(0, 99, 99), 0, 0, -1, -1);
        likelyIs("never open, boiled on day 99", byFact(1, 99, 100), 0, 0, -1, -1);
        likelyIs("open, boiled on day 99", byFact(1, 99, 99), 0, 100, 0, 99);
        likelyIs("a widow, never open, boiled on day 99", byFact(1, 99, 100), 1, 14, 86, 99);
        likelyIs("a widow, open, boiled on day 99", byFact(1, 99, 99), 1, 86, 0, 85);
        likelyIs("open on day 99", byFact(1, 0, 99), 0, 1, 99, 99);
        likelyIs("a poet, never open, boiled on day 99", byFact(1, 99, 100), 4, 99, 1, 99);
        // 49, 50, and those above that come to 49 or 50: all but each third.
        likelyIs("a poet, never open under 49", byFact(49, 0, 100), 4, 34, 49, 98);
        likelyIs("one hired, open on day 21", byFact(1, 20, 21), 3, 81, 19, 99);
        likelyIs("one hired, open on day 22", byFact(1, 20, 22), 3, 0, -1, -1);
        likelyIs("an heir, open on day 2", byFact(3, 2, 2), 2, 9, 0, 8);
        likelyIs("twice, open on day 1", byFact(10, 0, 1), 5, 2, 10, 11);
        GriefGlue x = byFact(10, 0, 5);
        likelyIs("10 to fall below on day 5", x, 0, 1, 14, 14);
        x.fact(9, 0, 6);
        likelyIs("both are so", x, 0, 1, 14, 14);
        x.fact(9, 0, 5);
        likelyIs("all are not so", x, 0, 0, -1, -1);
    }

    // "LIKELY of a KIND (no FEASTS)": the workshop's mourners, feasts and day are nothing to it.
    private static void likelyNoFeasts() {
        GriefGlue x = Due.shop("mourner 0 50 0;wedding 1 0;onion 2 0;day 60;");
        x.fact(10, 0, 5);
        likelyIs("no feasts", x, 0, 1, 14, 14);
        likelyIs("no feasts", x, 4, 0, -1, -1);
    }

    private static void oddsAre(GriefGlue x, int m, int load, int n, int p, long above, long below) {
        String call = "odds(" + m + ", " + load + ", " + n + ", " + p + ")";
        is(call, x.odds(m, load, n, p), 1);
        is(call + ": part(0)", x.part(0), above);
        is(call + ": part(1)", x.part(1), below);
    }

    // Promise 24, ODDS: "on each of n (0 .. 15) DAYS behind now .. there is a WEDDING more by p of 10 (0 .. 10)"
    private static void oddsOfDays() {
        GriefGlue x = Due.shop("mourner 4 50 0;");
        oddsAre(x, 0, 50, 0, 0, 1, 1);
        oddsAre(x, 0, 50, 0, 10, 1, 1);
        oddsAre(x, 0, 51, 0, 0, 0, 1);
        oddsAre(x, 0, 50, 1, 0, 1, 1);
        oddsAre(x, 0, 50, 1, 10, 0, 1);
        oddsAre(x, 0, 25, 1, 10, 1, 1);
        oddsAre(x, 0, 26, 1, 10, 0, 1);
        oddsAre(x, 0, 50, 1, 1, 9, 10);
        oddsAre(x, 0, 50, 15, 0, 1, 1);
        oddsAre(x, 0, 51, 15, 0, 0, 1);
        oddsAre(x, 0, 1, 5, 10, 1, 1);
        oddsAre(x, 0, 1, 6, 10, 0, 1);
        oddsAre(x, 0, 0, 15, 10, 1, 1);
        oddsAre(x, 0, 99, 15, 5, 0, 1);
        int[][] bad = {
            {-1, 0, 0, 0}, {1, 0, 0, 0}, {0, -1, 0, 0}, {0, 100, 0, 0}, {0, 0, -1, 0}, {0, 0, 16, 0}, {0, 0, 0, -1},
            {0, 0, 0, 11}, {0, 0, Integer.MAX_VALUE, 0}, {0, 0, Integer.MIN_VALUE, 0}};
        oddsAre(x, 0, 50, 1, 3, 7, 10);
        for (int[] b : bad) {
            is("odds(" + b[0] + ", " + b[1] + ", " + b[2] + ", " + b[3] + ")", x.odds(b[0], b[1], b[2], b[3]), -2);
            is("THE FRACTION stays: part(0)", x.part(0), 7);
            is("THE FRACTION stays: part(1)", x.part(1), 10);
        }
        statusIs("odds", x, bad.length, 0, 0);
    }

    // "THE FRACTION .. lowest terms, below above 0"
    private static void oddsInLowestTerms() {
        GriefGlue x = Due.shop("mourner 4 50 0;");
        oddsAre(x, 0, 50, 1, 5, 1, 2);
        oddsAre(x, 0, 50, 1, 2, 4, 5);
        oddsAre(x, 0, 50, 2, 6, 4, 25);
        oddsAre(x, 0, 25, 2, 5, 3, 4);
        oddsAre(x, 0, 25, 3, 1, 243, 250);
        oddsAre(x, 0, 50, 15, 1, 205891132094649L, 1000000000000000L);
        oddsAre(x, 0, 50, 15, 2, 1073741824L, 30517578125L);
        oddsAre(x, 0, 50, 15, 3, 4747561509943L, 1000000000000000L);
        oddsAre(x, 0, 50, 15, 5, 1, 32768);
        oddsAre(x, 0, 50, 15, 6, 32768, 30517578125L);
        oddsAre(x, 0, 50, 15, 8, 1, 30517578125L);
        oddsAre(x, 0, 50, 15, 9, 1, 1000000000000000L);
        oddsAre(x, 0, 50, 15, 10, 0, 1);
    }

    // ".. behind FEASTS": half of 45, not half of 40 and 5.
    private static void oddsBehindFeasts() {
        GriefGlue x = Due.shop("mourner 4 40 0;onion 1 0;");
        oddsAre(x, 0, 22, 1, 3, 1, 1);
        oddsAre(x, 0, 23, 1, 3, 7, 10);
        oddsAre(x, 0, 45, 1, 3, 7, 10);
        oddsAre(x, 0, 46, 1, 3, 0, 1);
        GriefGlue y = Due.shop("mourner 0 41 0;wedding 1 0;");
        oddsAre(y, 0, 20, 1, 3, 7, 10);
        oddsAre(y, 0, 10, 1, 3, 1, 1);
        oddsAre(y, 0, 11, 1, 3, 7, 10);
    }

    // "the chance that his GRIEF is a LOAD at least on the last of these": the days ahead of it are nothing.
    private static void oddsOnTheLastDay() {
        GriefGlue x = Due.shop("mourner 4 10 0;onion 2 0;");
        oddsAre(x, 0, 10, 2, 5, 1, 2);
        oddsAre(x, 0, 15, 2, 5, 1, 4);
        GriefGlue y = Due.shop("mourner 4 40 0;wedding 4 0;onion 6 0;day 5;");
        oddsAre(y, 0, 20, 0, 5, 1, 1);
        oddsAre(y, 0, 21, 0, 5, 0, 1);
        oddsAre(y, 0, 25, 1, 3, 7, 10);
        oddsAre(y, 0, 12, 1, 3, 1, 1);
    }

    // GRIEFS are 0 .. 99, and what comes to a like grief by several ways is one chance.
    private static void oddsOfAllGriefs() {
        GriefGlue x = Due.shop("mourner 0 99 0;mourner 0 0 0;mourner 2 4 0;onion 1 0;onion 1 1;onion 3 1;wedding 3 2;");
        oddsAre(x, 0, 99, 0, 5, 1, 1);
        oddsAre(x, 0, 99, 1, 3, 7, 10);
        oddsAre(x, 0, 98, 2, 3, 49, 100);
        oddsAre(x, 0, 49, 1, 3, 1, 1);
        oddsAre(x, 1, 0, 0, 5, 1, 1);
        oddsAre(x, 1, 1, 0, 5, 0, 1);
        oddsAre(x, 1, 5, 1, 3, 7, 10);
        oddsAre(x, 1, 2, 1, 3, 1, 1);
        oddsAre(x, 1, 3, 1, 3, 7, 10);
        oddsAre(x, 1, 5, 3, 3, 7, 10);
        oddsAre(x, 2, 1, 1, 3, 7, 10);
        oddsAre(x, 2, 1, 2, 3, 0, 1);
        for (int kind = 0; kind <= 5; kind++) {
            for (int grief = 0; grief <= 99; grief += 9) {
                GriefGlue y = new GriefGlue();
                y.mourner(kind, grief, 0);
                oddsAre(y, 0, 0, 15, 5, 1, 1);
                oddsAre(y, 0, 99, 15, 3, 0, 1);
            }
        }
    }

    // Promise 24: "BAD: DAYS beyond 99, too."
    private static void oddsBeyondTheLastDay() {
        GriefGlue x = Due.shop("mourner 4 50 0;day 84;");
        oddsAre(x, 0, 50, 15, 5, 1, 32768);
        x.day(85);
        is("15 days behind day 85", x.odds(0, 0, 15, 5), -2);
        is("THE FRACTION stays", x.part(1), 32768);
        oddsAre(x, 0, 50, 14, 5, 1, 16384);
        x.day(98);
        oddsAre(x, 0, 50, 1, 5, 1, 2);
        is("two days behind day 98", x.odds(0, 0, 2, 5), -2);
        x.day(99);
        oddsAre(x, 0, 50, 0, 5, 1, 1);
        is("a day behind day 99", x.odds(0, 0, 1, 5), -2);
        statusIs("odds", x, 3, 0, 0);
    }

    // Promise 25, HARM: "how many JOINTS (BOILED ones) would OPEN later (or not), were it not"
    private static void harmOfFeasts() {
        String six = "joint 45;".repeat(6) + "boil 0 0;boil 1 0;boil 2 0;boil 3 0;boil 4 0;boil 5 0;";
        GriefGlue x = Due.shop("mourner 4 50 0;" + six + "wedding 9 0;");
        is("six would not open", x.harm(0), 6);
        x.feast(0, 8, 0);
        is("six open on day 8 anyway", x.harm(0), 0);
        is("six would open on day 9", x.harm(1), 6);
        x.skip();
        x.feast(0, 99, 0);
        is("six are open on day 99 anyway", x.harm(1), 0);
        GriefGlue two = Due.shop("mourner 4 40 0;joint 15;joint 25;boil 0 0;boil 1 0;wedding 5 0;wedding 5 0;");
        is("one of two weddings on a day", two.harm(0), 1);
        is("the other", two.harm(1), 1);
        GriefGlue other = Due.shop("mourner 4 50 0;mourner 4 50 0;joint 45;joint 45;boil 0 0;boil 1 0 1;wedding 9 1;");
        is("of the second of two who boiled", other.harm(0), 1);
        GriefGlue first = Due.shop("mourner 4 50 0;joint 45;wedding 1 0;day 5;boil 0 0;");
        is("a wedding ahead of the boiling", first.harm(0), 1);
    }

    private static void harmOfBoiledOnes() {
        GriefGlue x = Due.shop("mourner 4 50 0;mourner 4 50 0;joint 45;joint 45;joint 45;wedding 9 0;boil 1 1;");
        is("never boiled, or by another", x.harm(0), 0);
        x.boil(0, 0, -1);
        is("boiled", x.harm(0), 1);
        x.undo();
        is("undone", x.harm(0), 0);
        x.boil(2, 0, 1);
        is("boiled by two", x.harm(0), 1);
        x.day(50);
        is("also one that is open long since", x.harm(0), 1);
        x.boil(2, 1, -1);
        is("by another now", x.harm(0), 0);
    }

    // ".. less those that would sooner."
    private static void harmLessThoseSooner() {
        String six = "joint 30;".repeat(6) + "boil 0 0;boil 1 0;boil 2 0;boil 3 0;boil 4 0;boil 5 0;";
        GriefGlue x = Due.shop("mourner 0 40 0;" + six + "onion 5 0;");
        is("opens on day 16", x.opens(0), 16);
        is("six would open on day 11", x.harm(0), -6);
        // A poet of 50 falls by an onion: 55, 52, 49. One joint would not open, another would open two days sooner.
        GriefGlue y = Due.shop("mourner 4 50 0;joint 50;joint 51;onion 1 0;boil 0 0;day 1;");
        is("opens(0)", y.opens(0), 3);
        is("an onion harms", y.harm(0), 1);
        is("opens(1)", y.boil(1, 0, -1), 3);
        is("one later, less one sooner", y.harm(0), 0);
        GriefGlue z = Due.shop("mourner 4 40 0;joint 41;boil 0 0;onion 1 0;");
        is("open at once anyway", z.harm(0), 0);
        GriefGlue v = Due.shop("mourner 4 40 0;joint 45;onion 1 0;day 1;boil 0 0;");
        is("never open by an onion", v.opens(0), 100);
        is("it would open at once", v.harm(0), -1);
    }

    // Promise 25: "BAD: -10." "(where others are told they count as these)"
    private static void harmRefused() {
        GriefGlue x = Due.shop("mourner 4 50 0;");
        is("no feasts: harm(0)", x.harm(0), -10);
        for (int i = 0; i < 10; i++) {
            x.feast(0, 1, 0);
            is("harm(" + i + ")", x.harm(i), 0);
            is("harm(" + (i + 1) + ")", x.harm(i + 1), -10);
        }
        is("harm(-1)", x.harm(-1), -10);
        is("harm(-10)", x.harm(-10), -10);
        statusIs("harm", x, 13, 0, 0);
    }

    // Promise 26: "above (0), below (1). BAD."
    private static void partsOfTheFraction() {
        GriefGlue x = Due.shop("mourner 4 50 0;");
        is("at first: part(0)", x.part(0), 0);
        is("at first: part(1)", x.part(1), 1);
        is("part(-1)", x.part(-1), -2);
        is("part(2)", x.part(2), -2);
        oddsAre(x, 0, 50, 15, 1, 205891132094649L, 1000000000000000L);
        is("part(2)", x.part(2), -2);
        statusIs("part", x, 3, 0, 0);
    }

    // Promises 27, 28: "An IMAGE is kept: 1. BAD." "It goes on from an IMAGE: 1. BAD; NO: none was kept."
    private static void imagesKept() {
        GriefGlue x = new GriefGlue();
        is("image(-1)", x.image(-1), -2);
        is("image(2)", x.image(2), -2);
        is("from(-1)", x.from(-1), -2);
        is("from(2)", x.from(2), -2);
        is("from(0) of none", x.from(0), -3);
        is("from(1) of none", x.from(1), -3);
        is("image(1) of nobody", x.image(1), 1);
        is("from(0) of none still", x.from(0), -3);
        x.joint(5);
        is("image(0) of a joint", x.image(0), 1);
        x.joint(6);
        is("from(1)", x.from(1), 1);
        is("nobody", x.count(1), 0);
        is("from(0)", x.from(0), 1);
        is("a joint", x.count(1), 1);
        x.joint(7);
        is("image(0) anew", x.image(0), 1);
        is("from(1) again", x.from(1), 1);
        is("nobody again", x.count(1), 0);
        is("from(0)", x.from(0), 1);
        is("two joints", x.count(1), 2);
        is("from(0) again", x.from(0), 1);
        is("two joints still", x.count(1), 2);
        statusIs("images", x, 4, 3, 0);
    }

    // "IMAGES 0, 1 keep all but them, THE TEXT, THE FRACTION and STATUS"
    private static void imagesKeepAllBut() {
        GriefGlue x = Due.shop("mourner 4 50 3;joint 45;piece 1 9;wedding 9 0;day 2;boil 0 0;");
        x.fact(1, 2, 3);
        x.clear();
        long before = x.digest();
        x.image(0);
        x.mourner(4, 50, 1);
        x.joint(9);
        x.piece(2, 9);
        x.feast(0, 2, 0);
        x.fact(9, 9, 9);
        x.day(20);
        x.boil(0, 1, 0);
        x.image(1);
        x.from(0);
        is("as it was", x.digest(), before);
        is("griefs", x.grief(0, 2), 50);
        is("griefs", x.grief(0, 9), 25);
        is("opens(0)", x.opens(0), 9);
        is("lasts(0)", x.lasts(0), 0);
        x.type(0x6a6f696e7420373bL, 8);
        x.odds(0, 50, 1, 3);
        x.joint(100);
        x.from(1);
        is("the other one", x.count(1), 2);
        is("THE TEXT is kept by none", x.count(7), 8);
        is("THE FRACTION is kept by none", x.part(0), 7);
        is("STATUS is kept by none", x.status(0), 1);
        is("IMAGES are kept by none: from(0)", x.from(0), 1);
        is("THE TEXT is read", x.read(), 1);
        is("IMAGES stay behind read: from(1)", x.from(1), 1);
        is("griefs of it", x.grief(0, 2), 25);
        x.skip();
        x.from(1);
        is("an image stays as it was kept", x.count(3), 2);
    }

    // "what may be undone they keep; it goes on from one"
    private static void imagesOfWhatMayBeUndone() {
        GriefGlue x = Due.shop("mourner 4 50 3;joint 45;");
        x.day(3);
        x.boil(0, 0, -1);
        x.image(0);
        x.undo();
        x.undo();
        is("none more", x.undo(), -3);
        x.day(70);
        x.day(71);
        x.day(72);
        is("from(0)", x.from(0), 1);
        is("two may be undone", x.count(6), 2);
        is("opens(0)", x.opens(0), 100);
        is("undo()", x.undo(), 1);
        is("opens(0)", x.opens(0), -1);
        is("the day", x.count(5), 3);
        is("undo()", x.undo(), 1);
        is("the day", x.count(5), 0);
        is("none more", x.undo(), -3);
        is("from(0)", x.from(0), 1);
        is("two may be undone again", x.count(6), 2);
        for (int d = 10; d < 20; d++) {
            x.day(d);
        }
        x.image(1);
        x.from(0);
        for (int d = 30; d < 40; d++) {
            x.day(d);
        }
        x.from(1);
        for (int d = 18; d >= 10; d--) {
            is("ten of an image: undo()", x.undo(), 1);
            is("the day", x.count(5), d);
        }
        is("the tenth", x.undo(), 1);
        is("the day", x.count(5), 3);
        is("no eleventh", x.undo(), -3);
    }

    // Promise 29: "STATUS: BAD (0), NO (1), FULL (2). -1: another what (counts as BAD)."
    private static void statusOfRefusals() {
        GriefGlue x = new GriefGlue();
        statusIs("none", x, 0, 0, 0);
        is("status(-1)", x.status(-1), -1);
        is("status(3)", x.status(3), -1);
        statusIs("another what", x, 2, 0, 0);
        x.undo();
        x.skip();
        x.from(1);
        statusIs("NO", x, 2, 3, 0);
        for (int i = 0; i < 8; i++) {
            x.joint(0);
        }
        statusIs("FULL", x, 2, 3, 2);
        x.harm(0);
        x.part(7);
        x.count(8);
        x.type(0, 0);
        statusIs("BAD", x, 6, 3, 2);
        x.opens(0);
        x.piece(1, 0);
        x.hire(0);
        x.who(0);
        x.likely(0, 2);
        x.fact(0, 0, 0);
        x.likely(0, 1);
        x.read();
        statusIs("what answers NONE or a fault is not refused", x, 6, 3, 2);
    }

    // Promise 30: "0 MOURNERS, .. 7 bytes of THE TEXT. BAD."
    private static void countsAtTheirEdges() {
        GriefGlue x = Due.shop("mourner 4 50 0;".repeat(6) + "joint 0;".repeat(6) + "piece 63 0;".repeat(4) + "day 99;");
        for (int i = 0; i < 10; i++) {
            x.feast(0, 1, 0);
        }
        for (int i = 0; i < 6; i++) {
            x.fact(0, 0, 0);
        }
        for (int i = 0; i < 12; i++) {
            x.boil(0, 0, 1);
        }
        x.clear();
        Due.add(x, " ".repeat(250));
        int[] most = {6, 6, 4, 10, 6, 99, 10, 250};
        for (int what = 0; what <= 7; what++) {
            is("full: count(" + what + ")", x.count(what), most[what]);
        }
        is("count(-1)", x.count(-1), -2);
        is("count(8)", x.count(8), -2);
        statusIs("count", x, 2, 0, 0);
    }

    private static long mixed(long... values) {
        long h = 797;
        for (long v : values) {
            h = 31 * h + v;
        }
        return h;
    }

    // Promise 31: "(two numbers; NONE: none, three of them if it was never BOILED)", "THE FRACTION"; h wraps around.
    private static void digestOfAll() {
        GriefGlue x = new GriefGlue();
        is("nobody", x.digest(), mixed(0, 0, 0, 0, 0, 0, 0, 0, 0, 1));
        x.joint(9);
        is("never boiled", x.digest(), mixed(0, 1, 0, 0, 0, 0, 0, 0, 9, -1, -1, -1, 0, 1));
        x.mourner(4, 50, 3);
        x.mourner(5, 99, 99);
        x.boil(0, 1, -1);
        is("by one", x.digest(), mixed(2, 1, 0, 0, 0, 0, 1, 0, 4, 50, 3, 5, 99, 99, 9, 0, 1, -1, 0, 1));
        x.day(7);
        x.boil(0, 1, 0);
        is("by two", x.digest(), mixed(2, 1, 0, 0, 0, 7, 3, 0, 4, 50, 3, 5, 99, 99, 9, 7, 1, 0, 0, 1));
        x.piece(1, 8);
        x.feast(1, 6, 0);
        x.fact(2, 3, 100);
        x.type(-1, 3);
        x.odds(0, 50, 1, 3);
        is("grief on day 7", x.grief(0, 7), 52);
        is("of everything", x.digest(), mixed(2, 1, 1, 1, 1, 7, 3, 3, 4, 50, 3, 5, 99, 99, 9, 7, 1, 0, 1, 8, 1, 6, 0,
                2, 3, 100, 0, 1));
        x.odds(0, 49, 1, 3);
        is("of THE FRACTION", x.digest(), mixed(2, 1, 1, 1, 1, 7, 3, 3, 4, 50, 3, 5, 99, 99, 9, 7, 1, 0, 1, 8, 1, 6, 0,
                2, 3, 100, 7, 10));
        long same = x.digest();
        x.image(0);
        x.undo();
        x.from(0);
        x.joint(100);
        is("images and STATUS are not in it", x.digest(), same);
    }

    // "An object is used for at most 512 calls"
    private static void callsTillTheLast() {
        GriefGlue x = new GriefGlue();
        for (int i = 1; i <= 511; i++) {
            x.skip();
        }
        is("the last call", x.status(1), 511);
    }
}
