import java.util.ArrayList;
import java.util.List;

/** THE SHOP's text: each TOKEN of each ITEM at its edges, and each FAULT at its place. */
public final class FaultsTest {
    private static final Due due = new Due();

    private static final String SIX_MOURNERS = "mourner 0 0 0;".repeat(6);
    private static final String SIX_JOINTS = "joint 0;".repeat(6);
    private static final String TWO_OF_ALL = "mourner 0 0 0;mourner 0 0 0;joint 0;joint 0;";

    /** What may stand in no place of any ITEM: words that are none, numbers of three figures, bytes that begin none. */
    private static final String[] NEVER = {
        "x", "mourne", "mourners", "oint", "jointt", "pieces", "weddin", "onions", "da", "boils", "boi", "feast", "a", "z",
        "100", "000", "001", "123", "9999", "00000000",
        "!", ",", ":", ":5", "<", "/", "/5", "-1", "+1", ".", "A", "Z", "Joint", "`", "{", "@", "[", "\t", "\n", "\r",
        "\u0000", "\u0001", "\u001f", "\u0021", "\u007f", "\u0080", "\u00a0", "\u00e9", "\u00ff"};

    public static void main(String[] args) {
        everyTokenOfEveryItem();
        numbersAtTheirEdges();
        whatIsNotThereYet();
        oneMoreOfASort();
        theLastByteOfAll();
        tokensAndBlanks();
        emptyTexts();
        fullTexts();
        theFirstOfSeveralFaults();
        boilingsByText();
        daysByText();
        whatIsReadTakesThePlace();
        whatIsNotReadLeavesAll();
        faultsAreNotCounted();
        due.end();
    }

    private static GriefGlue usedWorkshop() {
        GriefGlue x = Due.shop("mourner 1 20 3;mourner 4 50 7;joint 4;piece 1 9;onion 5 0;day 4;boil 0 0;");
        x.fact(1, 2, 3);
        x.image(0);
        x.odds(1, 50, 2, 3);
        x.boil(0, 1, 0);
        x.day(6);
        x.undo();
        x.skip();
        x.skip();
        return x;
    }

    private static int readOf(String text) {
        GriefGlue x = new GriefGlue();
        Due.put(x, text);
        return x.read();
    }

    private static void items(String text, int many) {
        due.is("read() of <" + text + ">", readOf(text), many);
    }

    /** The text is told to a workshop that is used: it answers -10 less the place, and all stays. */
    private static void fault(String text, int place) {
        GriefGlue x = usedWorkshop();
        Due.put(x, text);
        GriefGlue like = usedWorkshop();
        Due.put(like, text);
        due.is("read() of <" + text + ">", x.read(), -10 - place);
        for (int what = 0; what <= 2; what++) {
            due.is("<" + text + ">: status(" + what + ")", x.status(what), like.status(what));
        }
        due.isTrue("all stays, by <" + text + ">", Calls.allTold(x).equals(Calls.allTold(like)));
    }

    // "FAULT: the place of the first byte of the first TOKEN that can not stand there (a word that is none, .. a third
    // figure's number, .. a byte that begins none, too); the TEXT's length, if it ends too early"
    private static void everyTokenOfEveryItem() {
        String[] items = {
            "mourner 5 99 99 ;", "joint 99 ;", "piece 3 99 ;", "wedding 99 1 ;", "onion 99 1 ;", "day 99 ;", "boil 1 1 ;",
            "boil 1 1 0 ;"};
        for (String item : items) {
            for (String ahead : new String[] {TWO_OF_ALL, "  " + TWO_OF_ALL + "   "}) {
                String[] tokens = item.split(" ");
                for (int i = 0; i < tokens.length; i++) {
                    StringBuilder told = new StringBuilder(ahead);
                    for (int k = 0; k < i; k++) {
                        told.append(tokens[k]).append(k == 1 ? "  " : " ");
                    }
                    aWrongToken(told.toString(), i, tokens[0]);
                }
                items(ahead + item, 5);
            }
        }
    }

    private static void aWrongToken(String told, int token, String word) {
        for (String never : NEVER) {
            fault(told + never + " 1;", told.length());
            fault(told + never, told.length());
        }
        if (token == 0) {
            fault(told + "5 1;", told.length());
            fault(told + "; 1;", told.length());
        } else {
            fault(told + "joint 1;", told.length());
            fault(told + word, told.length());
            fault(told, told.length());
            fault(told.trim(), told.trim().length());
            fault(told + "   ", told.length() + 3);
        }
    }

    // "a number not as told": the last number that is, and the first that is not, on both sides.
    private static void numbersAtTheirEdges() {
        number(TWO_OF_ALL + "mourner ", 0, 5, " 1 1;");
        number(TWO_OF_ALL + "mourner 1 ", 0, 99, " 1;");
        number(TWO_OF_ALL + "mourner 1 1 ", 0, 99, ";");
        number(TWO_OF_ALL + "joint ", 0, 99, ";");
        number(TWO_OF_ALL + "piece ", 1, 3, " 1;");
        number(TWO_OF_ALL + "piece 1 ", 0, 99, ";");
        number(TWO_OF_ALL + "wedding ", 1, 99, " 1;");
        number(TWO_OF_ALL + "wedding 1 ", 0, 1, ";");
        number(TWO_OF_ALL + "onion ", 1, 99, " 1;");
        number(TWO_OF_ALL + "onion 1 ", 0, 1, ";");
        number(TWO_OF_ALL + "day ", 0, 99, ";");
        number(TWO_OF_ALL + "boil ", 0, 1, " 1;");
        number(TWO_OF_ALL + "boil ", 0, 1, " 1 0;");
        number(TWO_OF_ALL + "boil 1 ", 0, 1, ";");
        number(TWO_OF_ALL + "mourner 0 0 0;boil 1 ", 0, 2, ";");
        number(TWO_OF_ALL + "mourner 0 0 0;boil 1 0 ", 1, 2, ";");
        number(TWO_OF_ALL + "mourner 0 0 0;boil 1 2 ", 0, 1, ";");
        number(SIX_JOINTS + "piece ", 1, 63, " 1;");
        number(SIX_MOURNERS + "joint 1;boil 0 ", 0, 5, ";");
        number(SIX_MOURNERS + "wedding 1 ", 0, 5, ";");
        number("mourner 0 0 0;" + SIX_JOINTS + "boil ", 0, 5, " 0;");
    }

    private static void number(String ahead, int least, int greatest, String behind) {
        int ended = readOf(ahead + least + behind);
        due.isTrue("<" + ahead + least + behind + "> is read", ended > 0);
        for (int n = 0; n <= 100; n++) {
            boolean asTold = n >= least && n <= greatest;
            String text = ahead + n + behind;
            due.is("read() of <" + text + ">", readOf(text), asTold ? ended : -10 - ahead.length());
            if (n < 10) {
                String longer = ahead + "0" + n + behind;
                due.is("read() of <" + longer + ">", readOf(longer), asTold ? ended : -10 - ahead.length());
            }
        }
    }

    // "also what is not there (yet)"
    private static void whatIsNotThereYet() {
        fault("piece 1 1;joint 9;", 6);
        items("joint 9;piece 1 1;", 2);
        fault("joint 9;piece 2 1;joint 9;", 14);
        items("joint 9;joint 9;piece 2 1;", 3);
        fault("joint 9;piece 3 1;joint 9;", 14);
        fault("wedding 1 0;mourner 0 0 0;", 10);
        items("mourner 0 0 0;wedding 1 0;", 2);
        fault("mourner 0 0 0;onion 1 1;mourner 0 0 0;", 22);
        items("mourner 0 0 0;mourner 0 0 0;onion 1 1;", 3);
        fault("mourner 0 0 0;boil 0 0;joint 0;", 19);
        fault("joint 0;boil 0 0;mourner 0 0 0;", 15);
        fault("joint 0;mourner 0 0 0;boil 0 0 1;mourner 0 0 0;", 31);
        items("joint 0;mourner 0 0 0;mourner 0 0 0;boil 0 0 1;", 4);
    }

    // "one more of a sort than there may be at its word"
    private static void oneMoreOfASort() {
        full(SIX_MOURNERS, "mourner", " 0 0 0;");
        full(SIX_JOINTS, "joint", " 0;");
        full("joint 0;" + "piece 1 0;".repeat(4), "piece", " 1 0;");
        String ten = "mourner 0 0 0;" + "onion 1 0;".repeat(5) + "wedding 1 0;".repeat(5);
        full(ten, "wedding", " 1 0;");
        full(ten, "onion", " 1 0;");
        full("mourner 0 0 0;" + "wedding 9 0;".repeat(10), "onion", " 1 0;");
        full("mourner 0 0 0;" + "onion 9 0;".repeat(10), "wedding", " 1 0;");
        items("joint 0;mourner 0 0 0;" + "boil 0 0;".repeat(25), 27);
    }

    private static void full(String most, String word, String behind) {
        due.isTrue("<" + most + "> is read", readOf(most) > 0);
        fault(most + word + behind, most.length());
        fault(most + "  " + word + behind, most.length() + 2);
        fault(most + word, most.length());
        fault(most + word + " x", most.length());
        fault(most + word + " 100", most.length());
        fault(most + word + ";", most.length());
    }

    private static void theLastByteOfAll() {
        fault("joint 5", 7);
        fault("joint", 5);
        fault("joint 5;!", 8);
        fault("joint 5;j", 8);
        fault("joint 5;5", 8);
        fault("joint 5;;", 8);
        String most = "joint 5;" + " ".repeat(241);
        fault(most + "!", 249);
        fault(most + "x", 249);
        fault(most + "5", 249);
        fault(most + ";", 249);
        fault("joint 5" + " ".repeat(243), 250);
        fault(most.substring(0, 245) + "joint", 250);
    }

    // "TOKENS: words of letters a .. z, figures (1 or 2 are one number), ; ; blanks (32) between."
    private static void tokensAndBlanks() {
        items("joint5;", 1);
        items("joint 5;", 1);
        items("  joint   05   ;   ", 1);
        items("joint5;joint6;", 2);
        items("mourner0 0 0;joint0;boil0 0;", 3);
        fault("mourner 000;", 8);
        fault("mourner 00 0;", 12);
        fault("jo int 5;", 0);
        for (String letter : new String[] {"a", "m", "z"}) {
            fault("joint" + letter + " 5;", 0);
            fault(letter + "joint 5;", 0);
        }
        for (String none : new String[] {"`", "{", "A", "Z", "@", "["}) {
            fault("joint" + none + " 5;", 5);
            fault(none + "joint 5;", 0);
        }
        for (String none : new String[] {"/", ":", "<"}) {
            fault("joint 5" + none + ";", 7);
            fault("joint " + none + "5;", 6);
        }
        for (String word : new String[] {"mourner", "joint", "piece", "wedding", "onion", "day", "boil"}) {
            for (int i = 0; i < word.length(); i++) {
                fault(word.substring(0, i) + "x" + word.substring(i + 1) + " 1 1 1;", 0);
            }
        }
        fault("joint 5 5;", 8);
        fault("mourner 0 0 0;joint0;mourner 0 0 0;boil 00;", 42);
        fault("mourner 0 0 0;joint0;mourner 0 0 0;boil 01;", 40);
        fault("mourner 0 0 0;joint0;mourner 0 0 0;boil 010;", 40);
        fault("mourner0 0 0joint", 12);
        fault("joint\n5;", 5);
        fault("joint\t5;", 5);
        fault("joint\u00005;", 5);
    }

    // "(an empty one: none)"
    private static void emptyTexts() {
        items("", 0);
        items(" ", 0);
        items(" ".repeat(250), 0);
        GriefGlue x = usedWorkshop();
        Due.put(x, "");
        due.is("read() of an empty text", x.read(), 0);
        for (int what = 0; what <= 7; what++) {
            due.is("behind an empty text: count(" + what + ")", x.count(what), 0);
        }
        due.is("an empty text: the fraction stays", x.part(1), 100);
        due.is("an empty text: nothing may be undone", x.undo(), -3);
        due.is("an empty text: the image stays", x.from(0), 1);
        due.is("an empty text: the image stays", x.count(0), 2);
    }

    // "a TEXT (250 bytes at most)"
    private static void fullTexts() {
        String text = "joint 9;" + "day 5;".repeat(40) + "  ";
        due.is("so long", text.length(), 250);
        items(text, 41);
        items("day 5 ;".repeat(35) + "day9;", 36);
        items("day9;".repeat(50), 50);
        String many = "day9;".repeat(49);
        fault(many + "day9!", 249);
        fault(many + "day99", 250);
    }

    private static void theFirstOfSeveralFaults() {
        fault("joint 5;joint 100;x", 14);
        fault("x joint 100;", 0);
        fault("mourner 6 100 100", 8);
        fault("mourner 5 100 100", 10);
        fault("mourner 5 5 100", 12);
        fault("piece 0 100", 6);
        fault("joint 0;piece 1 100", 16);
        fault("wedding 0 0", 8);
        fault("wedding 1 0", 10);
        fault("boil 0 0", 5);
        fault("joint 0;boil 0 0 0", 15);
        fault("joint 0;mourner 0 0 0;boil 1 1 1;", 27);
        fault("joint 0;mourner 0 0 0;boil 0 1 1;", 29);
        fault("joint 0;mourner 0 0 0;boil 0 0 0", 31);
    }

    // "boil j m, boil j m m"; "MOURNERS alike"
    private static void boilingsByText() {
        fault(TWO_OF_ALL + "boil 0 1 1;", TWO_OF_ALL.length() + 9);
        fault(TWO_OF_ALL + "boil 0 0 00;", TWO_OF_ALL.length() + 9);
        fault(TWO_OF_ALL + "boil 0 1 0 1;", TWO_OF_ALL.length() + 11);
        fault(TWO_OF_ALL + "boil 0;", TWO_OF_ALL.length() + 6);
        fault(TWO_OF_ALL + "boil;", TWO_OF_ALL.length() + 4);
        GriefGlue x = Due.shop("mourner 4 40 0;mourner 4 50 0;joint 45;joint 45;joint 46;boil 0 1;boil 1 1 0;boil 2 0 1;");
        due.is("by one: opens(0)", x.opens(0), 100);
        due.is("by two: opens(1)", x.opens(1), 100);
        due.is("by two: opens(2)", x.opens(2), 0);
        GriefGlue y = Due.shop("mourner 4 40 0;mourner 4 50 0;joint 45;boil 0 1 0;boil 0 0;");
        due.is("the last boiling stands: opens(0)", y.opens(0), 0);
        GriefGlue z = Due.shop("mourner 4 40 0;mourner 4 50 0;joint 45;boil 0 0;boil 0 0 1;joint 9;");
        due.is("the last boiling stands: opens(0)", z.opens(0), 100);
        due.is("never boiled: opens(1)", z.opens(1), -1);
    }

    // "a day less than the one that is"; "(a boil is of the DAY told so far)"
    private static void daysByText() {
        fault("day 5;day 4;", 10);
        fault("day 5;day 04;", 10);
        fault("day 99;day 98;", 11);
        fault("day 1;day 0;", 10);
        items("day 0;day 0;day 1;day 1;day 99;day 99;", 6);
        // The day that was in the workshop ahead of the text is none of the text's.
        GriefGlue x = new GriefGlue();
        x.day(50);
        Due.put(x, "day 3;");
        due.is("read() of <day 3;> on day 50", x.read(), 1);
        due.is("the day is the text's", x.count(5), 3);
        Due.put(x, "joint 1;");
        due.is("read() of <joint 1;>", x.read(), 1);
        due.is("the day is 0 where none is told", x.count(5), 0);
        // A grief of 20 falls below 18 on day 3: a joint boiled on day 5 is open on that day.
        GriefGlue y = Due.shop("mourner 0 20 0;joint 18;joint 18;joint 18;boil 0 0;day 5;boil 1 0;day 9;boil 2 0;");
        due.is("boiled ahead of any day: opens(0)", y.opens(0), 3);
        due.is("boiled on day 5: opens(1)", y.opens(1), 5);
        due.is("boiled on day 9: opens(2)", y.opens(2), 9);
        due.is("the day", y.count(5), 9);
        // Feasts and mourners may come behind the boiling that they touch.
        GriefGlue z = Due.shop("mourner 0 20 0;joint 18;boil 0 0;onion 3 0;wedding 6 0;");
        due.is("a feast behind the boiling: opens(0)", z.opens(0), 6);
    }

    // "A SHOP that is read takes the place of all but IMAGES, THE TEXT, THE FRACTION, STATUS (nothing may be undone)"
    private static void whatIsReadTakesThePlace() {
        GriefGlue x = usedWorkshop();
        x.image(1);
        String text = "mourner 2 60 8;joint 33;joint 7;day 4;boil 0 0;onion 6 0;piece 2 50;";
        Due.put(x, text);
        due.is("read()", x.read(), 7);
        int[] want = {1, 2, 1, 1, 0, 4, 0, text.length()};
        for (int what = 0; what <= 7; what++) {
            due.is("read: count(" + what + ")", x.count(what), want[what]);
        }
        due.is("THE FRACTION stays: part(0)", x.part(0), 49);
        due.is("THE FRACTION stays: part(1)", x.part(1), 100);
        due.is("STATUS stays: status(1)", x.status(1), 1);
        due.is("nothing may be undone", x.undo(), -3);
        due.is("griefs are of those that are told", x.grief(0, 6), 47);
        due.is("nobody else", x.grief(1, 0), -2);
        due.is("who boiled is told", x.opens(0), 11);
        due.is("it may be read again", x.read(), 7);
        due.is("the images stay: from(1)", x.from(1), 1);
        due.is("the images stay: count(6)", x.count(6), 1);
        due.is("the images stay: from(0)", x.from(0), 1);
        due.is("the images stay: count(4)", x.count(4), 1);
        due.is("the images stay: count(3)", x.count(3), 1);
        due.is("the text stays", x.read(), 7);
        x.day(9);
        due.is("what comes behind may be undone", x.undo(), 1);
        due.is("to what was read", x.count(5), 4);
        due.is("and no farther", x.undo(), -3);
        nothingOfAnEarlierText(x);
    }

    private static void nothingOfAnEarlierText(GriefGlue x) {
        Due.put(x, "mourner 4 50 0;mourner 4 50 0;joint 9;joint 9;day 9;boil 0 0;boil 1 0 1;wedding 9 0;piece 3 9;");
        due.is("read()", x.read(), 9);
        Due.put(x, "mourner 4 50 0;joint 9;");
        due.is("read() of less", x.read(), 2);
        due.is("no boiling of an earlier text", x.opens(0), -1);
        due.is("no feast of an earlier text", x.grief(0, 9), 50);
        due.is("no day of an earlier text", x.count(5), 0);
        due.is("no piece of an earlier text", x.count(2), 0);
        due.is("joint 1", x.joint(9), 1);
        due.is("it was never boiled", x.opens(1), -1);
        Due.put(x, "mourner 4 50 0;joint 9;boil 0 0;day 5;x");
        due.is("a fault", x.read(), -48);
        Due.put(x, "mourner 4 50 0;joint 9;");
        due.is("read() again", x.read(), 2);
        due.is("no boiling of a text with a fault", x.opens(0), -1);
        due.is("no day of a text with a fault", x.count(5), 0);
    }

    // "-10 less the FAULT: all stays."
    private static void whatIsNotReadLeavesAll() {
        List<String> texts = new ArrayList<>();
        texts.add("mourner 5 5 5;joint 5;piece 1 5;onion 5 0;day 50;boil 0 0;x");
        texts.add("x");
        texts.add("day 50;day 49;");
        for (String text : texts) {
            GriefGlue x = usedWorkshop();
            Due.put(x, text);
            long before = x.digest();
            due.isTrue("a fault in <" + text + ">", x.read() <= -10);
            due.is("the digest stays", x.digest(), before);
            due.is("what may be undone stays", x.count(6), 1);
            due.is("undo()", x.undo(), 1);
            due.is("griefs stay", x.grief(0, 5), 15);
            due.is("a fault again", x.read() <= -10 ? 1 : 0, 1);
            due.is("a text that is mended is read", mended(x), 1);
        }
    }

    private static int mended(GriefGlue x) {
        Due.put(x, "joint 1;");
        return x.read();
    }

    // STATUS counts "calls .. refused as BAD, NO, FULL (each answer told so below is such a one)": a FAULT is told as none.
    private static void faultsAreNotCounted() {
        GriefGlue x = new GriefGlue();
        Due.put(x, "joint 100;");
        due.is("read()", x.read(), -16);
        Due.put(x, SIX_JOINTS + "joint 1;");
        due.is("read()", x.read(), -58);
        for (int what = 0; what <= 2; what++) {
            due.is("faults: status(" + what + ")", x.status(what), 0);
        }
    }
}
