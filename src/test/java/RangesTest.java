import java.util.ArrayList;
import java.util.Arrays;
import java.util.HashMap;
import java.util.LinkedHashSet;
import java.util.List;
import java.util.Map;
import java.util.Set;

/**
 * "Refused, changing nothing but STATUS, the first of: BAD -2 a number is not as told; NO -3 as told; FULL -4": each
 * call with the least and the greatest number that is as told, the first ones that are not on both sides, and the
 * farthest, all of them with one another, in workshops that are new, half full and full.
 */
public final class RangesTest {
    private static final Due due = new Due();
    private static final int BAD = -2, NO = -3, FULL = -4;

    /** A workshop, and what it has: by count(0) to count(7). */
    private static final class State {
        final String name;
        final String script;
        final String text;
        final int[] many = new int[8];
        final boolean[] kept;
        final List<Long> told;

        State(String name, String script, String text, boolean first, boolean second) {
            this.name = name;
            this.script = script;
            this.text = text;
            this.kept = new boolean[] {first, second};
            GriefGlue x = made();
            for (int what = 0; what < 8; what++) {
                many[what] = x.count(what);
            }
            told = Calls.allTold(x);
        }

        GriefGlue made() {
            GriefGlue x = new GriefGlue();
            Calls.run(x, script, text);
            return x;
        }

        Model model() {
            Model model = new Model();
            Calls.run(model, script, text);
            return model;
        }
    }

    private static final String HALF_TEXT = "mourner 1 33 2;joint 9;piece 1 4;onion 3 0;day 2;boil 0 0;";
    private static final String HALF = "mourner 0 60 7, mourner 4 50 3, joint 30, joint 45, piece 3 12, feast 0 9 0, "
            + "feast 1 5 1, fact 10 2 100, boil 0 0 1, odds 1 50 2 3, image 1, day 4, boil 1 1 -1, undo, text";
    private static final String FULL_TEXT =
            (HALF_TEXT + "mourner 2 80 5;joint 20;onion 20 1;wedding 30 0;" + " ".repeat(250)).substring(0, 250);
    private static final String FULL_SHOP = "mourner 0 60 9, mourner 1 40 5, mourner 2 90 3, mourner 3 50 1, "
            + "mourner 4 70 7, mourner 5 80 8, joint 30, joint 45, joint 10, joint 0, joint 5, joint 40, "
            + "piece 3 12, piece 6 25, piece 32 99, piece 24 0, feast 0 9 0, feast 1 5 1, feast 0 20 2, feast 1 21 3, "
            + "feast 0 22 4, feast 1 23 5, feast 0 24 4, feast 1 25 4, feast 1 99 5, feast 0 1 0, fact 10 2 58, "
            + "fact 9 2 59, fact 8 2 60, fact 7 2 61, fact 6 2 62, fact 5 2 63, image 0, boil 0 0 -1, boil 1 2 4, "
            + "boil 2 3 -1, day 1, boil 3 4 -1, boil 4 5 4, odds 4 40 3 7, day 5, image 1, boil 5 4 -1, day 9, day 9, "
            + "boil 0 5 -1, day 10, undo, day ";

    private static final State[] STATES = {
        new State("new", "", "", false, false),
        new State("half full", HALF, HALF_TEXT, false, true),
        new State("full", FULL_SHOP + "95, text", FULL_TEXT, true, true),
        new State("full on the last day", FULL_SHOP + "99, text", FULL_TEXT, true, true)};

    private static int asked;

    public static void main(String[] args) {
        for (State s : STATES) {
            int mourners = s.many[0];
            int joints = s.many[1];
            int day = s.many[5];
            go(s, "mourner", 0, 5, 0, 99, 0, 99);
            go(s, "joint", 0, 99);
            go(s, "piece", 1, (1 << joints) - 1, 0, 99);
            go(s, "feast", 0, 1, 1, 99, 0, mourners - 1);
            go(s, "skip");
            go(s, "boil", 0, joints - 1, 0, mourners - 1, -1, mourners - 1);
            go(s, "day", day, 99);
            go(s, "undo");
            go(s, "clear");
            go(s, "read");
            go(s, "grief", 0, mourners - 1, 0, 99);
            go(s, "opens", 0, joints - 1);
            go(s, "lasts", 0, s.many[2] - 1);
            go(s, "open");
            go(s, "hire", 0, 1);
            go(s, "who", 0, joints - 1);
            go(s, "saves", 0, mourners - 1);
            go(s, "tears", 0, mourners - 1, 0, 99, day, 99);
            go(s, "fact", 0, 99, 0, 99, 0, 100);
            go(s, "forget");
            go(s, "likely", 0, 5, 0, 2);
            go(s, "odds", 0, mourners - 1, 0, 99, 0, Math.min(15, 99 - day), 0, 10);
            go(s, "harm", 0, s.many[3] - 1);
            go(s, "part", 0, 1);
            go(s, "image", 0, 1);
            go(s, "from", 0, 1);
            go(s, "status", 0, 2);
            go(s, "count", 0, 7);
            go(s, "digest");
            typeOf(s);
        }
        due.isTrue("so many calls: " + asked, asked > 9000);
        statesAreAsMeant();
        due.end();
    }

    private static void statesAreAsMeant() {
        int[][] want = {
            {0, 0, 0, 0, 0, 0, 0, 0}, {2, 2, 1, 2, 1, 4, 2, HALF_TEXT.length()}, {6, 6, 4, 10, 6, 95, 10, 250},
            {6, 6, 4, 10, 6, 99, 10, 250}};
        for (int i = 0; i < STATES.length; i++) {
            due.isTrue(STATES[i].name + " has " + Arrays.toString(STATES[i].many), Arrays.equals(STATES[i].many, want[i]));
        }
    }

    /** Every call with the numbers at the edges of its ranges: the least and the greatest of each, in turn. */
    private static void go(State s, String name, int... ranges) {
        go(s, name, new ArrayList<>(), ranges);
    }

    private static void go(State s, String name, List<Long> args, int[] ranges) {
        int i = args.size();
        if (2 * i == ranges.length) {
            one(s, name, args.stream().mapToLong(Long::longValue).toArray(), ranges);
            return;
        }
        for (int edge : edges(ranges[2 * i], ranges[2 * i + 1])) {
            args.add((long) edge);
            go(s, name, args, ranges);
            args.remove(i);
        }
    }

    private static Set<Integer> edges(int least, int greatest) {
        Set<Integer> edges = new LinkedHashSet<>(List.of(least));
        edges.addAll(List.of(least - 1, greatest, greatest + 1, Integer.MIN_VALUE, Integer.MAX_VALUE));
        return edges;
    }

    private static void typeOf(State s) {
        long v = 0x6a6f696e7420373bL;
        for (int n : new int[] {Integer.MIN_VALUE, -1, 0, 1, 2, 7, 8, 9, 250, Integer.MAX_VALUE}) {
            one(s, "type", new long[] {v, n}, new int[] {0, 0, 1, 8});
        }
    }

    private static boolean isAsTold(String name, long[] args, int[] ranges) {
        for (int i = name.equals("type") ? 1 : 0; i < args.length; i++) {
            if (args[i] < ranges[2 * i] || args[i] > ranges[2 * i + 1]) {
                return false;
            }
        }
        boolean alike = name.equals("boil") && args[1] == args[2];
        boolean openedAhead = name.equals("fact") && args[2] < args[1];
        return !alike && !openedAhead;
    }

    /** How a call is refused; 0: it is not. */
    private static int refusal(State s, String name, long[] args, int[] ranges) {
        if (!isAsTold(name, args, ranges)) {
            return BAD;
        }
        Map<String, Boolean> no = new HashMap<>();
        no.put("skip", s.many[3] == 0);
        no.put("undo", s.many[6] == 0);
        no.put("from", name.equals("from") && !s.kept[(int) args[0]]);
        if (no.getOrDefault(name, false)) {
            return NO;
        }
        Map<String, Boolean> full = new HashMap<>();
        full.put("mourner", s.many[0] == 6);
        full.put("joint", s.many[1] == 6);
        full.put("piece", s.many[2] == 4);
        full.put("feast", s.many[3] == 10);
        full.put("fact", s.many[4] == 6);
        full.put("type", name.equals("type") && s.many[7] + args[1] > 250);
        return full.getOrDefault(name, false) ? FULL : 0;
    }

    private static int toldAs(String name, int refusal) {
        if (refusal == BAD && name.equals("harm")) {
            return -10;
        }
        return refusal == BAD && name.equals("status") ? -1 : refusal;
    }

    private static void one(State s, String name, long[] args, int[] ranges) {
        asked++;
        String call = s.name + ": " + name + Arrays.toString(args);
        GriefGlue x = s.made();
        int[] before = {x.status(0), x.status(1), x.status(2)};
        int refusal = refusal(s, name, args, ranges);
        long got = Calls.answer(x, name, args);
        for (int what = 0; what <= 2; what++) {
            int more = refusal == -2 - what ? 1 : 0;
            due.is(call + " counts: status(" + what + ")", x.status(what), before[what] + more);
        }
        if (refusal != 0) {
            due.is(call, got, toldAs(name, refusal));
            due.isTrue(call + " changes nothing", Calls.allTold(x).equals(s.told));
        } else {
            Model model = s.model();
            due.is(call, got, Calls.answer(model, name, args));
            due.is(call + ": digest()", x.digest(), model.digest());
        }
    }
}
