import java.math.BigInteger;
import java.util.ArrayList;
import java.util.Arrays;
import java.util.HashMap;
import java.util.List;
import java.util.Map;
import java.util.regex.Matcher;
import java.util.regex.Pattern;

/**
 * The document told once more, as slowly and plainly as can be: griefs are worked out from day 0 at each
 * question, chances by going through all weddings one by one, hiring by going through all sets.
 */
final class Model {
    /** What images keep. */
    private static final class State {
        List<int[]> mourners = new ArrayList<>();
        List<int[]> joints = new ArrayList<>();
        List<int[]> pieces = new ArrayList<>();
        List<int[]> feasts = new ArrayList<>();
        List<int[]> facts = new ArrayList<>();
        List<int[]> boils = new ArrayList<>();
        int day = 0;
        List<List<int[]>> pastBoils = new ArrayList<>();
        List<Integer> pastDays = new ArrayList<>();

        State copy() {
            State s = new State();
            s.mourners = rows(mourners);
            s.joints = rows(joints);
            s.pieces = rows(pieces);
            s.feasts = rows(feasts);
            s.facts = rows(facts);
            s.boils = rows(boils);
            s.day = day;
            for (List<int[]> past : pastBoils) {
                s.pastBoils.add(rows(past));
            }
            s.pastDays = new ArrayList<>(pastDays);
            return s;
        }

        static List<int[]> rows(List<int[]> from) {
            List<int[]> rows = new ArrayList<>();
            for (int[] row : from) {
                rows.add(row.clone());
            }
            return rows;
        }
    }

    private static class Mourner {
        int step(int g, int day) {
            return Math.max(0, g - 1);
        }
    }

    private static class Widow extends Mourner {
        @Override int step(int g, int day) {
            return day % 7 == 0 ? g : super.step(g, day);
        }
    }

    private static class Heir extends Mourner {
        @Override int step(int g, int day) {
            return Math.max(0, g - 3);
        }
    }

    private static final class Hired extends Widow {
        @Override int step(int g, int day) {
            return day > 20 ? 0 : super.step(g, day);
        }
    }

    private static final class Poet extends Heir {
        @Override int step(int g, int day) {
            return g > 50 ? super.step(g, day) : g;
        }
    }

    private static final class Twice extends Widow {
        @Override int step(int g, int day) {
            return super.step(super.step(g, day), day);
        }
    }

    private static final Mourner[] KINDS = {
        new Mourner(), new Widow(), new Heir(), new Hired(), new Poet(), new Twice()};

    private State s = new State();
    private final State[] images = new State[2];
    private String text = "";
    private BigInteger above = BigInteger.ZERO;
    private BigInteger below = BigInteger.ONE;
    private final int[] refused = new int[3];

    private int refuse(int how) {
        refused[-2 - how]++;
        return how;
    }

    private static boolean out(int x, int low, int high) {
        return x < low || x > high;
    }

    private static int add(List<int[]> rows, int... row) {
        rows.add(row);
        return rows.size() - 1;
    }

    int mourner(int kind, int grief, int price) {
        if (out(kind, 0, 5) || out(grief, 0, 99) || out(price, 0, 99)) {
            return refuse(-2);
        }
        return s.mourners.size() == 6 ? refuse(-4) : add(s.mourners, kind, grief, price);
    }

    int joint(int load) {
        if (out(load, 0, 99)) {
            return refuse(-2);
        }
        if (s.joints.size() == 6) {
            return refuse(-4);
        }
        add(s.boils, -1, -1, -1);
        return add(s.joints, load);
    }

    int piece(int set, int lease) {
        if (out(set, 1, (1 << s.joints.size()) - 1) || out(lease, 0, 99)) {
            return refuse(-2);
        }
        return s.pieces.size() == 4 ? refuse(-4) : add(s.pieces, set, lease);
    }

    int feast(int what, int day, int m) {
        if (out(what, 0, 1) || out(day, 1, 99) || out(m, 0, s.mourners.size() - 1)) {
            return refuse(-2);
        }
        return s.feasts.size() == 10 ? refuse(-4) : add(s.feasts, what, day, m);
    }

    int skip() {
        if (s.feasts.isEmpty()) {
            return refuse(-3);
        }
        s.feasts.remove(s.feasts.size() - 1);
        return s.feasts.size();
    }

    private void keepPast() {
        s.pastBoils.add(State.rows(s.boils));
        s.pastDays.add(s.day);
        if (s.pastDays.size() > 10) {
            s.pastBoils.remove(0);
            s.pastDays.remove(0);
        }
    }

    int boil(int joint, int a, int b) {
        if (out(joint, 0, s.joints.size() - 1) || out(a, 0, s.mourners.size() - 1)
                || out(b, -1, s.mourners.size() - 1) || a == b) {
            return refuse(-2);
        }
        keepPast();
        s.boils.set(joint, new int[] {s.day, a, b});
        return opening(joint, -1);
    }

    int day(int d) {
        if (out(d, s.day, 99)) {
            return refuse(-2);
        }
        keepPast();
        s.day = d;
        return Integer.bitCount(open());
    }

    int undo() {
        if (s.pastDays.isEmpty()) {
            return refuse(-3);
        }
        int last = s.pastDays.size() - 1;
        s.day = s.pastDays.remove(last);
        List<int[]> boils = s.pastBoils.remove(last);
        while (boils.size() < s.joints.size()) {
            boils.add(new int[] {-1, -1, -1});
        }
        s.boils = boils;
        return 1;
    }

    int type(long v, int n) {
        if (out(n, 1, 8)) {
            return refuse(-2);
        }
        if (text.length() + n > 250) {
            return refuse(-4);
        }
        for (int i = 0; i < n; i++) {
            text += (char) (v >> 8 * (n - 1 - i) & 0xff);
        }
        return text.length();
    }

    int clear() {
        int had = text.length();
        text = "";
        return had;
    }

    // ---- the text: first all tokens, then item by item, each tried as the call that it stands for

    private static final Pattern TOKEN = Pattern.compile("[a-z]+|[0-9]+|[^ ]", Pattern.DOTALL);

    private int faultAt;
    private List<String> tokens;
    private List<Integer> places;
    private int at;

    private int number(int low, int high) {
        int n = -1;
        if (at < tokens.size() && tokens.get(at).matches("[0-9][0-9]?")) {
            n = Integer.parseInt(tokens.get(at));
        }
        if (faultAt < 0 && (n < 0 || out(n, low, high))) {
            faultAt = places.get(at);
        }
        at = Math.min(at + 1, tokens.size());
        return n;
    }

    private void blame(int token) {
        if (faultAt < 0) {
            faultAt = places.get(token);
        }
    }

    private void stop() {
        if (at >= tokens.size() || !tokens.get(at).equals(";")) {
            blame(at);
        }
        at = Math.min(at + 1, tokens.size());
    }

    int read() {
        Model told = new Model();
        faultAt = -1;
        at = 0;
        tokens = new ArrayList<>();
        places = new ArrayList<>();
        Matcher matcher = TOKEN.matcher(text);
        while (matcher.find()) {
            tokens.add(matcher.group());
            places.add(matcher.start());
        }
        places.add(text.length());
        int items = 0;
        while (at < tokens.size() && faultAt < 0) {
            item(told);
            items++;
        }
        if (faultAt >= 0) {
            return -10 - faultAt;
        }
        s = told.s;
        s.pastDays.clear();
        s.pastBoils.clear();
        return items;
    }

    private void item(Model told) {
        int word = at++;
        int mourners = told.s.mourners.size();
        int joints = told.s.joints.size();
        switch (tokens.get(word)) {
            case "mourner": {
                if (mourners == 6) {
                    blame(word);
                }
                int[] n = {number(0, 5), number(0, 99), number(0, 99)};
                stop();
                told.mourner(n[0], n[1], n[2]);
                break;
            }
            case "joint": {
                if (joints == 6) {
                    blame(word);
                }
                int load = number(0, 99);
                stop();
                told.joint(load);
                break;
            }
            case "piece": {
                if (told.s.pieces.size() == 4) {
                    blame(word);
                }
                int[] n = {number(1, (1 << joints) - 1), number(0, 99)};
                stop();
                told.piece(n[0], n[1]);
                break;
            }
            case "wedding":
            case "onion": {
                if (told.s.feasts.size() == 10) {
                    blame(word);
                }
                int[] n = {number(1, 99), number(0, mourners - 1)};
                stop();
                told.feast(tokens.get(word).equals("onion") ? 1 : 0, n[0], n[1]);
                break;
            }
            case "day": {
                int d = number(told.s.day, 99);
                stop();
                told.day(d);
                break;
            }
            case "boil": {
                int[] n = {number(0, joints - 1), number(0, mourners - 1), -1};
                if (faultAt < 0 && at < tokens.size() && Character.isDigit(tokens.get(at).charAt(0))) {
                    n[2] = number(0, mourners - 1);
                    if (n[1] == n[2]) {
                        blame(at - 1);
                    }
                }
                stop();
                if (faultAt < 0) {
                    told.boil(n[0], n[1], n[2]);
                }
                break;
            }
            default:
                blame(word);
        }
    }

    // ---- what holds

    private int griefWithout(int m, int day, int without) {
        int g = s.mourners.get(m)[1];
        for (int d = 1; d <= day; d++) {
            g = dayOf(m, g, d, without);
        }
        return g;
    }

    private int dayOf(int m, int before, int d, int without) {
        int g = KINDS[s.mourners.get(m)[0]].step(before, d);
        for (int[] feast : s.feasts) {
            boolean is = without < 0 || feast != s.feasts.get(without);
            if (is && feast[1] == d && feast[2] == m) {
                g = feast[0] == 0 ? g / 2 : Math.min(99, g + 5);
            }
        }
        return g;
    }

    private int strength(int a, int b, int day, int without) {
        int one = griefWithout(a, day, without);
        return b < 0 ? one : (one + griefWithout(b, day, without)) / 2;
    }

    private int opening(int joint, int without) {
        int[] boil = s.boils.get(joint);
        if (boil[0] < 0) {
            return -1;
        }
        for (int d = boil[0]; d <= 99; d++) {
            if (strength(boil[1], boil[2], d, without) < s.joints.get(joint)[0]) {
                return d;
            }
        }
        return 100;
    }

    int grief(int m, int day) {
        if (out(m, 0, s.mourners.size() - 1) || out(day, 0, 99)) {
            return refuse(-2);
        }
        return griefWithout(m, day, -1);
    }

    int opens(int joint) {
        return out(joint, 0, s.joints.size() - 1) ? refuse(-2) : opening(joint, -1);
    }

    private boolean holds(int joint, int till) {
        int opening = opening(joint, -1);
        return opening != -1 && opening > till;
    }

    private boolean isLasting(int piece) {
        int[] p = s.pieces.get(piece);
        for (int j = 0; j < s.joints.size(); j++) {
            if ((p[0] & 1 << j) != 0 && !(holds(j, p[1]) && holds(j, s.day))) {
                return false;
            }
        }
        return true;
    }

    int lasts(int piece) {
        if (out(piece, 0, s.pieces.size() - 1)) {
            return refuse(-2);
        }
        return isLasting(piece) ? 1 : 0;
    }

    int open() {
        int bits = 0;
        for (int j = 0; j < s.joints.size(); j++) {
            bits += holds(j, s.day) ? 0 : 1 << j;
        }
        return bits;
    }

    // ---- whom to hire

    private Map<Integer, Integer> needs() {
        Map<Integer, Integer> tills = new HashMap<>();
        for (int p = 0; p < s.pieces.size(); p++) {
            if (!isLasting(p)) {
                for (int j = 0; j < 6; j++) {
                    if ((s.pieces.get(p)[0] & 1 << j) != 0) {
                        tills.merge(j, Math.max(s.day, s.pieces.get(p)[1]), Math::max);
                    }
                }
            }
        }
        return tills;
    }

    private int boilers(int joint, int till, int set) {
        List<Integer> of = new ArrayList<>();
        for (int m = 0; m < s.mourners.size(); m++) {
            if ((set & 1 << m) != 0) {
                of.add(m);
            }
        }
        for (int a : of) {
            if (wouldHold(joint, till, a, -1)) {
                return 60 + a;
            }
        }
        for (int a : of) {
            for (int b : of) {
                if (a < b && wouldHold(joint, till, a, b)) {
                    return 10 * a + b;
                }
            }
        }
        return -1;
    }

    private final Map<List<Integer>, Boolean> held = new HashMap<>();

    private boolean wouldHold(int joint, int till, int a, int b) {
        return held.computeIfAbsent(Arrays.asList(joint, till, a, b), key -> {
            for (int d = s.day; d <= till; d++) {
                if (strength(a, b, d, -1) < s.joints.get(joint)[0]) {
                    return false;
                }
            }
            return true;
        });
    }

    /** PRICES and the set; null: none. */
    private int[] hiring(int without) {
        held.clear();
        Map<Integer, Integer> needs = needs();
        int[] best = null;
        for (int set = 0; set < 1 << s.mourners.size(); set++) {
            if (without >= 0 && (set & 1 << without) != 0) {
                continue;
            }
            int price = 0;
            for (int m = 0; m < s.mourners.size(); m++) {
                price += (set & 1 << m) != 0 ? s.mourners.get(m)[2] : 0;
            }
            boolean enough = true;
            for (Map.Entry<Integer, Integer> need : needs.entrySet()) {
                enough &= boilers(need.getKey(), need.getValue(), set) != -1;
            }
            if (enough && (best == null || price < best[0])) {
                best = new int[] {price, set};
            }
        }
        return best;
    }

    int hire(int what) {
        if (out(what, 0, 1)) {
            return refuse(-2);
        }
        int[] hiring = hiring(-1);
        return hiring == null ? -1 : hiring[what];
    }

    int who(int joint) {
        if (out(joint, 0, s.joints.size() - 1)) {
            return refuse(-2);
        }
        int[] hiring = hiring(-1);
        Integer till = needs().get(joint);
        return hiring == null || till == null ? -1 : boilers(joint, till, hiring[1]);
    }

    int saves(int m) {
        if (out(m, 0, s.mourners.size() - 1)) {
            return refuse(-2);
        }
        int[] with = hiring(-1);
        int[] without = hiring(m);
        return with == null || without == null ? -1 : without[0] - with[0];
    }

    int tears(int m, int load, int day) {
        if (out(m, 0, s.mourners.size() - 1) || out(load, 0, 99) || out(day, s.day, 99)) {
            return refuse(-2);
        }
        int fewest = tearsFrom(m, load, s.day, day, griefWithout(m, s.day, -1), new HashMap<>());
        return fewest > 1000 ? -1 : fewest;
    }

    private int tearsFrom(int m, int load, int d, int till, int g, Map<List<Integer>, Integer> known) {
        if (g < load) {
            return 100000;
        }
        if (d == till) {
            return 0;
        }
        List<Integer> key = Arrays.asList(d, g);
        Integer was = known.get(key);
        if (was != null) {
            return was;
        }
        int next = dayOf(m, g, d + 1, -1);
        int fewest = 100000;
        for (int more = 0; more <= 3; more++) {
            fewest = Math.min(fewest, more + tearsFrom(m, load, d + 1, till, next, known));
            next = Math.min(99, next + 5);
        }
        known.put(key, fewest);
        return fewest;
    }

    // ---- what is likely

    int fact(int load, int boiled, int opened) {
        if (out(load, 0, 99) || out(boiled, 0, 99) || out(opened, 0, 100) || opened < boiled) {
            return refuse(-2);
        }
        return s.facts.size() == 6 ? refuse(-4) : add(s.facts, load, boiled, opened);
    }

    int forget() {
        int had = s.facts.size();
        s.facts.clear();
        return had;
    }

    int likely(int kind, int what) {
        if (out(kind, 0, 5) || out(what, 0, 2)) {
            return refuse(-2);
        }
        List<Integer> firsts = new ArrayList<>();
        for (int first = 0; first <= 99; first++) {
            boolean so = true;
            for (int[] fact : s.facts) {
                Model one = new Model();
                one.mourner(kind, first, 0);
                one.joint(fact[0]);
                one.day(fact[1]);
                so &= one.boil(0, 0, -1) == fact[2];
            }
            if (so) {
                firsts.add(first);
            }
        }
        if (what == 0) {
            return firsts.size();
        }
        return firsts.isEmpty() ? -1 : firsts.get(what == 1 ? 0 : firsts.size() - 1);
    }

    int odds(int m, int load, int n, int p) {
        if (out(m, 0, s.mourners.size() - 1) || out(load, 0, 99) || out(n, 0, 15) || out(p, 0, 10)
                || out(s.day + n, 0, 99)) {
            return refuse(-2);
        }
        BigInteger sum = BigInteger.ZERO;
        for (int weddings = 0; weddings < 1 << n; weddings++) {
            int g = griefWithout(m, s.day, -1);
            for (int i = 0; i < n; i++) {
                g = dayOf(m, g, s.day + 1 + i, -1);
                g = (weddings & 1 << i) != 0 ? g / 2 : g;
            }
            if (g >= load) {
                int many = Integer.bitCount(weddings);
                sum = sum.add(BigInteger.valueOf(p).pow(many).multiply(BigInteger.valueOf(10 - p).pow(n - many)));
            }
        }
        BigInteger all = BigInteger.TEN.pow(n);
        BigInteger common = sum.gcd(all);
        above = sum.divide(common);
        below = all.divide(common);
        return 1;
    }

    int harm(int feast) {
        if (out(feast, 0, s.feasts.size() - 1)) {
            refuse(-2);
            return -10;
        }
        int harm = 0;
        for (int j = 0; j < s.joints.size(); j++) {
            harm += Integer.signum(opening(j, feast) - opening(j, -1));
        }
        return harm;
    }

    // ---- what there is

    long part(int what) {
        if (out(what, 0, 1)) {
            return refuse(-2);
        }
        return (what == 0 ? above : below).longValueExact();
    }

    int image(int i) {
        if (out(i, 0, 1)) {
            return refuse(-2);
        }
        images[i] = s.copy();
        return 1;
    }

    int from(int i) {
        if (out(i, 0, 1)) {
            return refuse(-2);
        }
        if (images[i] == null) {
            return refuse(-3);
        }
        s = images[i].copy();
        return 1;
    }

    int status(int what) {
        if (out(what, 0, 2)) {
            refuse(-2);
            return -1;
        }
        return refused[what];
    }

    private int[] counts() {
        return new int[] {s.mourners.size(), s.joints.size(), s.pieces.size(), s.feasts.size(), s.facts.size(),
            s.day, s.pastDays.size(), text.length()};
    }

    int count(int what) {
        return out(what, 0, 7) ? refuse(-2) : counts()[what];
    }

    long digest() {
        List<Long> values = new ArrayList<>();
        put(values, counts());
        s.mourners.forEach(row -> put(values, row));
        for (int j = 0; j < s.joints.size(); j++) {
            put(values, s.joints.get(j));
            put(values, s.boils.get(j));
        }
        s.pieces.forEach(row -> put(values, row));
        s.feasts.forEach(row -> put(values, row));
        s.facts.forEach(row -> put(values, row));
        values.add(above.longValueExact());
        values.add(below.longValueExact());
        long h = 797;
        for (long v : values) {
            h = 31 * h + v;
        }
        return h;
    }

    private static void put(List<Long> values, int[] row) {
        for (int v : row) {
            values.add((long) v);
        }
    }
}
