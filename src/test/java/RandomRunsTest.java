import java.util.Random;

/** Runs of 512 calls, the same each time, on the class and on the model: all answers are alike. */
public final class RandomRunsTest {
    private static final int RUNS = 1200;
    private static final int CALLS = 512;
    private static final int[] FAR = {-1, -2, 6, 10, 64, 100, 101, Integer.MIN_VALUE, Integer.MAX_VALUE, 1 << 30};
    private static final String[] ODD = {";", " ", "", "x", "joint", "100", "7", "!", "boil", "\u00ff", "  ", "Day", "0"};

    private final Random random;
    private final GriefGlue glue = new GriefGlue();
    private final Model model = new Model();
    private final int wildness;
    private long answer;
    private long wanted;

    private RandomRunsTest(int seed) {
        random = new Random(seed);
        wildness = 3 + random.nextInt(60);
    }

    public static void main(String[] args) {
        int runs = args.length > 0 ? Integer.parseInt(args[0]) : RUNS;
        int bad = 0;
        for (int seed = 0; seed < runs; seed++) {
            if (!new RandomRunsTest(seed).run(seed)) {
                bad++;
            }
        }
        System.out.println(runs + " runs, " + bad + " not as due");
        if (bad != 0) {
            System.exit(1);
        }
    }

    private boolean run(int seed) {
        for (int i = 0; i < CALLS; i++) {
            String call = callOne();
            long got = glue.digest();
            long want = model.digest();
            for (int what = 0; what <= 2; what++) {
                got = 31 * got + glue.status(what);
                want = 31 * want + model.status(what);
            }
            if (answer != wanted || got != want) {
                System.out.println("run " + seed + ", call " + i + ": " + call + " answered " + answer + ", due is "
                        + wanted + "; digests " + got + ", " + want);
                return false;
            }
        }
        return true;
    }

    private String is(String call, long got, long want) {
        answer = got;
        wanted = want;
        return call;
    }

    private int below(int bound) {
        if (random.nextInt(wildness) == 0) {
            return FAR[random.nextInt(FAR.length)];
        }
        return random.nextInt(Math.max(1, bound));
    }

    private int many(int what) {
        return model.count(what);
    }

    private int later() {
        int day = many(5);
        return random.nextInt(4) == 0 ? below(100) : day + below(Math.max(1, Math.min(9, 100 - day)));
    }

    private String callOne() {
        switch (random.nextInt(34)) {
            case 0: {
                int k = below(6);
                int g = below(100);
                int p = below(random.nextBoolean() ? 100 : 4);
                return is("mourner(" + k + ", " + g + ", " + p + ")", glue.mourner(k, g, p), model.mourner(k, g, p));
            }
            case 1: {
                int load = below(random.nextBoolean() ? 100 : 30);
                return is("joint(" + load + ")", glue.joint(load), model.joint(load));
            }
            case 2: {
                int set = below(1 << many(1));
                int lease = random.nextBoolean() ? later() : below(100);
                return is("piece(" + set + ", " + lease + ")", glue.piece(set, lease), model.piece(set, lease));
            }
            case 3:
            case 4: {
                int what = below(2);
                int d = random.nextBoolean() ? later() : below(100);
                int m = below(many(0));
                return is("feast(" + what + ", " + d + ", " + m + ")", glue.feast(what, d, m), model.feast(what, d, m));
            }
            case 5:
                return is("skip()", glue.skip(), model.skip());
            case 6:
            case 7:
            case 8: {
                int j = below(many(1));
                int a = below(many(0));
                int b = random.nextBoolean() ? -1 : below(many(0));
                return is("boil(" + j + ", " + a + ", " + b + ")", glue.boil(j, a, b), model.boil(j, a, b));
            }
            case 9: {
                int d = random.nextInt(6) == 0 ? below(100) : many(5) + below(4);
                return is("day(" + d + ")", glue.day(d), model.day(d));
            }
            case 10:
                return is("undo()", glue.undo(), model.undo());
            case 11: {
                long v = random.nextLong();
                int n = below(9);
                return is("type(" + v + ", " + n + ")", glue.type(v, n), model.type(v, n));
            }
            case 12:
                return random.nextInt(3) == 0 ? is("clear()", glue.clear(), model.clear()) : typeAndRead(anyShop());
            case 14:
                return typeAndRead(closeShop());
            case 13:
                return is("read()", glue.read(), model.read());
            default:
                return askOne();
        }
    }

    private String askOne() {
        switch (random.nextInt(18)) {
            case 0: {
                int m = below(many(0));
                int d = below(100);
                return is("grief(" + m + ", " + d + ")", glue.grief(m, d), model.grief(m, d));
            }
            case 1: {
                int j = below(many(1));
                return is("opens(" + j + ")", glue.opens(j), model.opens(j));
            }
            case 2: {
                int p = below(many(2));
                return is("lasts(" + p + ")", glue.lasts(p), model.lasts(p));
            }
            case 3:
                return is("open()", glue.open(), model.open());
            case 4: {
                int what = below(2);
                return is("hire(" + what + ")", glue.hire(what), model.hire(what));
            }
            case 5: {
                int j = below(many(1));
                return is("who(" + j + ")", glue.who(j), model.who(j));
            }
            case 6: {
                int m = below(many(0));
                return is("saves(" + m + ")", glue.saves(m), model.saves(m));
            }
            case 7: {
                int m = below(many(0));
                int load = below(random.nextBoolean() ? 100 : 20);
                int d = random.nextBoolean() ? later() : below(100);
                return is("tears(" + m + ", " + load + ", " + d + ")", glue.tears(m, load, d), model.tears(m, load, d));
            }
            case 8: {
                int load = below(100);
                int boiled = below(100);
                int opened = random.nextBoolean() ? 100 : boiled + below(40);
                String call = "fact(" + load + ", " + boiled + ", " + opened + ")";
                return is(call, glue.fact(load, boiled, opened), model.fact(load, boiled, opened));
            }
            case 9:
                return is("forget()", glue.forget(), model.forget());
            case 10: {
                int kind = below(6);
                int what = below(3);
                return is("likely(" + kind + ", " + what + ")", glue.likely(kind, what), model.likely(kind, what));
            }
            case 11: {
                int m = below(many(0));
                int load = below(random.nextBoolean() ? 100 : 12);
                int n = random.nextInt(40) == 0 ? below(16) : below(8);
                int p = below(11);
                String call = "odds(" + m + ", " + load + ", " + n + ", " + p + ")";
                return is(call, glue.odds(m, load, n, p), model.odds(m, load, n, p));
            }
            case 12: {
                int f = below(many(3));
                return is("harm(" + f + ")", glue.harm(f), model.harm(f));
            }
            case 13: {
                int what = below(2);
                return is("part(" + what + ")", glue.part(what), model.part(what));
            }
            case 14: {
                int i = below(2);
                return is("image(" + i + ")", glue.image(i), model.image(i));
            }
            case 15: {
                int i = below(2);
                return is("from(" + i + ")", glue.from(i), model.from(i));
            }
            case 16: {
                int what = below(3);
                return is("status(" + what + ")", glue.status(what), model.status(what));
            }
            default: {
                int what = below(8);
                return is("count(" + what + ")", glue.count(what), model.count(what));
            }
        }
    }

    /** A shop where one alone often does not do, and two do: griefs near the loads, onions soon. */
    private String closeShop() {
        StringBuilder told = new StringBuilder();
        int mourners = 3 + random.nextInt(4);
        for (int m = 0; m < mourners; m++) {
            told.append("mourner ").append(random.nextInt(6)).append(' ').append(35 + random.nextInt(35));
            told.append(' ').append(random.nextInt(9)).append(';');
        }
        for (int i = 0; i < 7; i++) {
            told.append("onion ").append(1 + random.nextInt(3)).append(' ').append(random.nextInt(mourners)).append(';');
        }
        told.append("joint ").append(42 + random.nextInt(12)).append(";joint ").append(42 + random.nextInt(12)).append(';');
        told.append("piece ").append(1 + random.nextInt(3)).append(' ').append(2 + random.nextInt(6)).append(';');
        told.append("piece ").append(1 + random.nextInt(3)).append(' ').append(2 + random.nextInt(6)).append(';');
        return told.toString();
    }

    /** A shop's text, often with a fault. */
    private String anyShop() {
        StringBuilder told = new StringBuilder();
        int items = random.nextInt(24);
        int mourners = 0;
        int joints = 0;
        int day = 0;
        for (int i = 0; i < items; i++) {
            switch (random.nextInt(8)) {
                case 0:
                case 1:
                    told.append("mourner ").append(random.nextInt(6)).append(' ').append(random.nextInt(100));
                    told.append(' ').append(random.nextInt(10)).append(';');
                    mourners++;
                    break;
                case 2:
                    told.append("joint ").append(random.nextInt(60)).append(';');
                    joints++;
                    break;
                case 3:
                    if (joints > 0) {
                        told.append("piece ").append(1 + random.nextInt((1 << Math.min(joints, 6)) - 1));
                        told.append(' ').append(random.nextInt(30)).append(';');
                    }
                    break;
                case 4:
                case 5:
                    if (mourners > 0) {
                        told.append(random.nextBoolean() ? "wedding " : "onion ").append(1 + random.nextInt(30));
                        told.append(' ').append(random.nextInt(Math.min(mourners, 6))).append(';');
                    }
                    break;
                case 6:
                    if (mourners > 0 && joints > 0) {
                        told.append("boil ").append(random.nextInt(Math.min(joints, 6)));
                        told.append(' ').append(random.nextInt(Math.min(mourners, 6)));
                        if (random.nextBoolean()) {
                            told.append(' ').append(random.nextInt(Math.min(mourners, 6)));
                        }
                        told.append(';');
                    }
                    break;
                default:
                    day = Math.min(99, day + random.nextInt(4));
                    told.append("day ").append(day).append(random.nextInt(30) == 0 ? "" : " ").append(';');
            }
        }
        if (random.nextInt(3) == 0 && told.length() > 0) {
            int place = random.nextInt(told.length());
            int end = Math.min(told.length(), place + random.nextInt(3));
            told.replace(place, end, ODD[random.nextInt(ODD.length)]);
        }
        return told.substring(0, Math.min(told.length(), random.nextInt(5) == 0 ? random.nextInt(251) : 250));
    }

    private String typeAndRead(String text) {
        if (random.nextInt(5) != 0) {
            glue.clear();
            model.clear();
        }
        for (int start = 0; start < text.length(); start += 8) {
            int end = Math.min(text.length(), start + 8);
            long v = random.nextLong();
            for (int i = start; i < end; i++) {
                v = v << 8 | text.charAt(i);
            }
            glue.type(v, end - start);
            model.type(v, end - start);
        }
        return is("read() of <" + text + ">", glue.read(), model.read());
    }
}
