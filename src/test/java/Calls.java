import java.lang.reflect.InvocationTargetException;
import java.lang.reflect.Method;
import java.util.ArrayList;
import java.util.List;

/** Calls told by their names, so that the same ones can be made on the class and on the model. */
final class Calls {
    private Calls() {
    }

    /** The answer of an object of GriefGlue or of Model to a call. */
    static long answer(Object on, String name, long... args) {
        for (Method method : on.getClass().getDeclaredMethods()) {
            if (method.getName().equals(name)) {
                return answerOf(on, method, args);
            }
        }
        throw new IllegalArgumentException("there is no call " + name);
    }

    private static long answerOf(Object on, Method method, long[] args) {
        Class<?>[] types = method.getParameterTypes();
        if (types.length != args.length) {
            throw new IllegalArgumentException(method + " takes " + types.length);
        }
        Object[] given = new Object[types.length];
        for (int i = 0; i < types.length; i++) {
            given[i] = args[i];
            if (types[i] == int.class) {
                given[i] = Math.toIntExact(args[i]);
            }
        }
        try {
            return ((Number) method.invoke(on, given)).longValue();
        } catch (IllegalAccessException | InvocationTargetException e) {
            throw new IllegalStateException(method + " threw", e);
        }
    }

    /** Makes calls told as "mourner 0 50 7, joint 5, text"; text stands for THE TEXT, typed anew. */
    static void run(Object on, String script, String text) {
        for (String told : script.split(",")) {
            String[] words = told.trim().split(" +");
            if (words[0].equals("text")) {
                type(on, text);
            } else if (!words[0].isEmpty()) {
                long[] args = new long[words.length - 1];
                for (int i = 0; i < args.length; i++) {
                    args[i] = Long.parseLong(words[i + 1]);
                }
                answer(on, words[0], args);
            }
        }
    }

    private static void type(Object on, String text) {
        answer(on, "clear");
        for (int start = 0; start < text.length(); start += 8) {
            int end = Math.min(start + 8, text.length());
            long v = 0;
            for (int i = start; i < end; i++) {
                v = v << 8 | text.charAt(i);
            }
            answer(on, "type", v, end - start);
        }
    }

    /**
     * All that an object tells, but STATUS: first by questions, then by calls that use it up (what may be undone,
     * the images, the text). Some 250 calls.
     */
    static List<Long> allTold(GriefGlue x) {
        List<Long> told = new ArrayList<>();
        told.add(x.digest());
        told.add(x.part(0));
        told.add(x.part(1));
        told.add((long) x.open());
        for (int i = 0; i < 6; i++) {
            for (int day : new int[] {0, 1, 7, 20, 21, 50, 99}) {
                told.add((long) x.grief(i, day));
            }
            told.add((long) x.opens(i));
            told.add((long) x.lasts(i));
            told.add((long) x.who(i));
            told.add((long) x.saves(i));
            told.add((long) x.tears(i, 5, 99));
            told.add((long) x.likely(i, 0));
        }
        for (int i = 0; i < 10; i++) {
            told.add((long) x.harm(i));
        }
        told.add((long) x.hire(0));
        told.add((long) x.hire(1));
        addUndone(told, x);
        for (int i = 0; i < 2; i++) {
            told.add((long) x.from(i));
            told.add((long) x.grief(0, 99));
            addUndone(told, x);
        }
        told.add((long) x.read());
        told.add(x.digest());
        told.add((long) x.grief(0, 99));
        return told;
    }

    private static void addUndone(List<Long> told, GriefGlue x) {
        told.add(x.digest());
        for (int i = 0; i < 11; i++) {
            told.add((long) x.undo());
            told.add(x.digest());
        }
    }
}
