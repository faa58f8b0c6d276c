import java.lang.reflect.InvocationTargetException;
import java.lang.reflect.Method;
import java.util.Random;

/** Made-up runs of 512 calls on one object, with Model as the judge; the seed is fixed. */
public final class RunsTest extends Checks {
    private static final int RUNS = 1500;
    private static final int CALLS = 512;
    private static final String SIGNS = "AAAABQgwEI9z+/-_===\r\n!";

    /** Each call with what it takes: a row, a place, a count, how many of eight, bytes, a kind, whether filled. */
    private static final String[] CALLS_OF_THE_FACE = {
        "add rb", "addMore rmbbbbbbbb", "put rpb", "insert rpb", "remove rpc", "length r", "get rp", "copy rr",
        "isLike rr", "write rrkf", "writeText rrkf", "read rrk", "look rk", "letters rk", "isWritten rk", "plain rk",
        "letterShare rk", "growth rk", "checksum ", "isTrue ",
    };

    private static final int ADD_MORE = 1;

    private static final class Face {
        private final Method ofLoom;
        private final Method ofModel;
        private final String takes;

        Face(String call) {
            String name = call.substring(0, call.indexOf(' '));
            takes = call.substring(name.length() + 1);
            Class<?>[] types = new Class<?>[takes.length()];
            for (int i = 0; i < types.length; i++) {
                types[i] = takes.charAt(i) == 'f' ? boolean.class : int.class;
            }
            try {
                ofLoom = Letterloom.class.getMethod(name, types);
                ofModel = Model.class.getDeclaredMethod(name, types);
            } catch (NoSuchMethodException e) {
                throw new IllegalStateException(e);
            }
        }
    }

    private static int below(Random random, int end) {
        return random.nextInt(end);
    }

    private static int farOut(Random random) {
        int[] all = {-1, -2, Integer.MIN_VALUE, Integer.MAX_VALUE, 3, 6, 9, 256, 320, 321};
        return all[below(random, all.length)];
    }

    private static Object madeUp(Random random, char what, int length) {
        if (what == 'f') {
            return random.nextBoolean();
        }
        if (below(random, 100) == 0) {
            return farOut(random);
        }
        switch (what) {
            case 'r':
                return below(random, 6);
            case 'k':
                return below(random, 3);
            case 'm':
                return 1 + below(random, 8);
            case 'p':
                return below(random, 8) == 0 ? length : below(random, length + 1);
            case 'c':
                return below(random, 20) == 0 ? below(random, length + 1) : below(random, 3);
            default:
                return below(random, 5) == 0 ? below(random, 256) : SIGNS.charAt(below(random, SIGNS.length()));
        }
    }

    private static Object[] madeUp(Random random, String takes, Model model) {
        Object[] given = new Object[takes.length()];
        int length = 0;
        for (int i = 0; i < given.length; i++) {
            Object one = madeUp(random, takes.charAt(i), length);
            given[i] = one instanceof Character ? (int) (char) one : one;
            if (i == 0 && one instanceof Integer && (int) one >= 0 && (int) one < 6) {
                length = model.length((int) one);
            }
        }
        return given;
    }

    private static Object answer(Method method, Object x, Object[] given) {
        try {
            return method.invoke(x, given);
        } catch (InvocationTargetException e) {
            return e.getCause().getClass().getSimpleName();
        } catch (IllegalAccessException e) {
            return "cannot be called";
        }
    }

    private static int[] weights(Random random) {
        int[] weights = new int[CALLS_OF_THE_FACE.length];
        for (int i = 0; i < weights.length; i++) {
            weights[i] = below(random, 3) == 0 ? 10 : 1;
        }
        return weights;
    }

    private static int pick(Random random, int[] weights) {
        int all = 0;
        for (int weight : weights) {
            all += weight;
        }
        int left = below(random, all);
        int picked = 0;
        while (left >= weights[picked]) {
            left -= weights[picked];
            picked++;
        }
        return picked;
    }

    private static void same(Face face, Letterloom x, Model model, Object... given) {
        Object want = answer(face.ofModel, model, given);
        due(want, () -> answer(face.ofLoom, x, given));
        due(model.checksum(), () -> x.checksum());
    }

    /** Rows that are full or nearly so would come up too seldom by themselves. Answers how many calls that took. */
    private static int beginNearlyFull(Random random, Face addMore, Letterloom x, Model model) {
        int made = 0;
        for (int row = below(random, 3); row < 3; row++) {
            int often = 38 + below(random, 3);
            boolean isOfLetters = random.nextBoolean();
            for (int i = 0; i < often; i++) {
                Object[] given = new Object[10];
                given[0] = row;
                given[1] = 8;
                for (int k = 2; k < given.length; k++) {
                    given[k] = isOfLetters ? (int) 'A' : below(random, 256);
                }
                same(addMore, x, model, given);
                made += 2;
            }
        }
        return made;
    }

    private static void run(Random random, Face[] faces) {
        Letterloom x = new Letterloom();
        Model model = new Model();
        int[] weights = weights(random);
        int made = random.nextBoolean() ? beginNearlyFull(random, faces[ADD_MORE], x, model) : 0;
        while (made < CALLS) {
            Face face = faces[pick(random, weights)];
            same(face, x, model, madeUp(random, face.takes, model));
            made += 2;
        }
    }

    static void runs() {
        sentence("What it is: An object is used for at most 512 calls after it has been made");
        Face[] faces = new Face[CALLS_OF_THE_FACE.length];
        for (int i = 0; i < faces.length; i++) {
            faces[i] = new Face(CALLS_OF_THE_FACE[i]);
        }
        Random random = new Random(20261118);
        for (int i = 0; i < RUNS; i++) {
            run(random, faces);
        }
    }

    public static void main(String[] args) {
        runAll(RunsTest.class);
    }
}
