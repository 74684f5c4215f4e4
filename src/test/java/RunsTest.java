import java.lang.reflect.Method;
import java.util.Arrays;
import java.util.HashMap;
import java.util.Map;
import java.util.Random;

/** Runs of calls made by a told seed, answered by the program and by the slow model: all promises together. */
public final class RunsTest {
    /** An object is used for 512 calls at most; a turn makes at most as many as a text has codes, and some more. */
    private static final int RUNS = 400, MOST_CALLS = 512, MOST_OF_A_TURN = 100;
    private static final Check check = new Check("RunsTest");
    private static final Map<String, Method> ofProgram = methods(MarbleVotes.class);
    private static final Map<String, Method> ofModel = methods(Model.class);

    private final Random random;
    private final MarbleVotes program = new MarbleVotes();
    private final Model model = new Model();
    private final StringBuilder calls = new StringBuilder();
    private int called = 0;

    private RunsTest(int seed) {
        random = new Random(seed);
    }

    public static void main(String[] args) throws ReflectiveOperationException {
        int runs = args.length > 0 ? Integer.parseInt(args[0]) : RUNS;
        for (int seed = 0; seed < runs; seed++) {
            new RunsTest(seed).run();
        }
        check.end();
    }

    private static Map<String, Method> methods(Class<?> of) {
        Map<String, Method> all = new HashMap<>();
        for (Method method : of.getDeclaredMethods()) {
            if (java.lang.reflect.Modifier.isPublic(method.getModifiers())) {
                all.put(method.getName(), method);
            }
        }
        return all;
    }

    private void run() throws ReflectiveOperationException {
        if (random.nextInt(10) > 0) {
            writeHill();
        }
        while (called < MOST_CALLS - MOST_OF_A_TURN) {
            turn();
        }
        check.holds("a run keeps to what an object is used for", called <= MOST_CALLS);
    }

    private long same(String name, Object... args) throws ReflectiveOperationException {
        called++;
        String call = name + Arrays.toString(args);
        calls.append(call).append(' ');
        long got = ((Number) ofProgram.get(name).invoke(program, args)).longValue();
        long want = ((Number) ofModel.get(name).invoke(model, args)).longValue();
        if (got != want) {
            System.out.println(calls);
        }
        check.due(call, got, want);
        return got;
    }

    /** Mostly one of 0 .. many - 1, now and then one beside them or far off. */
    private int about(int many) {
        int dice = random.nextInt(40);
        if (dice < 37 && many > 0) {
            return random.nextInt(many);
        }
        int[] off = {-1, many, -2, many + 1, Integer.MAX_VALUE, Integer.MIN_VALUE};
        return off[random.nextInt(off.length)];
    }

    private int aVote() {
        return about(model.many(2));
    }

    private void write(int k, int lane, int[] row) throws ReflectiveOperationException {
        same("sheet", k, lane, row.length);
        for (int i = 0; i < row.length; i++) {
            same("put", k, i, row[i]);
        }
    }

    private char sign() {
        return ".pppplr#".charAt(random.nextInt(8));
    }

    private void writeHill() throws ReflectiveOperationException {
        int high = 1 + random.nextInt(5);
        int wide = 2 + random.nextInt(5);
        StringBuilder text = new StringBuilder("m").append(high).append(wide);
        int parties = 1 + random.nextInt(4);
        for (int t = 0; t < wide; t++) {
            text.append(random.nextInt(parties));
        }
        for (int row = 0; row < high; row++) {
            text.append(';');
            for (int column = 0; column < wide; column++) {
                text.append(sign());
            }
        }
        if (random.nextInt(4) == 0) {
            text.setCharAt(random.nextInt(text.length()), "m;.x0123456789p#".charAt(random.nextInt(16)));
        }
        int lane = random.nextInt(3);
        int k = random.nextInt(4);
        int ahead = random.nextInt(4);
        write(k, lane, (" ".repeat(ahead) + text + "zz").chars().toArray());
        int n = text.length() + (random.nextInt(4) == 0 ? about(5) - 3 : 0);
        same("hill", k, lane, ahead, n);
        same("hill", k, lane, ahead, text.length());
        for (int votes = random.nextInt(10); votes > 0; votes--) {
            same("vote", about(3), about(wide));
        }
    }

    private void roll() throws ReflectiveOperationException {
        int lane = random.nextInt(3);
        int k = random.nextInt(4);
        int[] row = new int[random.nextInt(10)];
        for (int i = 0; i < row.length; i++) {
            row[i] = about(8);
        }
        write(k, lane, row);
        for (int v = 0; v < model.many(2); v++) {
            same("roll", v, k, lane, about(row.length + 1));
        }
        same("roll", aVote(), about(4), about(3), about(5));
    }

    private void count() throws ReflectiveOperationException {
        int lane = random.nextInt(3);
        int k = random.nextInt(4);
        int wide = Math.max(1, model.many(1));
        int[] row = new int[wide + 1 + random.nextInt(4)];
        for (int v = 0; v < model.many(2); v++) {
            int end = model.likeliest(v);
            boolean likely = random.nextInt(3) == 0;
            row[!likely ? random.nextInt(wide + 1) : end < 0 ? wide : end]++;
        }
        if (random.nextInt(5) == 0) {
            row[random.nextInt(wide + 1)] += about(3) - 1;
        }
        write(k, lane, row);
        for (int v = -1; v < model.many(2); v++) {
            same("ways", v, k, lane, 0);
        }
        same("ways", about(model.many(2) + 1) - 1, about(4), about(3), about(5));
    }

    private void turn() throws ReflectiveOperationException {
        switch (random.nextInt(32)) {
            case 0: writeHill(); break;
            case 1: roll(); break;
            case 2: if (random.nextInt(4) == 0) { count(); } break;
            case 3: same("sign", about(model.many(0))); break;
            case 4: case 5: same("set", about(model.many(0)), about(5)); break;
            case 6: same("party", about(model.many(1))); break;
            case 7: same("wet", random.nextBoolean()); break;
            case 8: case 9: same("vote", about(3), about(model.many(1))); break;
            case 10: same("ofVote", aVote(), about(4)); break;
            case 11: if (random.nextInt(3) == 0) { same("back", about(3)); } break;
            case 12: chances(); break;
            case 13: same("expects", about(4), about(2)); break;
            case 14: same("start", aVote(), about(4)); break;
            case 15: same("move", about(4)); break;
            case 16: same("answer", about(4), about(4)); break;
            case 17: same("likeliest", aVote()); break;
            case 18: same("tally", about(4)); break;
            case 19: same("winner", about(2)); break;
            case 20: if (model.damsNow() < 9) { same("dams", about(2)); } break;
            case 21: same("fair"); break;
            case 22: same("sheet", about(4), about(3), about(61)); break;
            case 23: same("lose", about(4)); break;
            case 24: same("put", about(4), about(30), random.nextInt()); break;
            case 25: same("cell", about(4), about(30), about(3)); break;
            case 26: same("copy", about(4), about(20), about(4), about(20), about(20)); break;
            case 27: same("tell", aVote()); break;
            case 28: same("weigh", aVote()); break;
            case 29: same("as", aVote(), about(3)); break;
            case 30: same("trace"); break;
            default: same("many", about(4)); break;
        }
        same("fault");
    }

    private void chances() throws ReflectiveOperationException {
        int v = aVote();
        for (int t = -2; t <= model.many(1); t++) {
            same("chance", v, t, 0);
            same("chance", v, t, 1);
        }
        same("chance", v, 0, about(2));
    }
}
