import java.lang.reflect.Method;
import java.util.ArrayList;
import java.util.Arrays;
import java.util.List;

/**
 * Of each call its refusals and FAULTS, each alone and any two at once, in the order in which the call's line
 * tells them: what it answers, what fault() tells behind it, and that nothing else is changed. All promises.
 */
public final class RefusalsTest {
    private static final int UNKNOWN = -1, OUTSIDE = -2, STATE = -3, FULL = -4;
    private static final int LOW = Integer.MIN_VALUE, HIGH = Integer.MAX_VALUE;
    private static final int NULL = 1, CAST = 2, INDEX = 3, SIZE = 4;
    private static final int AS_IT_WAS = -1;
    /** Stands for the place of an argument where it is no argument that is wrong. */
    private static final int WORLD = -1;
    private static final List<String> NAME_FAULTS =
        List.of("hill", "roll", "ways", "sheet", "put", "cell", "copy", "as");

    private static final Check check = new Check("RefusalsTest");

    private enum World { WITHOUT_HILL, USUAL, FULL }

    /** What a call is spoilt by, what it answers then, and what fault() tells then. */
    private record Wrong(World world, int argument, int value, long answer, int fault) {
        /** Whether a call can be spoilt by both. */
        boolean goesWith(Wrong other) {
            return argument != other.argument;
        }
    }

    public static void main(String[] args) throws ReflectiveOperationException {
        linesOfTheHill();
        linesOfRolls();
        linesOfMoves();
        linesOfWinners();
        linesOfCounts();
        linesOfSheets();
        linesOfParts();
        check.end();
    }

    /** The hill that it has is another one than its text tells, by cell 1; sheet 3 has nothing. */
    private static MarbleVotes made(World world) {
        MarbleVotes x = new MarbleVotes();
        Hills.writeText(x, 0, Hills.SHORTS, "m23012;p.p;ppp");
        Hills.write(x, 1, Hills.BYTES, 3, 5, 8, 2, -1, 6, 8, 1);
        Hills.write(x, 2, Hills.INTS, 1, 1, 1, 0, 70001);
        if (world == World.WITHOUT_HILL) {
            return x;
        }
        x.hill(0, Hills.SHORTS, 0, 14);
        x.set(1, 1);
        x.wet(true);
        for (int v = 0; v < (world == World.FULL ? 8 : 3); v++) {
            x.vote(v % 3, (v + 1) % 3);
        }
        x.tell(2);
        return x;
    }

    /** One call: its name and what it is called with if nothing is wrong; then what can be, in its line's order. */
    private static final class Line {
        private final Method call;
        private final int[] well;
        private final List<Wrong> wrongs = new ArrayList<>();

        Line(String name, int... well) {
            call = Arrays.stream(MarbleVotes.class.getDeclaredMethods())
                .filter(method -> method.getName().equals(name)).findAny().orElseThrow();
            this.well = well;
        }

        private boolean namesFaults() {
            return NAME_FAULTS.contains(call.getName());
        }

        private boolean isLong() {
            return call.getReturnType() == long.class;
        }

        private Line add(World world, int argument, long answer, int fault, int... values) {
            for (int value : values) {
                wrongs.add(new Wrong(world, argument, value, isLong() ? MarbleVotes.LOST : answer,
                    namesFaults() ? fault : AS_IT_WAS));
            }
            return this;
        }

        Line refused(int answer, int argument, int... values) {
            return add(World.USUAL, argument, answer, 0, values);
        }

        Line refusedIn(World world, int answer) {
            return add(world, WORLD, answer, 0, 0);
        }

        Line failed(int fault, int argument, int... values) {
            return add(World.USUAL, argument, -10 - fault, fault, values);
        }

        /** It answers well, and changes nothing. */
        Line asks(long answer) throws ReflectiveOperationException {
            tried(World.USUAL, well, well(answer), true);
            return this;
        }

        /** It answers well; what it changes is told by other tests. */
        Line does(long answer) throws ReflectiveOperationException {
            tried(World.USUAL, well, well(answer), false);
            return this;
        }

        private Wrong well(long answer) {
            return new Wrong(World.USUAL, WORLD, 0, answer, namesFaults() ? 0 : AS_IT_WAS);
        }

        void tryAll() throws ReflectiveOperationException {
            for (int first = 0; first < wrongs.size(); first++) {
                spoilt(wrongs.get(first), wrongs.get(first));
                for (int second = first + 1; second < wrongs.size(); second++) {
                    if (wrongs.get(first).goesWith(wrongs.get(second))) {
                        spoilt(wrongs.get(first), wrongs.get(second));
                    }
                }
            }
        }

        private void spoilt(Wrong first, Wrong second) throws ReflectiveOperationException {
            int[] with = well.clone();
            World world = World.USUAL;
            for (Wrong wrong : List.of(first, second)) {
                if (wrong.argument == WORLD) {
                    world = wrong.world;
                } else {
                    with[wrong.argument] = wrong.value;
                }
            }
            tried(world, with, first, true);
        }

        /** A fault that is not the one that is due is there ahead of it. */
        private void tried(World world, int[] with, Wrong due, boolean changesNothing)
            throws ReflectiveOperationException {
            MarbleVotes x = made(world);
            int ahead = due.fault == NULL ? SIZE : NULL;
            check.due("the fault ahead", ahead == NULL ? x.put(3, 0, 0) : x.sheet(0, 0, -1), -10 - ahead);
            Object[] arguments = new Object[with.length];
            for (int k = 0; k < with.length; k++) {
                boolean isFlag = call.getParameterTypes()[k] == boolean.class;
                arguments[k] = isFlag ? (Object) (with[k] != 0) : (Object) with[k];
            }
            String told = call.getName() + Arrays.toString(with) + " in " + world;
            check.due(told, ((Number) call.invoke(x, arguments)).longValue(), due.answer);
            check.due("fault() behind " + told, x.fault(), due.fault == AS_IT_WAS ? ahead : due.fault);
            if (changesNothing) {
                check.holds(told + " changes nothing", State.of(x).equals(State.of(made(world))));
            }
        }
    }

    private static void linesOfTheHill() throws ReflectiveOperationException {
        // Nothing is no CAST: so NULL is ahead of it wherever both could be.
        new Line("hill", 0, Hills.SHORTS, 0, 14).does(6)
            .refused(UNKNOWN, 0, -1, 4, LOW, HIGH).refused(OUTSIDE, 1, -1, 3, LOW, HIGH)
            .failed(NULL, 0, 3).failed(CAST, 1, Hills.BYTES, Hills.INTS)
            .failed(SIZE, 3, -1, LOW).failed(INDEX, 2, -1, 15, LOW, HIGH).failed(INDEX, 3, 15, HIGH)
            .refused(-100, 3, 0).refused(-101, 3, 1).refused(-113, 3, 13).tryAll();
        new Line("hill", 2, Hills.INTS, 5, 0).asks(-100).failed(INDEX, 2, 6).tryAll();
        new Line("sign", 5).asks(1)
            .refused(UNKNOWN, 0, -1, 6, LOW, HIGH).refusedIn(World.WITHOUT_HILL, UNKNOWN).tryAll();
        new Line("set", 5, 4).does(1)
            .refused(UNKNOWN, 0, -1, 6, LOW, HIGH).refusedIn(World.WITHOUT_HILL, UNKNOWN)
            .refused(OUTSIDE, 1, -1, 5, LOW, HIGH).tryAll();
        new Line("set", 5, 1).asks(1);
        new Line("party", 2).asks(2)
            .refused(UNKNOWN, 0, -1, 3, LOW, HIGH).refusedIn(World.WITHOUT_HILL, UNKNOWN).tryAll();
        new Line("wet", 0).does(1).refusedIn(World.WITHOUT_HILL, STATE).tryAll();
        new Line("wet", 1).asks(0).refusedIn(World.WITHOUT_HILL, STATE).tryAll();
        new Line("vote", 2, 2).does(3)
            .refused(UNKNOWN, 1, -1, 3, LOW, HIGH)
            .refused(OUTSIDE, 0, -1, 3, LOW, HIGH).refusedIn(World.FULL, FULL).tryAll();
        new Line("vote", 2, 0)
            .refusedIn(World.WITHOUT_HILL, UNKNOWN).refused(OUTSIDE, 0, -1, 3, LOW, HIGH).tryAll();
        for (int what = 0; what < 4; what++) {
            new Line("ofVote", 1, what).asks(new int[] {1, 2, 3, 1}[what])
                .refused(UNKNOWN, 0, -1, 3, LOW, HIGH).refusedIn(World.WITHOUT_HILL, UNKNOWN)
                .refused(OUTSIDE, 1, -1, 4, LOW, HIGH).tryAll();
        }
        new Line("back", 0).asks(3).refused(OUTSIDE, 0, -1, 4, LOW, HIGH).tryAll();
        new Line("back", 3).does(0).refusedIn(World.WITHOUT_HILL, OUTSIDE).tryAll();
    }

    private static void linesOfRolls() throws ReflectiveOperationException {
        new Line("roll", 0, 1, Hills.BYTES, 0).asks(1)
            .refused(UNKNOWN, 0, -1, 3, LOW, HIGH).refusedIn(World.WITHOUT_HILL, UNKNOWN)
            .refused(UNKNOWN, 1, -1, 4, LOW, HIGH).refused(OUTSIDE, 2, -1, 3, LOW, HIGH)
            .failed(NULL, 1, 3).failed(CAST, 2, Hills.SHORTS, Hills.INTS)
            .failed(INDEX, 3, -1, 7, 8, 9, LOW, HIGH).refused(OUTSIDE, 3, 1, 2, 3, 4, 5, 6).tryAll();
        new Line("chance", 0, 1, 0).asks(15)
            .refused(UNKNOWN, 0, -1, 3, LOW, HIGH).refusedIn(World.WITHOUT_HILL, UNKNOWN)
            .refused(UNKNOWN, 1, -2, 3, LOW, HIGH).refused(OUTSIDE, 2, -1, 2, LOW, HIGH).tryAll();
        new Line("chance", 0, 1, 1).asks(32);
        new Line("chance", 0, -1, 1).asks(1).refusedIn(World.WITHOUT_HILL, UNKNOWN).tryAll();
        new Line("expects", 1, 0).asks(57)
            .refused(UNKNOWN, 0, -1, 4, LOW, HIGH).refused(OUTSIDE, 1, -1, 2, LOW, HIGH)
            .refusedIn(World.WITHOUT_HILL, STATE).tryAll();
        new Line("expects", 1, 1).asks(64);
    }

    private static void linesOfMoves() throws ReflectiveOperationException {
        new Line("start", 0, 1).asks(1)
            .refused(UNKNOWN, 0, -1, 3, LOW, HIGH).refusedIn(World.WITHOUT_HILL, UNKNOWN)
            .refused(UNKNOWN, 1, -1, 4, LOW, HIGH).tryAll();
        new Line("move", 1).asks(52)
            .refused(UNKNOWN, 0, -1, 4, LOW, HIGH).refusedIn(World.WITHOUT_HILL, STATE).tryAll();
        new Line("answer", 1, 2).asks(50)
            .refused(UNKNOWN, 0, -1, 4, LOW, HIGH).refused(UNKNOWN, 1, -1, 4, LOW, HIGH)
            .refused(OUTSIDE, 1, 1).refusedIn(World.WITHOUT_HILL, STATE).tryAll();
    }

    private static void linesOfWinners() throws ReflectiveOperationException {
        new Line("likeliest", 0).asks(1)
            .refused(UNKNOWN, 0, -1, 3, LOW, HIGH).refusedIn(World.WITHOUT_HILL, UNKNOWN).tryAll();
        new Line("tally", 0).asks(1)
            .refused(UNKNOWN, 0, -1, 4, LOW, HIGH).refusedIn(World.WITHOUT_HILL, STATE).tryAll();
        new Line("winner", 0).asks(0)
            .refused(OUTSIDE, 0, -1, 2, LOW, HIGH).refusedIn(World.WITHOUT_HILL, STATE).tryAll();
        new Line("winner", 1).asks(4).refusedIn(World.WITHOUT_HILL, STATE).tryAll();
        for (int what = 0; what < 2; what++) {
            new Line("dams", what).asks(0)
                .refused(OUTSIDE, 0, -1, 2, LOW, HIGH).refusedIn(World.WITHOUT_HILL, STATE).tryAll();
        }
    }

    private static void linesOfCounts() throws ReflectiveOperationException {
        new Line("ways", -1, 2, Hills.INTS, 0).asks(2)
            .refused(UNKNOWN, 0, -2, 3, LOW, HIGH).refused(UNKNOWN, 1, -1, 4, LOW, HIGH)
            .refused(OUTSIDE, 2, -1, 3, LOW, HIGH).refusedIn(World.WITHOUT_HILL, STATE)
            .failed(NULL, 1, 3).failed(CAST, 2, Hills.BYTES, Hills.SHORTS)
            .failed(INDEX, 3, -1, 2, 5, 6, LOW, HIGH).tryAll();
        new Line("ways", 0, 2, Hills.INTS, 0).asks(6)
            .refusedIn(World.WITHOUT_HILL, UNKNOWN).refused(UNKNOWN, 1, -1, 4)
            .refused(OUTSIDE, 2, -1, 3).failed(NULL, 1, 3).failed(CAST, 2, Hills.BYTES, Hills.SHORTS)
            .failed(INDEX, 3, -1, 2, 5, 6, LOW, HIGH).tryAll();
        new Line("fair").asks(0).refusedIn(World.WITHOUT_HILL, STATE).tryAll();
    }

    private static void linesOfSheets() throws ReflectiveOperationException {
        new Line("sheet", 0, Hills.SHORTS, 60).does(1)
            .refused(UNKNOWN, 0, -1, 4, LOW, HIGH).refused(OUTSIDE, 1, -1, 3, LOW, HIGH)
            .refused(OUTSIDE, 2, 61, HIGH).failed(SIZE, 2, -1, LOW).tryAll();
        new Line("sheet", 3, Hills.BYTES, 0).does(1).failed(SIZE, 2, -1).tryAll();
        new Line("lose", 0).does(1).refused(UNKNOWN, 0, -1, 4, LOW, HIGH).tryAll();
        new Line("lose", 3).asks(0);
        new Line("put", 2, 4, 77).does(1)
            .refused(UNKNOWN, 0, -1, 4, LOW, HIGH).failed(NULL, 0, 3).failed(INDEX, 1, -1, 5, LOW, HIGH).tryAll();
        new Line("cell", 2, 4, Hills.INTS).asks(70001)
            .refused(UNKNOWN, 0, -1, 4, LOW, HIGH).refused(OUTSIDE, 2, -1, 3, LOW, HIGH)
            .failed(NULL, 0, 3).failed(CAST, 2, Hills.BYTES, Hills.SHORTS).failed(INDEX, 1, -1, 5, LOW, HIGH).tryAll();
        new Line("copy", 2, 0, 2, 1, 4).does(4)
            .refused(UNKNOWN, 0, -1, 4, LOW, HIGH).refused(UNKNOWN, 2, -1, 4, LOW, HIGH)
            .failed(NULL, 0, 3).failed(NULL, 2, 3).failed(CAST, 0, 0).failed(CAST, 2, 1)
            .failed(INDEX, 1, -1, 2, 6, LOW, HIGH).failed(INDEX, 3, -1, 2, 6, LOW, HIGH)
            .failed(INDEX, 4, -1, 5, 6, LOW, HIGH).tryAll();
        new Line("copy", 2, 5, 2, 5, 0).asks(0)
            .failed(INDEX, 1, 6).failed(INDEX, 3, 6).failed(INDEX, 4, -1, 1, LOW, HIGH).tryAll();
        new Line("copy", 2, 3, 2, 3, 2).asks(2);
    }

    private static void linesOfParts() throws ReflectiveOperationException {
        new Line("tell", 0).does(1)
            .refused(UNKNOWN, 0, -1, 3, LOW, HIGH).refusedIn(World.WITHOUT_HILL, UNKNOWN).tryAll();
        new Line("weigh", 1).does(1)
            .refused(UNKNOWN, 0, -1, 3, LOW, HIGH).refusedIn(World.WITHOUT_HILL, UNKNOWN).tryAll();
        new Line("as", 1, 1).asks(1)
            .refused(UNKNOWN, 0, -1, 3, LOW, HIGH).refusedIn(World.WITHOUT_HILL, UNKNOWN)
            .refused(OUTSIDE, 1, -1, 3, LOW, HIGH).failed(CAST, 0, 0).failed(CAST, 1, 2).tryAll();
        new Line("trace").asks(((3 * 31 + 2) * 31 + 1) * 31 + 1);
        new Line("fault").asks(NULL);
        for (int what = 0; what < 4; what++) {
            new Line("many", what).asks(new int[] {6, 3, 3, 1}[what])
                .refused(OUTSIDE, 0, -1, 4, LOW, HIGH).tryAll();
        }
    }
}
