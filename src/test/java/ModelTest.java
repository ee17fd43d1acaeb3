import java.util.ArrayList;
import java.util.List;
import java.util.Random;

/** Long runs of calls, the same ones on each landing, on the class and on the model: all answers must agree. */
public final class ModelTest {
    private static final int CALLS_OF_A_RUN = 512;
    private static final int RUNS = 4000;
    private static final Checks CHECKS = new Checks();

    /** A call by its name; how many of its arguments count depends on the name. */
    private record Call(String name, int a, int b, int c) {
        @Override
        public String toString() {
            return name + "(" + a + ", " + b + ", " + c + ")";
        }
    }

    /** How a run looks: how large it grows, and how often its arguments are wrong. */
    private record Kind(int fill, int wrongInHundred, int workInHundred) {
    }

    private static final Kind[] KINDS = {
        new Kind(2, 10, 60), new Kind(6, 5, 60), new Kind(12, 5, 50), new Kind(25, 3, 60),
        new Kind(45, 2, 70), new Kind(60, 3, 70), new Kind(60, 0, 90), new Kind(10, 40, 70),
    };

    private static final String[] WORK = {
        "insert", "remove", "get", "set", "reverse", "raise", "sum", "least", "cut", "paste", "point", "follow", "move",
    };

    private static final String[] LOOKS = {
        "lastSteps", "lastRotations", "steps", "splays", "potential", "size", "clipped", "root", "height", "depth",
        "subtree", "child", "whereIs", "plain", "plainSum",
    };

    public static void main(String[] args) {
        for (int run = 0; run < RUNS; run++) {
            if (!agrees(run, new Random(run), KINDS[run % KINDS.length])) {
                break;
            }
        }
        CHECKS.end("ModelTest");
    }

    private static boolean agrees(int run, Random random, Kind kind) {
        SplaySequence x = new SplaySequence();
        Model model = new Model();
        List<String> told = new ArrayList<>();
        for (int made = 0; made < CALLS_OF_A_RUN; made++) {
            Call call = next(random, kind, model, made);
            String due = due(model, call);
            String got = got(x, call);
            told.add(call + " -> " + got);
            if (!got.equals(due)) {
                System.out.println("run " + run + ":\n" + String.join("\n", told) + "\nmodel: " + model);
                CHECKS.isText(0, "run " + run + ", call " + made + ", " + call, got, due);
                return false;
            }
        }
        CHECKS.is(0, "the answers of run " + run, told.size(), CALLS_OF_A_RUN);
        return true;
    }

    private static Call next(Random random, Kind kind, Model model, int made) {
        int size = model.size();
        boolean growing = made < kind.fill || size + model.clipped() < kind.fill && random.nextInt(4) == 0;
        if (growing) {
            int end = random.nextBoolean() ? size : random.nextInt(size + 1);
            return new Call("insert", end, random.nextInt(2001) - 1000, 0);
        }
        boolean work = random.nextInt(100) < kind.workInHundred;
        String name = work ? WORK[random.nextInt(WORK.length)] : LOOKS[random.nextInt(LOOKS.length)];
        if (random.nextInt(100) < kind.wrongInHundred) {
            return new Call(name, odd(random, size), odd(random, size), odd(random, size));
        }
        return plausible(random, name, size);
    }

    private static int odd(Random random, int size) {
        int[] edges = {-1, 0, 1, 3, 4, size - 1, size, size + 1, -1000, 1000, -1001, 1001, 60, 61,
            Integer.MIN_VALUE, Integer.MAX_VALUE, -size, 2, 5};
        return edges[random.nextInt(edges.length)];
    }

    private static Call plausible(Random random, String name, int size) {
        int one = random.nextInt(size + 1);
        int other = random.nextInt(size + 1);
        int from = Math.min(one, other);
        int to = Math.max(one, other);
        int amount = random.nextInt(2001) - 1000;
        switch (name) {
            case "insert":
                return new Call(name, one, amount, 0);
            case "set":
                return new Call(name, random.nextInt(Math.max(1, size)), amount, 0);
            case "reverse", "raise", "sum", "least", "cut", "plainSum":
                return new Call(name, from, to, amount);
            case "point":
                return new Call(name, random.nextInt(4), random.nextInt(Math.max(1, size)), 0);
            case "follow", "whereIs":
                return new Call(name, random.nextInt(4), 0, 0);
            case "move":
                return new Call(name, random.nextInt(4), random.nextInt(size + 3) - (size + 2) / 2, 0);
            case "paste":
                return new Call(name, one, 0, 0);
            default:
                return new Call(name, random.nextInt(Math.max(1, size)), random.nextInt(2), 0);
        }
    }

    private static String got(SplaySequence x, Call call) {
        return Checks.outcome(x, y -> onClass(y, call));
    }

    private static int onClass(SplaySequence x, Call call) {
        int a = call.a;
        int b = call.b;
        return switch (call.name) {
            case "insert" -> x.insert(a, b);
            case "remove" -> x.remove(a);
            case "get" -> x.get(a);
            case "set" -> x.set(a, b);
            case "reverse" -> x.reverse(a, b);
            case "raise" -> x.raise(a, b, call.c);
            case "sum" -> x.sum(a, b);
            case "least" -> x.least(a, b);
            case "cut" -> x.cut(a, b);
            case "paste" -> x.paste(a);
            case "point" -> x.point(a, b);
            case "follow" -> x.follow(a);
            case "move" -> x.move(a, b);
            case "lastSteps" -> x.lastSteps();
            case "lastRotations" -> x.lastRotations();
            case "steps" -> x.steps();
            case "splays" -> x.splays();
            case "potential" -> x.potential();
            case "size" -> x.size();
            case "clipped" -> x.clipped();
            case "root" -> x.root();
            case "height" -> x.height();
            case "depth" -> x.depth(a);
            case "subtree" -> x.subtree(a);
            case "child" -> x.child(a, b == 1);
            case "whereIs" -> x.whereIs(a);
            case "plain" -> x.plain(a);
            case "plainSum" -> x.plainSum(a, b);
            default -> throw new UnsupportedOperationException(call.name);
        };
    }

    private static String due(Model model, Call call) {
        try {
            return Integer.toString(onModel(model, call));
        } catch (IndexOutOfBoundsException e) {
            return "throws.IndexOutOfBoundsException";
        } catch (IllegalArgumentException e) {
            return "throws.IllegalArgumentException";
        } catch (IllegalStateException e) {
            return "throws.IllegalStateException";
        }
    }

    private static int onModel(Model model, Call call) {
        int a = call.a;
        int b = call.b;
        return switch (call.name) {
            case "insert" -> model.insert(a, b);
            case "remove" -> model.remove(a);
            case "get" -> model.get(a);
            case "set" -> model.set(a, b);
            case "reverse" -> model.reverse(a, b);
            case "raise" -> model.raise(a, b, call.c);
            case "sum" -> model.sum(a, b);
            case "least" -> model.least(a, b);
            case "cut" -> model.cut(a, b);
            case "paste" -> model.paste(a);
            case "point" -> model.point(a, b);
            case "follow" -> model.follow(a);
            case "move" -> model.move(a, b);
            case "lastSteps" -> model.lastSteps();
            case "lastRotations" -> model.lastRotations();
            case "steps" -> model.steps();
            case "splays" -> model.splays();
            case "potential" -> model.potential();
            case "size" -> model.size();
            case "clipped" -> model.clipped();
            case "root" -> model.root();
            case "height" -> model.height();
            case "depth" -> model.depth(a);
            case "subtree" -> model.subtree(a);
            case "child" -> model.child(a, b == 1);
            case "whereIs" -> model.whereIs(a);
            case "plain" -> model.plain(a);
            case "plainSum" -> model.plainSum(a, b);
            default -> throw new UnsupportedOperationException(call.name);
        };
    }
}
