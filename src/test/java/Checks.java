/** Counts the checks of one test and prints those that are not as they are due. */
final class Checks {
    /** A call of the class, whose answer is a whole number. */
    interface Call {
        int answer(SplaySequence x);
    }

    /** Far more than any test takes; without it a call that does not end would tell nothing. */
    private static final long MOST_MILLISECONDS = 300_000;

    private int made = 0;
    private int wrong = 0;

    Checks() {
        Thread guard = new Thread(Checks::endLate);
        guard.setDaemon(true);
        guard.start();
    }

    private static void endLate() {
        try {
            Thread.sleep(MOST_MILLISECONDS);
        } catch (InterruptedException e) {
            return;
        }
        System.out.println("a call does not end");
        Runtime.getRuntime().halt(1);
    }

    void is(int promise, String what, long got, long due) {
        isText(promise, what, Long.toString(got), Long.toString(due));
    }

    void isText(int promise, String what, String got, String due) {
        made++;
        if (!got.equals(due)) {
            wrong++;
            System.out.println("promise " + promise + ": " + what + " answered " + got + ", due is " + due);
        }
    }

    /** Checks that a call throws just this exception, and that it changes nothing. */
    void fails(int promise, String what, Class<? extends RuntimeException> due, SplaySequence x, Call call) {
        String before = picture(x);
        isText(promise, what, outcome(x, call), "throws." + due.getSimpleName());
        isText(promise, "the state behind " + what, picture(x), before);
    }

    void failsPlace(int promise, String what, SplaySequence x, Call call) {
        fails(promise, what, IndexOutOfBoundsException.class, x, call);
    }

    void failsArgument(int promise, String what, SplaySequence x, Call call) {
        fails(promise, what, IllegalArgumentException.class, x, call);
    }

    void failsState(int promise, String what, SplaySequence x, Call call) {
        fails(promise, what, IllegalStateException.class, x, call);
    }

    /** Prints the count and ends the machine with exit code 1 if a check was wrong. */
    void end(String name) {
        System.out.println(name + ": " + made + " checks, " + wrong + " wrong");
        if (made == 0 || wrong > 0) {
            System.exit(1);
        }
    }

    static String outcome(SplaySequence x, Call call) {
        try {
            return Integer.toString(call.answer(x));
        } catch (RuntimeException e) {
            return "throws." + e.getClass().getSimpleName();
        }
    }

    /** What an object answers without being changed; of a long sequence only the first nodes, to keep it to few calls. */
    static String picture(SplaySequence x) {
        StringBuilder text = new StringBuilder();
        text.append("size ").append(x.size()).append(" clipped ").append(x.clipped());
        text.append(" root ").append(x.root()).append(" height ").append(x.height());
        text.append(" potential ").append(x.potential());
        text.append(" last ").append(x.lastSteps()).append('/').append(x.lastRotations());
        text.append(" steps ").append(x.steps()).append(" splays ").append(x.splays());
        text.append(" sum ").append(x.plainSum(0, x.size()));
        for (int finger = 0; finger < 4; finger++) {
            text.append(" finger ").append(x.whereIs(finger));
        }
        for (int at = 0; at < Math.min(x.size(), 6); at++) {
            text.append(" [").append(x.plain(at)).append(' ').append(x.depth(at)).append(' ').append(x.subtree(at));
            text.append(' ').append(x.child(at, false)).append(' ').append(x.child(at, true)).append(']');
        }
        return text.toString();
    }

    /** The tree of the sequence: each subtree as (left position right), an empty one as a dot. */
    static String shape(SplaySequence x) {
        StringBuilder text = new StringBuilder();
        putShape(x, x.root(), text);
        return text.toString();
    }

    /** A tree of 60 nodes takes fewer than 300 characters: what goes beyond is no tree. */
    private static void putShape(SplaySequence x, int at, StringBuilder text) {
        if (at < 0 || text.length() > 300) {
            text.append('.');
            return;
        }
        text.append('(');
        putShape(x, x.child(at, false), text);
        text.append(at);
        putShape(x, x.child(at, true), text);
        text.append(')');
    }

    static String plainRow(SplaySequence x) {
        StringBuilder text = new StringBuilder();
        int size = x.size();
        for (int at = 0; at < size; at++) {
            text.append(at == 0 ? "" : " ").append(x.plain(at));
        }
        return text.toString();
    }

    /** The values by way of the tree. It splays. */
    static String treeRow(SplaySequence x) {
        StringBuilder text = new StringBuilder();
        int size = x.size();
        for (int at = 0; at < size; at++) {
            text.append(at == 0 ? "" : " ").append(x.get(at));
        }
        return text.toString();
    }
}
