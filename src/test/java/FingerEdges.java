import java.util.function.Supplier;

/** The boundary cases of the promises on fingers: point, follow, move. */
final class FingerEdges {
    private static final int LEAST = Integer.MIN_VALUE;
    private static final int MOST = Integer.MAX_VALUE;
    private static final int[] NO_FINGERS = {-1, 4, 5, -4, LEAST, MOST};

    private FingerEdges() {
    }

    static void all(Edges e) {
        e.edge(12, "Puts a finger on the node at a position; the node is splayed.", FingerEdges::point);
        e.edge(12, "finger: 0 to 3", FingerEdges::pointFinger);
        e.edge(12, "at: 0 to size() less 1", FingerEdges::pointAt);
        e.edge(12, "Returns the value of the node.", FingerEdges::pointReturns);
        e.edge(12, "Throws IndexOutOfBoundsException if there is no such finger or position",
                FingerEdges::pointNowhere);

        e.edge(13, "Returns the position of the node on which a finger is; the node is splayed, if it is in the sequence.",
                FingerEdges::follow);
        e.edge(13, "finger: 0 to 3", FingerEdges::followFinger);
        e.edge(13, "Returns the position; -1 if the finger is on none, or on a node of the clipboard.",
                FingerEdges::followNowhere);
        e.edge(13, "Throws IndexOutOfBoundsException if there is no such finger",
                f -> noFinger(f, "follow", (x, finger) -> x.follow(finger)));

        e.edge(14, "Moves a finger along the sequence: its node is splayed, then the node at the new position is splayed,"
                + " and the finger is on that one.", FingerEdges::move);
        e.edge(14, "finger: 0 to 3", FingerEdges::moveFinger);
        e.edge(14, "by: how far, any number, below 0 to the left", FingerEdges::moveBy);
        e.edge(14, "Returns the new position.", FingerEdges::moveReturns);
        e.edge(14, "Throws IndexOutOfBoundsException if there is no such finger", FingerEdges::moveNoFinger);
        e.edge(14, "Throws IllegalStateException if the finger is on none, or on a node of the clipboard, or there is no"
                + " such new position", FingerEdges::moveNowhere);
    }

    /** A call on a finger. */
    interface CallFinger {
        int answer(SplaySequence x, int finger);
    }

    static void noFinger(Edges e, String name, CallFinger call) {
        for (int finger : NO_FINGERS) {
            e.refusesPlace(name + " of finger " + finger, Samples::rich, x -> call.answer(x, finger));
            e.refusesPlace(name + " of finger " + finger + " in the empty sequence", SplaySequence::new,
                    x -> call.answer(x, finger));
        }
    }

    private static void point(Edges e) {
        SplaySequence x = Samples.stirred(4);
        x.point(0, 3);
        e.shape("point at the last", x, "((.0(.1(.2.)))3.)");
        e.counts("point at the last", x, "1/1 3 2");
        x.point(0, 3);
        e.counts("point at the same node, a root", x, "0/0 3 3");
        x.point(0, 0);
        e.is("follow of a finger that was put elsewhere", x.follow(0), 0);
        x.point(1, 0);
        x.remove(0);
        x.point(0, 2);
        e.is("follow of a finger that was on a removed node", x.follow(0), 2);
        e.is("whereIs of the other one", x.whereIs(1), 0);
    }

    private static void pointFinger(Edges e) {
        for (int finger = 0; finger < 4; finger++) {
            SplaySequence x = Samples.chain(3);
            e.is("point of finger " + finger, x.point(finger, 1), 1);
            for (int other = 0; other < 4; other++) {
                e.is("whereIs(" + other + ") then", x.whereIs(other), other == finger ? 1 : 0);
            }
        }
    }

    private static void pointAt(Edges e) {
        for (int n : new int[] {1, 2, 5, 60}) {
            for (int at = 0; at < n; at++) {
                SplaySequence x = Samples.stirred(n);
                e.is("point at " + at + " of " + n, x.point(2, at), at);
                e.is("the root then", x.root(), at);
                e.is("follow then", x.follow(2), at);
            }
        }
    }

    private static void pointReturns(Edges e) {
        SplaySequence x = Samples.chain(2);
        x.raise(0, 1, -1000);
        x.raise(0, 1, -1000);
        e.is("point at a value below -1000", x.point(0, 0), -2000);
        e.is("point at the other one", x.point(0, 1), 1);
    }

    private static void pointNowhere(Edges e) {
        noFinger(e, "point", (x, finger) -> x.point(finger, 0));
        for (int finger = 0; finger < 4; finger++) {
            int f = finger;
            WorkEdges.noPosition(e, "point of finger " + f, (x, at) -> x.point(f, at));
        }
        e.refusesPlace("point of no finger at no position", Samples::rich, x -> x.point(4, 6));
        e.refusesPlace("point of no finger in the empty sequence", SplaySequence::new, x -> x.point(-1, -1));
    }

    private static void follow(Edges e) {
        SplaySequence x = Samples.chain(4);
        x.point(0, 0);
        x.get(3);
        e.shape("get(3)", x, "((.0(.1(.2.)))3.)");
        e.is("follow(0)", x.follow(0), 0);
        e.shape("follow(0)", x, "(.0((.1(.2.))3.))");
        e.counts("follow(0)", x, "1/1 4 3");
        e.is("follow(0) of a root", x.follow(0), 0);
        e.counts("follow(0) of a root", x, "0/0 4 4");
        x.reverse(0, 4);
        e.is("follow(0) of the last", x.follow(0), 3);
    }

    private static void followFinger(Edges e) {
        for (int finger = 0; finger < 4; finger++) {
            SplaySequence x = Samples.chain(4);
            x.point(finger, 2);
            x.get(3);
            e.is("follow of finger " + finger, x.follow(finger), 2);
            e.is("the root then", x.root(), 2);
            e.is("follow of another one", x.follow(3 - finger), -1);
        }
    }

    private static void followNowhere(Edges e) {
        SplaySequence x = Samples.rich();
        String shape = Checks.shape(x);
        String due = "0/0 " + x.steps() + " " + x.splays();
        e.is("follow of a finger on none", x.follow(2), -1);
        e.counts("follow of a finger on none", x, due);
        e.is("follow of a finger in the clipboard", x.follow(1), -1);
        e.counts("follow of a finger in the clipboard", x, due);
        e.shape("both", x, shape);
        e.is("follow of a finger in the empty sequence", new SplaySequence().follow(0), -1);
        SplaySequence y = Samples.chain(1);
        y.point(0, 0);
        y.cut(0, 1);
        e.is("follow of a finger on the only node, in the clipboard", y.follow(0), -1);
        y.paste(0);
        y.remove(0);
        e.is("follow of a finger on a removed node", y.follow(0), -1);
    }

    private static void move(Edges e) {
        SplaySequence x = Samples.chain(3);
        x.point(1, 0);
        x.get(2);
        x.move(1, 2);
        e.shape("move(1, 2)", x, "(((.0.)1.)2.)");
        e.counts("move(1, 2)", x, "2/4 4 4");
        x.get(0);
        e.is("follow(1) then", x.follow(1), 2);
        x.point(2, 2);
        x.move(1, -1);
        e.is("follow(1) behind another move", x.follow(1), 1);
        e.is("follow(2), on the node that it left", x.follow(2), 2);
    }

    private static void moveFinger(Edges e) {
        for (int finger = 0; finger < 4; finger++) {
            SplaySequence x = Samples.chain(4);
            x.point(finger, 1);
            x.point((finger + 1) % 4, 1);
            e.is("move of finger " + finger, x.move(finger, 2), 3);
            e.is("follow of it", x.follow(finger), 3);
            e.is("follow of the next one", x.follow((finger + 1) % 4), 1);
        }
    }

    private static void moveBy(Edges e) {
        for (int n : new int[] {1, 2, 5, 60}) {
            int middle = n / 2;
            SplaySequence x = Samples.stirred(n);
            x.point(0, middle);
            e.is("move to the first of " + n, x.move(0, -middle), 0);
            e.is("move from there to the last", x.move(0, n - 1), n - 1);
            e.is("the root then", x.root(), n - 1);
            e.is("move back to the first", x.move(0, 1 - n), 0);
            int splays = x.splays();
            e.is("move by 0", x.move(0, 0), 0);
            e.is("splays of it", x.splays() - splays, 2);
            e.is("steps of it", x.lastSteps(), 0);
        }
    }

    private static void moveReturns(Edges e) {
        SplaySequence x = Samples.chain(5);
        x.point(3, 1);
        x.insert(0, 9);
        e.is("move by 1 from 2", x.move(3, 1), 3);
        e.is("move by -2 from 3", x.move(3, -2), 1);
        x.reverse(0, 6);
        e.is("move by -1 from 4", x.move(3, -1), 3);
        x.cut(0, 3);
        e.is("move by 2 from 0", x.move(3, 2), 2);
        e.is("whereIs(3)", x.whereIs(3), 1);
    }

    private static void moveNoFinger(Edges e) {
        noFinger(e, "move by 0", (x, finger) -> x.move(finger, 0));
        noFinger(e, "move by 1", (x, finger) -> x.move(finger, 1));
        noFinger(e, "move by the least number", (x, finger) -> x.move(finger, LEAST));
    }

    private static void moveNowhere(Edges e) {
        for (int by : new int[] {0, 1, -1, LEAST, MOST}) {
            e.refusesState("move by " + by + " of a finger on none", Samples::rich, x -> x.move(3, by));
            e.refusesState("move by " + by + " of a finger in the clipboard", Samples::rich, x -> x.move(1, by));
            e.refusesState("move by " + by + " in the empty sequence", SplaySequence::new, x -> x.move(0, by));
        }
        for (int by : new int[] {-3, 4, -6, 6, LEAST, LEAST + 1, LEAST + 2, MOST, MOST - 1, MOST - 2, MOST - 3}) {
            e.refusesState("move by " + by + " from 2 of 6", Samples::rich, x -> x.move(0, by));
        }
        Supplier<SplaySequence> last = () -> pointed(60, 59);
        e.refusesState("move by 1 from the last of 60", last, x -> x.move(0, 1));
        e.refusesState("move by the greatest number from the last of 60", last, x -> x.move(0, MOST));
        e.refusesState("move by -60 from the last of 60", last, x -> x.move(0, -60));
        e.refusesState("move by -1 from the first of 2", () -> pointed(2, 0), x -> x.move(0, -1));
        e.refusesState("move by 2 from the first of 2", () -> pointed(2, 0), x -> x.move(0, 2));
        e.refusesState("move by the least number from the first of 2", () -> pointed(2, 0), x -> x.move(0, LEAST));
        e.refusesState("move by 0 of a finger on a removed node", FingerEdges::removed, x -> x.move(0, 0));
    }

    /** Finger 0 is on a position; the latest call took steps. */
    private static SplaySequence pointed(int n, int at) {
        SplaySequence x = Samples.chain(n);
        x.point(0, at);
        x.get(at == 0 ? n - 1 : 0);
        return x;
    }

    private static SplaySequence removed() {
        SplaySequence x = Samples.stirred(4);
        x.point(0, 1);
        x.remove(1);
        x.get(0);
        x.get(2);
        return x;
    }
}
