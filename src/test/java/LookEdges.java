/** The boundary cases of the promises on a new object and on the calls that only look. */
final class LookEdges {
    private static final String NO_POSITION = "Throws IndexOutOfBoundsException if there is no such position";
    private static final String AT = "at: 0 to size() less 1";
    /** Pairs that are no range of six values. */
    private static final int[][] NO_RANGES = {
        {-1, -1}, {-1, 0}, {-1, 6}, {0, 7}, {6, 7}, {7, 7}, {9, 9}, {7, 6}, {1, 0}, {6, 5}, {6, 0}, {0, -1},
        {Integer.MIN_VALUE, 0}, {Integer.MIN_VALUE, Integer.MAX_VALUE}, {0, Integer.MAX_VALUE},
        {Integer.MAX_VALUE, Integer.MAX_VALUE}, {Integer.MAX_VALUE, Integer.MIN_VALUE}, {0, Integer.MIN_VALUE},
    };

    private LookEdges() {
    }

    static void all(Edges e) {
        e.edge(1, "An empty sequence, an empty clipboard, no fingers on nodes.", LookEdges::newObject);
        e.edge(15, "Returns how many steps of splaying the latest call of the first part took that did not throw an"
                + " exception; 0 before the first one.", LookEdges::lastSteps);
        e.edge(16, "Returns how many rotations these steps were.", LookEdges::lastRotations);
        e.edge(17, "Returns how many steps all calls took so far.", LookEdges::steps);
        e.edge(18, "Returns how often a node was splayed so far, also a root.", LookEdges::splays);
        e.edge(19, "Returns the potential of the tree of the sequence and of that of the clipboard, together.",
                LookEdges::potential);
        e.edge(20, "Returns the size of the sequence.", LookEdges::size);
        e.edge(21, "Returns the size of the clipboard.", LookEdges::clipped);
        e.edge(22, "Returns the position of the root of the tree of the sequence; -1 if it is empty.", LookEdges::root);
        e.edge(23, "Returns how many nodes are on the longest way from the root downwards, the root included; 0 if the"
                + " sequence is empty.", LookEdges::height);
        trees(e);
        fingersAndRow(e);
    }

    private static void trees(Edges e) {
        e.edge(24, "Returns how many nodes are above the node at a position.", LookEdges::depth);
        e.edge(24, AT, LookEdges::depthAt);
        e.edge(24, "Returns 0 for the root.", LookEdges::depthOfRoot);
        e.edge(24, NO_POSITION, f -> WorkEdges.noPosition(f, "depth", (x, at) -> x.depth(at)));
        e.edge(25, "Returns the size of the subtree of which the node at a position is the root.", LookEdges::subtree);
        e.edge(25, AT, LookEdges::subtreeAt);
        e.edge(25, "Returns the size, that node included.", LookEdges::subtreeOfLeaf);
        e.edge(25, NO_POSITION, f -> WorkEdges.noPosition(f, "subtree", (x, at) -> x.subtree(at)));
        e.edge(26, "Returns the position of a child of the node at a position.", LookEdges::child);
        e.edge(26, AT, LookEdges::childAt);
        e.edge(26, "right: whether the right one is meant", LookEdges::childRight);
        e.edge(26, "Returns the position of the child; -1 if that subtree is empty.", LookEdges::childOfEmpty);
        e.edge(26, NO_POSITION, LookEdges::childNoPosition);
    }

    private static void fingersAndRow(Edges e) {
        e.edge(27, "finger: 0 to 3", LookEdges::whereIsFinger);
        e.edge(27, "Tells where a finger is, without splaying.", LookEdges::whereIsLeavesTree);
        e.edge(27, "Returns 0 on none, 1 on a node of the sequence, 2 on a node of the clipboard.", LookEdges::whereIs);
        e.edge(27, "Throws IndexOutOfBoundsException if there is no such finger",
                f -> FingerEdges.noFinger(f, "whereIs", (x, finger) -> x.whereIs(finger)));
        e.edge(28, "Returns the value at a position of the plain row, which is treated like the sequence.",
                LookEdges::plain);
        e.edge(28, AT, LookEdges::plainAt);
        e.edge(28, "Returns the value.", LookEdges::plainReturns);
        e.edge(28, NO_POSITION, f -> WorkEdges.noPosition(f, "plain", (x, at) -> x.plain(at)));
        e.edge(29, "Returns the sum of a range of the plain row.", LookEdges::plainSum);
        e.edge(29, "from: 0 to to", LookEdges::plainSumFrom);
        e.edge(29, "to: 0 to size()", LookEdges::plainSumTo);
        e.edge(29, "Returns the sum; 0 of an empty range.", LookEdges::plainSumOfEmpty);
        e.edge(29, "Throws IndexOutOfBoundsException if from or to is out of range", LookEdges::plainSumNoRange);
    }

    private static void newObject(Edges e) {
        SplaySequence x = new SplaySequence();
        e.is("size()", x.size(), 0);
        e.is("clipped()", x.clipped(), 0);
        e.shape("nothing", x, ".");
        e.counts("nothing", x, "0/0 0 0");
        for (int finger = 0; finger < 4; finger++) {
            e.is("whereIs(" + finger + ")", x.whereIs(finger), 0);
        }
        e.is("paste of the clipboard", x.paste(0), 0);
        e.is("cut of nothing, with an empty clipboard", x.cut(0, 0), 0);
        Samples.rich();
        e.isText("all answers of one beside a used one", Edges.portrait(x), Edges.portrait(new SplaySequence()));
    }

    private static void lastSteps(Edges e) {
        e.is("lastSteps() of a new object", new SplaySequence().lastSteps(), 0);
        SplaySequence x = new SplaySequence();
        Checks.outcome(x, y -> y.get(0));
        e.is("lastSteps() behind a call that threw, the first one", x.lastSteps(), 0);
        SplaySequence z = Samples.stirred(4);
        e.is("lastSteps() of get", z.lastSteps(), 2);
        Checks.outcome(z, y -> y.get(4));
        e.is("lastSteps() behind a call that threw", z.lastSteps(), 2);
        z.whereIs(0);
        z.depth(3);
        e.is("lastSteps() behind calls that look", z.lastSteps(), 2);
        Checks.Call[] withoutSteps = {
            y -> y.insert(0, 1), y -> y.insert(4, 1), y -> y.remove(0), y -> y.get(0), y -> y.set(0, 1),
            y -> y.reverse(2, 2), y -> y.reverse(0, 4), y -> y.raise(4, 4, 1), y -> y.sum(0, 0), y -> y.least(0, 4),
            y -> y.cut(1, 1), y -> y.cut(0, 4), y -> y.paste(3), y -> y.point(0, 0), y -> y.follow(0),
        };
        for (int number = 0; number < withoutSteps.length; number++) {
            SplaySequence y = Samples.stirred(4);
            withoutSteps[number].answer(y);
            e.is("lastSteps() of call " + number + ", which took none", y.lastSteps(), 0);
        }
        SplaySequence w = Samples.stirred(4);
        w.point(0, 3);
        w.move(0, 0);
        e.is("lastSteps() of move by 0", w.lastSteps(), 0);
    }

    private static void lastRotations(Edges e) {
        e.is("lastRotations() of a new object", new SplaySequence().lastRotations(), 0);
        SplaySequence x = Samples.chain(4);
        x.get(3);
        e.is("lastRotations() of a root", x.lastRotations(), 0);
        x.get(2);
        e.is("lastRotations() of a single step", x.lastRotations(), 1);
        x.get(0);
        e.is("lastRotations() of a double step", x.lastRotations(), 2);
        Checks.outcome(x, y -> y.get(4));
        e.is("lastRotations() behind a call that threw", x.lastRotations(), 2);
        x.reverse(3, 3);
        e.is("lastRotations() of an empty range", x.lastRotations(), 0);
        SplaySequence z = Samples.chain(60);
        z.get(0);
        e.is("lastRotations() of the longest way", z.lastRotations(), 59);
    }

    private static void steps(Edges e) {
        SplaySequence x = Samples.chain(4);
        e.is("steps() ahead of all splaying", x.steps(), 0);
        x.get(0);
        e.is("steps() behind get", x.steps(), 2);
        x.get(0);
        e.is("steps() behind get of a root", x.steps(), 2);
        Checks.outcome(x, y -> y.set(3, 1001));
        Checks.outcome(x, y -> y.cut(0, 5));
        e.is("steps() behind calls that threw", x.steps(), 2);
        x.get(3);
        e.is("steps() behind another get", x.steps(), 3);
        x.cut(0, 4);
        e.is("steps() with all in the clipboard", x.steps(), 3);
    }

    private static void splays(Edges e) {
        SplaySequence x = Samples.chain(4);
        e.is("splays() ahead of all splaying", x.splays(), 0);
        x.get(3);
        e.is("splays() behind get of a root", x.splays(), 1);
        x.insert(4, 1);
        x.insert(0, 1);
        e.is("splays() behind inserts at the ends", x.splays(), 1);
        Checks.outcome(x, y -> y.get(6));
        e.is("splays() behind a call that threw", x.splays(), 1);
        x.point(0, 0);
        x.move(0, 0);
        e.is("splays() behind move by 0, which splays twice", x.splays(), 4);
        SplaySequence y = Samples.chain(4);
        y.remove(1);
        e.is("splays() of remove, with a root as the last node on the left", y.splays(), 2);
    }

    private static void potential(Edges e) {
        e.is("potential() of nothing", new SplaySequence().potential(), 0);
        e.is("potential() of one", Samples.chain(1).potential(), 0);
        e.is("potential() of two", Samples.chain(2).potential(), 1);
        SplaySequence x = Samples.chain(60);
        e.is("potential() of a chain of 60", x.potential(), 243);
        x.cut(0, 60);
        e.is("potential() of it in the clipboard", x.potential(), 243);
        x.paste(0);
        e.is("potential() of it pasted", x.potential(), 243);
        SplaySequence y = Samples.chain(4);
        y.cut(3, 4);
        y.get(0);
        e.is("potential() of a chain of 3 beside one in the clipboard", y.potential(), 2);
        y.paste(3);
        e.is("potential() of one tree of both", y.potential(), 3);
    }

    private static void size(Edges e) {
        SplaySequence x = Samples.chain(60);
        e.is("size() of 60", x.size(), 60);
        x.cut(0, 59);
        e.is("size() beside 59 in the clipboard", x.size(), 1);
        x.remove(0);
        e.is("size() of nothing beside them", x.size(), 0);
        x.paste(0);
        e.is("size() behind paste", x.size(), 59);
        e.is("size() of a new object", new SplaySequence().size(), 0);
    }

    private static void clipped(Edges e) {
        SplaySequence x = Samples.chain(60);
        e.is("clipped() ahead of cut", x.clipped(), 0);
        x.cut(30, 30);
        e.is("clipped() behind cut of an empty range", x.clipped(), 0);
        x.cut(0, 60);
        e.is("clipped() behind cut of all", x.clipped(), 60);
        x.paste(0);
        e.is("clipped() behind paste", x.clipped(), 0);
        x.cut(59, 60);
        x.remove(0);
        e.is("clipped() behind remove from the sequence", x.clipped(), 1);
    }

    private static void root(Edges e) {
        SplaySequence x = Samples.chain(2);
        e.is("root() with an empty right subtree", x.root(), 1);
        x.get(0);
        e.is("root() with an empty left subtree", x.root(), 0);
        x.cut(0, 2);
        e.is("root() with all in the clipboard", x.root(), -1);
        x.paste(0);
        x.remove(0);
        x.remove(0);
        e.is("root() with all removed", x.root(), -1);
        e.is("root() of a new object", new SplaySequence().root(), -1);
        e.is("root() of 60", Samples.chain(60).root(), 59);
    }

    private static void height(Edges e) {
        e.is("height() of a new object", new SplaySequence().height(), 0);
        SplaySequence x = Samples.chain(1);
        e.is("height() of one", x.height(), 1);
        x.cut(0, 1);
        e.is("height() with all in the clipboard", x.height(), 0);
        x.paste(0);
        x.remove(0);
        e.is("height() with all removed", x.height(), 0);
        e.is("height() of a chain of 60", Samples.chain(60).height(), 60);
        SplaySequence y = Samples.stirred(5);
        e.is("height() of a way that turns", y.height(), 4);
        y.get(1);
        e.is("height() of two ways", y.height(), 3);
    }

    private static void depth(Edges e) {
        SplaySequence x = Samples.stirred(4);
        int[] due = {0, 2, 3, 1};
        for (int at = 0; at < 4; at++) {
            e.is("depth(" + at + ") of (.0((.1(.2.))3.))", x.depth(at), due[at]);
        }
        x.insert(0, 9);
        e.is("depth(3) with another root", x.depth(3), 4);
    }

    private static void depthAt(Edges e) {
        SplaySequence x = Samples.chain(60);
        for (int at = 0; at < 60; at++) {
            e.is("depth(" + at + ") of a chain of 60", x.depth(at), 59 - at);
        }
    }

    private static void depthOfRoot(Edges e) {
        e.is("depth(0) of one", Samples.chain(1).depth(0), 0);
        SplaySequence x = Samples.chain(5);
        for (int at = 0; at < 5; at++) {
            x.get(at);
            e.is("depth(" + at + ") of a root", x.depth(at), 0);
            e.is("depth of a node beside it", x.depth((at + 1) % 5) > 0 ? 1 : 0, 1);
        }
    }

    private static void subtree(Edges e) {
        SplaySequence x = Samples.stirred(4);
        int[] due = {4, 2, 1, 3};
        for (int at = 0; at < 4; at++) {
            e.is("subtree(" + at + ") of (.0((.1(.2.))3.))", x.subtree(at), due[at]);
        }
        x.cut(0, 1);
        e.is("subtree of the root without the clipboard", x.subtree(x.root()), 3);
    }

    private static void subtreeAt(Edges e) {
        SplaySequence x = Samples.chain(60);
        for (int at = 0; at < 60; at++) {
            e.is("subtree(" + at + ") of a chain of 60", x.subtree(at), at + 1);
        }
    }

    private static void subtreeOfLeaf(Edges e) {
        e.is("subtree(0) of one", Samples.chain(1).subtree(0), 1);
        SplaySequence x = Samples.chain(3);
        x.get(1);
        e.is("subtree(0), a node without children", x.subtree(0), 1);
        e.is("subtree(1), the root", x.subtree(1), 3);
        e.is("subtree(2), a node without children", x.subtree(2), 1);
    }

    private static void child(Edges e) {
        SplaySequence x = Samples.chain(5);
        x.get(2);
        e.shape("get(2) of a chain", x, "(((.0.)1.)2(.3(.4.)))");
        int[] left = {-1, 0, 1, -1, -1};
        int[] right = {-1, -1, 3, 4, -1};
        for (int at = 0; at < 5; at++) {
            e.is("child(" + at + ", false)", x.child(at, false), left[at]);
            e.is("child(" + at + ", true)", x.child(at, true), right[at]);
        }
    }

    private static void childAt(Edges e) {
        SplaySequence x = Samples.chain(60);
        for (int at = 0; at < 60; at++) {
            e.is("child(" + at + ", false) of a chain of 60", x.child(at, false), at - 1);
            e.is("child(" + at + ", true) of a chain of 60", x.child(at, true), -1);
        }
    }

    private static void childRight(Edges e) {
        SplaySequence x = Samples.chain(3);
        x.get(1);
        e.is("child(1, false)", x.child(1, false), 0);
        e.is("child(1, true)", x.child(1, true), 2);
        SplaySequence y = Samples.stirred(4);
        e.is("child(0, true) of (.0((.1(.2.))3.))", y.child(0, true), 3);
        e.is("child(3, false)", y.child(3, false), 1);
        e.is("child(1, true)", y.child(1, true), 2);
    }

    private static void childOfEmpty(Edges e) {
        SplaySequence x = Samples.stirred(4);
        e.is("child(0, false) of (.0((.1(.2.))3.))", x.child(0, false), -1);
        e.is("child(1, false)", x.child(1, false), -1);
        e.is("child(2, false)", x.child(2, false), -1);
        e.is("child(2, true)", x.child(2, true), -1);
        e.is("child(3, true)", x.child(3, true), -1);
        x.get(1);
        e.is("child(1, false), which has position 0", x.child(1, false), 0);
    }

    private static void childNoPosition(Edges e) {
        WorkEdges.noPosition(e, "child on the left", (x, at) -> x.child(at, false));
        WorkEdges.noPosition(e, "child on the right", (x, at) -> x.child(at, true));
    }

    private static void whereIsFinger(Edges e) {
        for (int finger = 0; finger < 4; finger++) {
            SplaySequence x = Samples.chain(2);
            e.is("whereIs(" + finger + ") ahead of point", x.whereIs(finger), 0);
            x.point(finger, 0);
            e.is("whereIs(" + finger + ") behind point", x.whereIs(finger), 1);
        }
    }

    private static void whereIsLeavesTree(Edges e) {
        SplaySequence x = Samples.rich();
        String shape = Checks.shape(x);
        String counts = Edges.counted(x);
        for (int finger = 0; finger < 4; finger++) {
            x.whereIs(finger);
        }
        e.shape("whereIs", x, shape);
        e.counts("whereIs", x, counts);
    }

    private static void whereIs(Edges e) {
        SplaySequence x = Samples.rich();
        e.is("whereIs(0), in the sequence", x.whereIs(0), 1);
        e.is("whereIs(1), in the clipboard", x.whereIs(1), 2);
        e.is("whereIs(2), never put on a node", x.whereIs(2), 0);
        x.remove(2);
        e.is("whereIs(0) behind remove", x.whereIs(0), 0);
        e.is("whereIs(1) behind remove of another", x.whereIs(1), 2);
        x.paste(0);
        e.is("whereIs(1) behind paste", x.whereIs(1), 1);
        x.cut(0, 8);
        e.is("whereIs(1) behind cut of all", x.whereIs(1), 2);
        e.is("whereIs(0) behind cut of all", x.whereIs(0), 0);
        e.is("whereIs(0) of a new object", new SplaySequence().whereIs(0), 0);
    }

    private static void plain(Edges e) {
        SplaySequence x = Samples.chain(5);
        x.insert(2, 9);
        e.isText("the row behind insert", Checks.plainRow(x), "0 1 9 2 3 4");
        x.remove(0);
        e.isText("the row behind remove", Checks.plainRow(x), "1 9 2 3 4");
        x.set(4, -5);
        e.isText("the row behind set", Checks.plainRow(x), "1 9 2 3 -5");
        x.reverse(1, 4);
        e.isText("the row behind reverse", Checks.plainRow(x), "1 3 2 9 -5");
        x.raise(0, 2, 1000);
        e.isText("the row behind raise", Checks.plainRow(x), "1001 1003 2 9 -5");
        x.cut(1, 3);
        e.isText("the row behind cut", Checks.plainRow(x), "1001 9 -5");
        x.paste(3);
        e.isText("the row behind paste", Checks.plainRow(x), "1001 9 -5 1003 2");
        e.isText("the row by way of the tree", Checks.treeRow(x), "1001 9 -5 1003 2");
        Checks.outcome(x, y -> y.set(0, 1001));
        Checks.outcome(x, y -> y.cut(0, 6));
        e.isText("the row behind calls that threw", Checks.plainRow(x), "1001 9 -5 1003 2");
        plainOfAll60(e);
    }

    private static void plainOfAll60(Edges e) {
        SplaySequence x = Samples.full(0);
        x.remove(0);
        x.insert(59, 777);
        e.is("the last of 60 behind remove and insert", x.plain(59), 777);
        x.cut(0, 60);
        x.paste(0);
        e.is("the sum of 60 behind cut and paste", x.plainSum(0, 60), 2547);
        x.cut(0, 1);
        x.remove(0);
        x.paste(58);
        x.insert(0, -777);
        e.is("the first of 60 behind cut, remove, paste and insert", x.plain(0), -777);
        e.is("the last of them", x.plain(59), 1);
        x.cut(20, 40);
        e.is("the first behind the cut", x.plain(20), x.get(20));
        x.paste(40);
        e.isText("all 60 behind another paste", Checks.plainRow(x), Checks.treeRow(x));
    }

    private static void plainAt(Edges e) {
        SplaySequence x = Samples.full(0);
        for (int at = 0; at < 60; at++) {
            e.is("plain(" + at + ") of 60", x.plain(at), at);
        }
        x.reverse(0, 60);
        e.is("plain(59) of 60 turned round", x.plain(59), 0);
        e.is("plain(0) of one", Samples.chain(1).plain(0), 0);
    }

    private static void plainReturns(Edges e) {
        SplaySequence x = Samples.chain(3);
        x.set(0, -1000);
        x.set(1, 1000);
        x.raise(0, 1, -1000);
        x.raise(1, 2, 1000);
        e.is("plain of a value below -1000", x.plain(0), -2000);
        e.is("plain of a value above 1000", x.plain(1), 2000);
        e.is("plain of the value beside them", x.plain(2), 2);
    }

    private static void plainSum(Edges e) {
        SplaySequence x = Samples.chain(5);
        x.set(2, -1000);
        x.raise(2, 4, -1000);
        String shape = Checks.shape(x);
        String counts = Edges.counted(x);
        e.is("plainSum(1, 3)", x.plainSum(1, 3), -1999);
        e.is("plainSum(3, 5)", x.plainSum(3, 5), -993);
        e.shape("plainSum", x, shape);
        e.counts("plainSum", x, counts);
    }

    private static void plainSumFrom(Edges e) {
        SplaySequence x = Samples.chain(7);
        for (int from = 0; from <= 7; from++) {
            e.is("plainSum from " + from + " to 7", x.plainSum(from, 7), 21 - from * (from - 1) / 2);
        }
        e.is("plainSum of the last alone", x.plainSum(6, 7), 6);
    }

    private static void plainSumTo(Edges e) {
        SplaySequence x = Samples.full(0);
        for (int to = 0; to <= 60; to++) {
            e.is("plainSum from 0 to " + to, x.plainSum(0, to), to * (to - 1) / 2);
        }
        SplaySequence y = Samples.rich();
        e.is("plainSum without the clipboard", y.plainSum(0, 6), 18);
    }

    private static void plainSumOfEmpty(Edges e) {
        SplaySequence x = Samples.chain(3);
        x.raise(0, 3, 7);
        for (int at = 0; at <= 3; at++) {
            e.is("plainSum from " + at + " to it", x.plainSum(at, at), 0);
        }
        e.is("plainSum of nothing", new SplaySequence().plainSum(0, 0), 0);
        e.is("plainSum of nothing beside 60 in the clipboard", Samples.full(60).plainSum(0, 0), 0);
        e.is("plainSum of all 60 from 60", Samples.full(0).plainSum(60, 60), 0);
    }

    private static void plainSumNoRange(Edges e) {
        for (int[] range : NO_RANGES) {
            String what = "plainSum from " + range[0] + " to " + range[1] + " of 6";
            e.refusesPlace(what, Samples::rich, x -> x.plainSum(range[0], range[1]));
        }
        e.refusesPlace("plainSum from 0 to 1 of nothing", SplaySequence::new, x -> x.plainSum(0, 1));
        e.refusesPlace("plainSum from 1 to 1 of nothing", SplaySequence::new, x -> x.plainSum(1, 1));
        e.refusesPlace("plainSum of the clipboard", () -> Samples.full(60), x -> x.plainSum(0, 60));
        e.refusesPlace("plainSum from 0 to 61 of 60", () -> Samples.full(0), x -> x.plainSum(0, 61));
    }
}
