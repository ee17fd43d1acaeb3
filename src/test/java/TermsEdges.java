import java.util.function.Supplier;

/** The boundary cases that the document names ahead of its promises. */
final class TermsEdges {
    private TermsEdges() {
    }

    static void all(Edges e) {
        e.edge(0, "An object is used for at most 512 calls after it has been made", TermsEdges::calls);
        e.edge(0, "The sequence has at most 60 values, at the positions 0, 1 and so on", TermsEdges::mostValues);
        e.edge(0, "together they have at most 60.", TermsEdges::mostTogether);
        e.edge(0, "Values begin as -1000 to 1000, and can be raised beyond that.", TermsEdges::raisedBeyond);
        e.edge(0, "each node has a left and a right subtree, which can be empty", TermsEdges::emptySubtrees);
        e.edge(0, "To splay a node of a tree is to make steps until it is the root of that tree.", TermsEdges::untilRoot);
        e.edge(0, "if p is the root: the node is rotated over p;", TermsEdges::singleStep);
        e.edge(0, "otherwise, if the node and p are both left children, or both right children: p is rotated over g,"
                + " then the node over p;", TermsEdges::sameSideStep);
        e.edge(0, "otherwise: the node is rotated over p, then over g.", TermsEdges::otherSideStep);
        e.edge(0, "takes over the right subtree that it had as its left one; for a right child it is the mirror image.",
                TermsEdges::subtreesOfRotation);
        e.edge(0, "Splaying a root takes 0 steps.", TermsEdges::splayedRoot);
        e.edge(0, "ahead of 0 the first one is empty", TermsEdges::splitAheadOfZero);
        e.edge(0, "ahead of its size the second one is", TermsEdges::splitAheadOfSize);
        e.edge(0, "in both cases nothing is splayed.", TermsEdges::splitsWithoutSplaying);
        e.edge(0, "Otherwise the node at that position is splayed, and its left subtree is cut off as the first tree.",
                TermsEdges::splitWithin);
        e.edge(0, "if one of them is empty, it is the other one, and nothing is splayed.", TermsEdges::joinWithEmpty);
        e.edge(0, "Otherwise the last node of the first tree is splayed, and the second tree becomes its right subtree.",
                TermsEdges::joinOfTwo);
        e.edge(0, "the tree is split ahead of to, and then the first part of it ahead of from",
                TermsEdges::orderOfSplits);
        e.edge(0, "Behind the work the two parts of the first part are joined, and then that and the second part.",
                TermsEdges::orderOfJoins);
        e.edge(0, "If from and to are the same, nothing is splayed at all.", TermsEdges::emptyRange);
        e.edge(0, "the greatest whole number r for which 2 to the power of r is not above its size.", TermsEdges::ranks);
        e.edge(0, "Fingers are numbered 0 to 3.", TermsEdges::numbersOfFingers);
        e.edge(0, "A finger is on a node, or on none, at first on none.", TermsEdges::fingersAtFirst);
        e.edge(0, "It stays on the node in whatever tree that is", TermsEdges::fingersStay);
        e.edge(0, "if the node is removed, the finger is on none.", TermsEdges::fingersOfRemovedNode);
        e.edge(0, "A call that throws an exception changes nothing.", TermsEdges::thrownChangesNothing);
        e.edge(0, "If several exceptions apply, the one that is named first in the throws clause is thrown.",
                TermsEdges::firstNamed);
        e.edge(0, "the others only look, and leave the tree as it is.", TermsEdges::looksLeaveTree);
    }

    private static void calls(Edges e) {
        SplaySequence x = Samples.chain(60);
        for (int call = 61; call <= 510; call++) {
            x.raise(0, 60, 1000);
        }
        e.is("call 511, the sum of 60 values raised 450 times", x.sum(0, 60), 27001770);
        e.is("call 512, a plain sum", x.plainSum(0, 60), 27001770);
        SplaySequence y = new SplaySequence();
        for (int pair = 1; pair < 256; pair++) {
            y.insert(0, pair);
            y.remove(0);
        }
        e.is("call 511, insert behind 255 removed values", y.insert(0, 9), 1);
        e.is("call 512, splays", y.splays(), 255);
    }

    private static void mostValues(Edges e) {
        SplaySequence x = Samples.chain(59);
        e.is("insert of the 60th value", x.insert(59, 59), 60);
        e.refusesState("insert of the 61st value", () -> Samples.chain(60), y -> y.insert(60, 60));
        for (int at = 0; at < 60; at++) {
            e.is("get(" + at + ") of 60", x.get(at), at);
        }
        e.refusesPlace("get(60) of 60", () -> Samples.stirred(60), y -> y.get(60));
    }

    private static void mostTogether(Edges e) {
        for (int clipped : new int[] {0, 1, 2, 30, 58, 59, 60}) {
            e.refusesState("insert with " + clipped + " of 60 in the clipboard", () -> Samples.full(clipped),
                    x -> x.insert(0, 1));
            SplaySequence x = Samples.full(clipped);
            if (clipped < 60) {
                x.remove(0);
                e.is("insert with one less", x.insert(0, 1), 60 - clipped);
            }
            e.is("paste of " + clipped, x.paste(0), clipped);
            e.is("size() of all 60", x.size(), 60);
        }
    }

    private static void raisedBeyond(Edges e) {
        SplaySequence x = new SplaySequence();
        x.insert(0, 1000);
        x.insert(1, -1000);
        x.raise(0, 1, 1000);
        x.raise(1, 2, -1000);
        e.is("get of 1000 raised by 1000", x.get(0), 2000);
        e.is("get of -1000 raised by -1000", x.get(1), -2000);
        x.raise(0, 2, 1);
        e.isText("the plain row", Checks.plainRow(x), "2001 -1999");
        e.is("least", x.least(0, 2), -1999);
        e.is("sum of the first", x.sum(0, 1), 2001);
        e.is("set tells it", x.set(0, 1000), 2001);
        e.is("remove tells it", x.remove(1), -1999);
    }

    private static void emptySubtrees(Edges e) {
        SplaySequence x = Samples.chain(1);
        e.is("child(0, false) of one", x.child(0, false), -1);
        e.is("child(0, true) of one", x.child(0, true), -1);
        x.insert(1, 1);
        e.is("child(1, false) of two", x.child(1, false), 0);
        e.is("child(1, true) of two", x.child(1, true), -1);
        x.get(0);
        e.is("child(0, false) of two", x.child(0, false), -1);
        e.is("child(0, true) of two", x.child(0, true), 1);
    }

    private static void untilRoot(Edges e) {
        for (int n : new int[] {1, 2, 3, 4, 5, 59, 60}) {
            for (int at = 0; at < n; at++) {
                SplaySequence x = Samples.chain(n);
                x.get(at);
                e.is("root() behind get(" + at + ") of " + n, x.root(), at);
                e.is("its steps", x.lastSteps(), (n - at) / 2);
                e.is("its rotations", x.lastRotations(), n - 1 - at);
            }
        }
    }

    private static void singleStep(Edges e) {
        SplaySequence x = Samples.chain(2);
        x.get(0);
        e.shape("a left child of the root", x, "(.0(.1.))");
        e.counts("a left child of the root", x, "1/1 1 1");
        x.get(1);
        e.shape("a right child of the root", x, "((.0.)1.)");
        e.counts("a right child of the root", x, "1/1 2 2");
    }

    private static void sameSideStep(Edges e) {
        SplaySequence x = Samples.chain(3);
        x.get(0);
        e.shape("both left children", x, "(.0(.1(.2.)))");
        e.counts("both left children", x, "1/2 1 1");
        x.get(2);
        e.shape("both right children", x, "(((.0.)1.)2.)");
        e.counts("both right children", x, "1/2 2 2");
        SplaySequence y = Samples.chain(4);
        y.get(0);
        e.shape("both left children, then a left child of the root", y, "(.0((.1(.2.))3.))");
        e.counts("both left children, then a left child of the root", y, "2/3 2 1");
    }

    private static void otherSideStep(Edges e) {
        SplaySequence x = new SplaySequence();
        x.insert(0, 0);
        x.insert(1, 2);
        x.insert(0, 1);
        e.shape("three inserts", x, "(.0((.1.)2.))");
        x.get(1);
        e.shape("a left child of a right child", x, "((.0.)1(.2.))");
        e.counts("a left child of a right child", x, "1/2 1 1");
        SplaySequence y = new SplaySequence();
        y.insert(0, 1);
        y.insert(0, 0);
        y.insert(2, 2);
        e.shape("three other inserts", y, "((.0(.1.))2.)");
        y.get(1);
        e.shape("a right child of a left child", y, "((.0.)1(.2.))");
        e.counts("a right child of a left child", y, "1/2 1 1");
    }

    private static void subtreesOfRotation(Edges e) {
        SplaySequence x = Samples.chain(3);
        x.get(1);
        x.insert(3, 3);
        e.shape("an insert above", x, "(((.0.)1(.2.))3.)");
        x.get(1);
        e.shape("a left child with a right subtree", x, "((.0.)1((.2.)3.))");
        x.get(3);
        e.shape("a right child with a left subtree", x, "(((.0.)1(.2.))3.)");
        SplaySequence y = Samples.chain(3);
        y.get(1);
        y.insert(0, 9);
        y.insert(4, 9);
        e.shape("inserts above", y, "((.0((.1.)2(.3.)))4.)");
        y.get(2);
        e.shape("a right child of a left child, with both subtrees", y, "((.0(.1.))2((.3.)4.))");
    }

    private static void splayedRoot(Edges e) {
        Checks.Call[] calls = {
            x -> x.get(0), x -> x.set(0, 5), x -> x.point(0, 0), x -> x.point(1, 0), x -> x.follow(2), x -> x.remove(0),
        };
        for (int number = 0; number < calls.length; number++) {
            SplaySequence x = Samples.chain(4);
            x.point(2, 0);
            calls[number].answer(x);
            e.counts("call " + number + " of a root", x, "0/0 2 2");
        }
        SplaySequence x = Samples.chain(1);
        x.get(0);
        e.counts("get of the only node", x, "0/0 0 1");
    }

    private static void splitAheadOfZero(Edges e) {
        SplaySequence x = Samples.stirred(4);
        x.insert(0, 9);
        e.shape("insert(0, 9)", x, "(.0(.1((.2(.3.))4.)))");
        SplaySequence y = new SplaySequence();
        y.insert(0, 9);
        e.shape("insert ahead of 0, which is the size", y, "(.0.)");
    }

    private static void splitAheadOfSize(Edges e) {
        SplaySequence x = Samples.stirred(4);
        x.insert(4, 9);
        e.shape("insert(4, 9)", x, "((.0((.1(.2.))3.))4.)");
        e.is("child(4, true)", x.child(4, true), -1);
    }

    private static void splitsWithoutSplaying(Edges e) {
        SplaySequence x = Samples.stirred(4);
        x.insert(0, 9);
        e.counts("insert ahead of 0", x, "0/0 2 1");
        x.insert(5, 9);
        e.counts("insert ahead of the size", x, "0/0 2 1");
        x.cut(0, 6);
        e.counts("cut of all", x, "0/0 2 1");
        x.insert(0, 9);
        e.counts("insert into the empty sequence", x, "0/0 2 1");
        x.paste(1);
        e.counts("paste ahead of the size, with one join", x, "0/0 2 2");
        x.raise(0, 7, 5);
        e.counts("raise of all", x, "0/0 2 2");
    }

    private static void splitWithin(Edges e) {
        SplaySequence x = Samples.chain(3);
        x.insert(1, 9);
        e.shape("insert(1, 9)", x, "((.0.)1(.2(.3.)))");
        e.counts("insert(1, 9)", x, "1/1 1 1");
        SplaySequence y = Samples.chain(3);
        y.insert(2, 9);
        e.shape("insert ahead of the last, which is the root", y, "(((.0.)1.)2(.3.))");
        e.counts("insert ahead of the last, which is the root", y, "0/0 0 1");
    }

    private static void joinWithEmpty(Edges e) {
        SplaySequence x = Samples.stirred(4);
        x.remove(0);
        e.shape("remove without a left subtree", x, "((.0(.1.))2.)");
        e.counts("remove without a left subtree", x, "0/0 2 2");
        SplaySequence y = Samples.chain(4);
        y.remove(3);
        e.shape("remove without a right subtree", y, "(((.0.)1.)2.)");
        e.counts("remove without a right subtree", y, "0/0 0 1");
        SplaySequence z = Samples.chain(1);
        z.remove(0);
        e.shape("remove of the only node", z, ".");
        e.counts("remove of the only node", z, "0/0 0 1");
        SplaySequence w = Samples.chain(4);
        w.cut(3, 4);
        e.shape("cut at the end", w, "(((.0.)1.)2.)");
        e.counts("cut at the end", w, "0/0 0 1");
    }

    private static void joinOfTwo(Edges e) {
        SplaySequence x = Samples.stirred(5);
        x.get(3);
        e.shape("get(3)", x, "((.0(.1(.2.)))3(.4.))");
        x.remove(3);
        e.shape("remove(3)", x, "(((.0.)1.)2(.3.))");
        e.counts("remove(3)", x, "1/2 4 4");
        SplaySequence y = Samples.chain(4);
        y.remove(1);
        e.shape("remove(1), with a root as the last node", y, "(.0(.1(.2.)))");
        e.counts("remove(1), with a root as the last node", y, "1/2 1 2");
    }

    /** Ahead of 3 node 3 takes a step, ahead of 1 node 1 takes one; with 1 first there would be two and one. */
    private static void orderOfSplits(Edges e) {
        SplaySequence x = Samples.chain(5);
        x.cut(1, 3);
        e.shape("cut(1, 3)", x, "(.0(.1(.2.)))");
        e.counts("cut(1, 3)", x, "2/2 2 3");
        x.remove(2);
        x.remove(1);
        x.remove(0);
        x.paste(0);
        e.shape("the range alone", x, "(.0(.1.))");
    }

    /** Node 0 with (.1(.2.)) to its right is splayed at 2 for the second join; the other order would leave 0 on top. */
    private static void orderOfJoins(Edges e) {
        SplaySequence x = Samples.chain(5);
        x.sum(1, 3);
        e.shape("sum(1, 3)", x, "(((.0.)1.)2(.3(.4.)))");
        e.counts("sum(1, 3)", x, "3/4 3 4");
    }

    private static void emptyRange(Edges e) {
        for (int n : new int[] {0, 1, 5, 60}) {
            for (int at = 0; at <= n; at++) {
                SplaySequence x = Samples.stirred(n);
                String shape = Checks.shape(x);
                String counts = "0/0 " + x.steps() + " " + x.splays();
                e.is("reverse", x.reverse(at, at), 0);
                e.counts("reverse at " + at + " of " + n, x, counts);
                e.is("raise", x.raise(at, at, 5), 0);
                e.is("sum", x.sum(at, at), 0);
                e.is("cut", x.cut(at, at), 0);
                e.counts("raise, sum and cut at " + at + " of " + n, x, counts);
                e.shape("four empty ranges at " + at + " of " + n, x, shape);
            }
        }
    }

    private static void ranks(Edges e) {
        SplaySequence x = new SplaySequence();
        e.is("potential() of nothing", x.potential(), 0);
        for (int n = 1; n <= 60; n++) {
            int before = x.potential();
            x.insert(n - 1, 0);
            int due = n < 2 ? 0 : n < 4 ? 1 : n < 8 ? 2 : n < 16 ? 3 : n < 32 ? 4 : 5;
            e.is("the rank of a subtree of " + n, x.potential() - before, due);
        }
    }

    private static void numbersOfFingers(Edges e) {
        SplaySequence x = Samples.chain(4);
        for (int finger = 0; finger < 4; finger++) {
            e.is("point(" + finger + ", ..)", x.point(finger, 3 - finger), 3 - finger);
        }
        for (int finger = 0; finger < 4; finger++) {
            e.is("whereIs(" + finger + ")", x.whereIs(finger), 1);
            e.is("follow(" + finger + ")", x.follow(finger), 3 - finger);
        }
        for (int finger : new int[] {-1, 4, Integer.MIN_VALUE, Integer.MAX_VALUE}) {
            e.refusesPlace("point(" + finger + ", 0)", Samples::rich, y -> y.point(finger, 0));
        }
    }

    private static void fingersAtFirst(Edges e) {
        SplaySequence x = new SplaySequence();
        SplaySequence y = Samples.chain(3);
        for (int finger = 0; finger < 4; finger++) {
            e.is("whereIs(" + finger + ") of a new object", x.whereIs(finger), 0);
            e.is("whereIs(" + finger + ") behind inserts", y.whereIs(finger), 0);
            e.is("follow(" + finger + ") behind inserts", y.follow(finger), -1);
        }
    }

    private static void fingersStay(Edges e) {
        SplaySequence x = Samples.chain(5);
        x.point(3, 1);
        x.reverse(0, 5);
        e.is("follow(3) behind reverse", x.follow(3), 3);
        x.cut(2, 5);
        e.is("whereIs(3) behind cut", x.whereIs(3), 2);
        x.insert(0, 1);
        e.is("whereIs(3) behind insert of its value", x.whereIs(3), 2);
        x.paste(1);
        e.is("follow(3) behind paste", x.follow(3), 2);
        x.set(2, 9);
        x.raise(0, 6, 1);
        e.is("follow(3) behind set and raise", x.follow(3), 2);
        e.is("the value there", x.get(2), 10);
    }

    private static void fingersOfRemovedNode(Edges e) {
        SplaySequence x = Samples.chain(5);
        x.point(0, 2);
        x.point(3, 2);
        x.point(1, 3);
        x.point(2, 1);
        x.remove(2);
        e.is("whereIs(0)", x.whereIs(0), 0);
        e.is("whereIs(3)", x.whereIs(3), 0);
        e.is("follow(1), on the right neighbour", x.follow(1), 2);
        e.is("follow(2), on the left neighbour", x.follow(2), 1);
        x.insert(2, 2);
        e.is("whereIs(0) behind insert of its value", x.whereIs(0), 0);
        SplaySequence y = Samples.chain(1);
        y.point(3, 0);
        y.remove(0);
        e.is("whereIs(3) behind remove of the only node", y.whereIs(3), 0);
        e.is("follow(3) behind remove of the only node", y.follow(3), -1);
    }

    private static void thrownChangesNothing(Edges e) {
        Checks.Call[] calls = {
            x -> x.insert(7, 1), x -> x.insert(0, 1001), x -> x.remove(6), x -> x.get(6), x -> x.set(6, 1),
            x -> x.set(0, -1001), x -> x.reverse(0, 7), x -> x.raise(0, 7, 1), x -> x.raise(0, 6, 1001),
            x -> x.sum(0, 7), x -> x.least(0, 7), x -> x.least(3, 3), x -> x.cut(0, 7), x -> x.cut(0, 6),
            x -> x.paste(7), x -> x.point(4, 0), x -> x.point(0, 6), x -> x.follow(4), x -> x.move(4, 0),
            x -> x.move(0, 6), x -> x.move(1, 0), x -> x.move(2, 0), x -> x.depth(6), x -> x.subtree(6),
            x -> x.child(6, true), x -> x.whereIs(4), x -> x.plain(6), x -> x.plainSum(0, 7),
        };
        e.is("lastSteps() ahead", Samples.rich().lastSteps() > 0 ? 1 : 0, 1);
        for (int number = 0; number < calls.length; number++) {
            SplaySequence x = Samples.rich();
            boolean thrown = Checks.outcome(x, calls[number]).startsWith("throws.");
            e.is("call " + number + " throws", thrown ? 1 : 0, 1);
            e.isText("all answers behind it", Edges.portrait(x), Edges.portrait(Samples.rich()));
        }
        e.refusesState("insert of the 61st value", () -> Samples.full(20), x -> x.insert(20, 1));
    }

    private static void firstNamed(Edges e) {
        Supplier<SplaySequence> made = () -> Samples.full(20);
        e.refusesPlace("insert, all three", made, x -> x.insert(41, 1001));
        e.refusesPlace("insert, the first two", Samples::rich, x -> x.insert(-1, -1001));
        e.refusesPlace("insert, the first and the third", made, x -> x.insert(-1, 0));
        e.refusesArgument("insert, the last two", made, x -> x.insert(0, 1001));
        e.refusesPlace("set, both", made, x -> x.set(40, 1001));
        e.refusesPlace("raise, both", made, x -> x.raise(0, 41, -1001));
        e.refusesPlace("raise of an empty range at no position, both", made, x -> x.raise(41, 41, 1001));
        e.refusesPlace("least, both", made, x -> x.least(41, 41));
        e.refusesPlace("least, both, below 0", made, x -> x.least(-1, -1));
        e.refusesPlace("cut, both", made, x -> x.cut(0, 41));
        e.refusesPlace("cut, both, of a range from behind to ahead", made, x -> x.cut(2, 1));
        e.refusesPlace("move, both", made, x -> x.move(4, Integer.MAX_VALUE));
        e.refusesPlace("move in the empty sequence, both", SplaySequence::new, x -> x.move(-1, 0));
    }

    private static void looksLeaveTree(Edges e) {
        SplaySequence x = Samples.rich();
        String shape = Checks.shape(x);
        x.lastSteps();
        x.lastRotations();
        x.steps();
        x.splays();
        x.potential();
        x.size();
        x.clipped();
        x.root();
        x.height();
        for (int at = 0; at < 6; at++) {
            x.depth(at);
            x.subtree(at);
            x.child(at, at % 2 == 0);
            x.plain(at);
            x.plainSum(at, 6);
        }
        for (int finger = 0; finger < 4; finger++) {
            x.whereIs(finger);
        }
        e.shape("all calls that look", x, shape);
        e.isText("all answers behind them", Edges.portrait(x), Edges.portrait(Samples.rich()));
    }
}
