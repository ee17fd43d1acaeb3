/** Each promise of the document by runs small enough to be followed on paper. Shapes are written as Checks.shape does. */
public final class PromiseTest {
    private static final Checks CHECKS = new Checks();

    public static void main(String[] args) {
        newObject();
        insertShape();
        insertWrong();
        insertFull();
        remove();
        removeJoins();
        get();
        splayingSteps();
        set();
        reverse();
        reverseWholeAndEmpty();
        raise();
        sum();
        least();
        rangeSplays();
        cut();
        cutEdges();
        paste();
        pasteEdges();
        point();
        follow();
        fingersGoAlong();
        move();
        moveWrong();
        counts();
        countsOfEachCall();
        potential();
        sizes();
        root();
        height();
        depthSubtreeChild();
        whereIs();
        plain();
        plainSum();
        CHECKS.end("PromiseTest");
    }

    private static void newObject() {
        SplaySequence x = new SplaySequence();
        CHECKS.isText(1, "a new object", Checks.picture(x), "size 0 clipped 0 root -1 height 0 potential 0 last 0/0"
                + " steps 0 splays 0 sum 0 finger 0 finger 0 finger 0 finger 0");
        SplaySequence other = Samples.chain(3);
        other.point(0, 1);
        CHECKS.is(1, "size() of an object beside a used one", x.size(), 0);
        CHECKS.is(1, "whereIs(0) of an object beside a used one", x.whereIs(0), 0);
    }

    private static void insertShape() {
        SplaySequence x = new SplaySequence();
        CHECKS.is(2, "insert into the empty sequence", x.insert(0, 5), 1);
        CHECKS.is(2, "insert at the end", x.insert(1, 7), 2);
        CHECKS.isText(2, "the tree behind an insert at the end", Checks.shape(x), "((.0.)1.)");
        CHECKS.is(2, "insert at the front", x.insert(0, 3), 3);
        CHECKS.isText(2, "the tree behind an insert at the front", Checks.shape(x), "(.0((.1.)2.))");
        CHECKS.is(2, "splays of inserts at the ends", x.splays(), 0);
        CHECKS.isText(2, "the row", Checks.plainRow(x), "3 5 7");

        SplaySequence y = Samples.chain(3);
        CHECKS.is(2, "insert in the middle", y.insert(1, 9), 4);
        CHECKS.isText(2, "the tree behind an insert in the middle", Checks.shape(y), "((.0.)1(.2(.3.)))");
        CHECKS.isText(2, "the row behind an insert in the middle", Checks.plainRow(y), "0 9 1 2");
        CHECKS.is(2, "steps of an insert in the middle", y.lastSteps(), 1);
        CHECKS.is(2, "splays of an insert in the middle", y.splays(), 1);
        CHECKS.isText(2, "the row by way of the tree", Checks.treeRow(y), "0 9 1 2");
    }

    private static void insertWrong() {
        SplaySequence x = Samples.chain(3);
        CHECKS.failsPlace(2, "insert(-1, 0)", x, y -> y.insert(-1, 0));
        CHECKS.failsPlace(2, "insert(4, 0) of 3", x, y -> y.insert(4, 0));
        CHECKS.failsPlace(2, "insert(4, 1001) of 3", x, y -> y.insert(4, 1001));
        CHECKS.failsPlace(2, "insert at the greatest int", x, y -> y.insert(Integer.MAX_VALUE, 0));
        x = Samples.chain(2);
        CHECKS.failsPlace(2, "insert at the least int", x, y -> y.insert(Integer.MIN_VALUE, 0));
        CHECKS.failsArgument(2, "insert(0, 1001)", x, y -> y.insert(0, 1001));
        CHECKS.failsArgument(2, "insert(2, -1001)", x, y -> y.insert(2, -1001));
        CHECKS.failsArgument(2, "insert(0, the least int)", x, y -> y.insert(0, Integer.MIN_VALUE));
        CHECKS.is(2, "insert(0, 1000)", x.insert(0, 1000), 3);
        CHECKS.is(2, "insert(3, -1000)", x.insert(3, -1000), 4);
        CHECKS.isText(2, "the row with the outermost values", Checks.plainRow(x), "1000 0 1 -1000");
    }

    private static void insertFull() {
        SplaySequence x = Samples.chain(59);
        CHECKS.is(2, "the 60th insert", x.insert(59, 59), 60);
        CHECKS.failsState(2, "the 61st insert", x, y -> y.insert(0, 1));
        CHECKS.failsArgument(2, "the 61st insert, of a value out of range", x, y -> y.insert(0, 1001));
        CHECKS.failsPlace(2, "the 61st insert, at no position", x, y -> y.insert(61, 1001));
        x = Samples.chain(60);
        x.cut(0, 60);
        CHECKS.failsState(2, "insert beside a full clipboard", x, y -> y.insert(0, 1));
        x.paste(0);
        x.cut(10, 11);
        CHECKS.failsState(2, "insert with 59 and 1 in the clipboard", x, y -> y.insert(0, 1));
        x.remove(0);
        CHECKS.is(2, "insert with 58 and 1 in the clipboard", x.insert(0, 1), 59);
        CHECKS.failsState(2, "insert with 59 and 1 again", x, y -> y.insert(59, 1));
    }

    private static void remove() {
        SplaySequence x = Samples.chain(1);
        CHECKS.is(3, "remove of the only value", x.remove(0), 0);
        CHECKS.is(3, "size behind it", x.size(), 0);
        CHECKS.is(3, "root behind it", x.root(), -1);
        CHECKS.is(3, "splays behind it", x.splays(), 1);
        CHECKS.failsPlace(3, "remove(0) of 0", x, y -> y.remove(0));
        x = Samples.chain(4);
        CHECKS.failsPlace(3, "remove(-1)", x, y -> y.remove(-1));
        CHECKS.failsPlace(3, "remove(4) of 4", x, y -> y.remove(4));
        CHECKS.is(3, "remove(3)", x.remove(3), 3);
        CHECKS.is(3, "splays of a remove without a right subtree", x.splays(), 1);
        CHECKS.isText(3, "the tree then", Checks.shape(x), "(((.0.)1.)2.)");
        x.insert(0, 8);
        CHECKS.is(3, "remove of a raised value", raisedAndRemoved(x), 108);
        CHECKS.isText(3, "the row then", Checks.plainRow(x), "100 101 102");
        CHECKS.isText(3, "the row by way of the tree then", Checks.treeRow(x), "100 101 102");
    }

    private static int raisedAndRemoved(SplaySequence x) {
        x.raise(0, 4, 100);
        return x.remove(0);
    }

    private static void removeJoins() {
        SplaySequence x = Samples.chain(4);
        // 3 is the root: 2 below it, 1 below that. A double step brings 1 up: ((0)1(2(3))).
        CHECKS.is(3, "remove(1)", x.remove(1), 1);
        CHECKS.isText(3, "the tree behind remove(1)", Checks.shape(x), "(.0(.1(.2.)))");
        CHECKS.is(3, "splays of remove(1), a root among them", x.splays(), 2);
        CHECKS.is(3, "steps of remove(1)", x.lastSteps(), 1);
        CHECKS.is(3, "rotations of remove(1)", x.lastRotations(), 2);

        SplaySequence y = Samples.chain(5);
        // Two double steps bring 0 up, then 3 up again: its left subtree is then 0 with 1 and 2 on the right.
        y.get(0);
        y.get(3);
        CHECKS.is(3, "remove of the root", y.remove(3), 3);
        CHECKS.isText(3, "the row behind it", Checks.plainRow(y), "0 1 2 4");
        CHECKS.is(3, "the root is the last one of the left part", y.root(), 2);
        CHECKS.is(3, "its right child is the right part", y.child(2, true), 3);
    }

    private static void get() {
        SplaySequence x = Samples.chain(3);
        CHECKS.failsPlace(4, "get(-1)", x, y -> y.get(-1));
        CHECKS.failsPlace(4, "get(3) of 3", x, y -> y.get(3));
        CHECKS.failsPlace(4, "get of the least int", x, y -> y.get(Integer.MIN_VALUE));
        CHECKS.failsPlace(4, "get of the greatest int", x, y -> y.get(Integer.MAX_VALUE));
        CHECKS.is(4, "get(2), the root", x.get(2), 2);
        CHECKS.is(4, "steps of a root", x.lastSteps(), 0);
        CHECKS.is(4, "splays with a root", x.splays(), 1);
        CHECKS.is(4, "get(1)", x.get(1), 1);
        CHECKS.isText(4, "the tree behind get(1)", Checks.shape(x), "((.0.)1(.2.))");
        CHECKS.is(4, "get(0)", x.get(0), 0);
        CHECKS.isText(4, "the tree behind get(0)", Checks.shape(x), "(.0(.1(.2.)))");
    }

    private static void splayingSteps() {
        SplaySequence x = Samples.chain(3);
        x.get(0);
        CHECKS.isText(4, "both left children", Checks.shape(x), "(.0(.1(.2.)))");
        CHECKS.isText(15, "as steps/rotations", x.lastSteps() + "/" + x.lastRotations(), "1/2");
        x.get(2);
        CHECKS.isText(4, "both right children", Checks.shape(x), "(((.0.)1.)2.)");
        CHECKS.isText(15, "as steps/rotations", x.lastSteps() + "/" + x.lastRotations(), "1/2");

        SplaySequence y = Samples.chain(2);
        y.insert(0, 9);
        // 0 is the root, 2 its right child, 1 the left child of that.
        y.get(1);
        CHECKS.isText(4, "a left child of a right child", Checks.shape(y), "((.0.)1(.2.))");
        CHECKS.isText(15, "as steps/rotations", y.lastSteps() + "/" + y.lastRotations(), "1/2");

        SplaySequence z = new SplaySequence();
        z.insert(0, 1);
        z.insert(0, 0);
        z.insert(2, 2);
        // 2 is the root, 0 its left child, 1 the right child of that.
        z.get(1);
        CHECKS.isText(4, "a right child of a left child", Checks.shape(z), "((.0.)1(.2.))");
        CHECKS.isText(15, "as steps/rotations", z.lastSteps() + "/" + z.lastRotations(), "1/2");

        SplaySequence w = Samples.chain(4);
        w.get(0);
        CHECKS.isText(4, "a double step and a single one", Checks.shape(w), "(.0((.1(.2.))3.))");
        CHECKS.isText(15, "as steps/rotations", w.lastSteps() + "/" + w.lastRotations(), "2/3");
    }

    private static void set() {
        SplaySequence x = Samples.chain(3);
        CHECKS.failsPlace(5, "set(-1, 0)", x, y -> y.set(-1, 0));
        CHECKS.failsPlace(5, "set(3, 0) of 3", x, y -> y.set(3, 0));
        CHECKS.failsPlace(5, "set(3, 1001) of 3", x, y -> y.set(3, 1001));
        CHECKS.failsArgument(5, "set(0, 1001)", x, y -> y.set(0, 1001));
        CHECKS.failsArgument(5, "set(0, -1001)", x, y -> y.set(0, -1001));
        CHECKS.is(5, "set(1, -1000)", x.set(1, -1000), 1);
        CHECKS.isText(5, "the tree behind set(1, ..)", Checks.shape(x), "((.0.)1(.2.))");
        CHECKS.is(5, "splays", x.splays(), 1);
        CHECKS.is(5, "set(1, 1000)", x.set(1, 1000), -1000);
        CHECKS.isText(5, "the row", Checks.plainRow(x), "0 1000 2");
        CHECKS.isText(5, "the row by way of the tree", Checks.treeRow(x), "0 1000 2");
        x.raise(0, 3, 500);
        CHECKS.is(5, "set answers a raised value", x.set(1, 0), 1500);
    }

    private static void reverse() {
        SplaySequence x = Samples.chain(4);
        // Ahead of 3: 3 is splayed, a root; 2 goes up in the rest. Ahead of 1: 1 goes up there, so that (1(2)) is
        // the range, and turned ((1)2) by values. Then 0 is joined with it, and that with 3: its last node is splayed.
        CHECKS.is(6, "reverse(1, 3)", x.reverse(1, 3), 2);
        CHECKS.isText(6, "the row", Checks.plainRow(x), "0 2 1 3");
        CHECKS.isText(6, "the tree", Checks.shape(x), "((.0(.1.))2(.3.))");
        CHECKS.is(6, "splays", x.splays(), 4);
        CHECKS.isText(6, "steps/rotations", x.lastSteps() + "/" + x.lastRotations(), "2/2");
        CHECKS.isText(6, "the row by way of the tree", Checks.treeRow(x), "0 2 1 3");
        SplaySequence z = Samples.chain(4);
        CHECKS.failsPlace(6, "reverse(-1, 2)", z, y -> y.reverse(-1, 2));
        CHECKS.failsPlace(6, "reverse(0, 5) of 4", z, y -> y.reverse(0, 5));
        CHECKS.failsPlace(6, "reverse(3, 2)", z, y -> y.reverse(3, 2));
        CHECKS.failsPlace(6, "reverse(5, 5) of 4", z, y -> y.reverse(5, 5));
        CHECKS.failsPlace(6, "reverse(-1, -1)", z, y -> y.reverse(-1, -1));
    }

    private static void reverseWholeAndEmpty() {
        SplaySequence x = Samples.chain(5);
        CHECKS.is(6, "reverse of all", x.reverse(0, 5), 5);
        CHECKS.isText(6, "the tree", Checks.shape(x), "(.0(.1(.2(.3(.4.)))))");
        CHECKS.is(6, "splays of all", x.splays(), 0);
        CHECKS.isText(6, "the row", Checks.plainRow(x), "4 3 2 1 0");
        x.get(4);
        String before = Checks.shape(x);
        int splays = x.splays();
        for (int at = 0; at <= 5; at++) {
            CHECKS.is(6, "reverse of an empty range", x.reverse(at, at), 0);
            CHECKS.is(6, "steps of an empty range", x.lastSteps(), 0);
        }
        CHECKS.is(6, "splays of empty ranges", x.splays(), splays);
        CHECKS.isText(6, "the tree behind empty ranges", Checks.shape(x), before);
        CHECKS.is(6, "reverse of one value", x.reverse(2, 3), 1);
        CHECKS.isText(6, "the row behind it", Checks.plainRow(x), "4 3 2 1 0");
        x.reverse(0, 5);
        CHECKS.isText(6, "the row turned back", Checks.treeRow(x), "0 1 2 3 4");
    }

    private static void raise() {
        SplaySequence x = Samples.chain(4);
        CHECKS.failsPlace(7, "raise(-1, 2, 0)", x, y -> y.raise(-1, 2, 0));
        CHECKS.failsPlace(7, "raise(0, 5, 0) of 4", x, y -> y.raise(0, 5, 0));
        CHECKS.failsPlace(7, "raise(2, 1, 1001)", x, y -> y.raise(2, 1, 1001));
        x = Samples.chain(4);
        CHECKS.failsArgument(7, "raise(0, 4, 1001)", x, y -> y.raise(0, 4, 1001));
        CHECKS.failsArgument(7, "raise(0, 0, -1001)", x, y -> y.raise(0, 0, -1001));
        CHECKS.is(7, "raise(1, 3, 1000)", x.raise(1, 3, 1000), 2);
        CHECKS.is(7, "splays", x.splays(), 4);
        CHECKS.isText(7, "the row", Checks.plainRow(x), "0 1001 1002 3");
        CHECKS.is(7, "raise(0, 4, -1000)", x.raise(0, 4, -1000), 4);
        CHECKS.isText(7, "the row", Checks.plainRow(x), "-1000 1 2 -997");
        CHECKS.isText(7, "the row by way of the tree", Checks.treeRow(x), "-1000 1 2 -997");
        int splays = x.splays();
        CHECKS.is(7, "raise(2, 2, 5)", x.raise(2, 2, 5), 0);
        CHECKS.is(7, "splays of an empty range", x.splays(), splays);
        x = Samples.chain(1);
        for (int time = 0; time < 100; time++) {
            x.raise(0, 1, 1000);
        }
        CHECKS.is(7, "a value raised a hundred times", x.get(0), 100000);
        CHECKS.is(7, "its plain value", x.plain(0), 100000);
    }

    private static void sum() {
        SplaySequence x = Samples.chain(4);
        CHECKS.failsPlace(8, "sum(-1, 2)", x, y -> y.sum(-1, 2));
        CHECKS.failsPlace(8, "sum(0, 5) of 4", x, y -> y.sum(0, 5));
        CHECKS.failsPlace(8, "sum(2, 1)", x, y -> y.sum(2, 1));
        CHECKS.is(8, "sum(0, 4)", x.sum(0, 4), 6);
        CHECKS.is(8, "splays of all", x.splays(), 0);
        CHECKS.is(8, "sum(1, 3)", x.sum(1, 3), 3);
        CHECKS.is(8, "splays of the middle", x.splays(), 4);
        CHECKS.isText(8, "the tree", Checks.shape(x), "(((.0.)1.)2(.3.))");
        CHECKS.is(8, "sum(3, 4)", x.sum(3, 4), 3);
        CHECKS.is(8, "sum(2, 2)", x.sum(2, 2), 0);
        CHECKS.is(8, "sum(4, 4)", x.sum(4, 4), 0);
        CHECKS.isText(8, "the row", Checks.plainRow(x), "0 1 2 3");
    }

    private static void least() {
        SplaySequence x = Samples.chain(4);
        CHECKS.failsPlace(9, "least(-1, 2)", x, y -> y.least(-1, 2));
        CHECKS.failsPlace(9, "least(0, 5) of 4", x, y -> y.least(0, 5));
        CHECKS.failsPlace(9, "least(5, 5) of 4", x, y -> y.least(5, 5));
        x = Samples.chain(4);
        CHECKS.failsArgument(9, "least(0, 0)", x, y -> y.least(0, 0));
        CHECKS.failsArgument(9, "least(4, 4) of 4", x, y -> y.least(4, 4));
        CHECKS.is(9, "least(1, 3)", x.least(1, 3), 1);
        CHECKS.is(9, "splays", x.splays(), 4);
        CHECKS.isText(9, "the tree", Checks.shape(x), "(((.0.)1.)2(.3.))");
        x.set(2, -1000);
        CHECKS.is(9, "least(0, 4)", x.least(0, 4), -1000);
        CHECKS.is(9, "least(3, 4)", x.least(3, 4), 3);
        x.raise(0, 4, 1000);
        x.raise(0, 4, 1000);
        CHECKS.is(9, "least above 1000", x.least(0, 2), 2000);
        CHECKS.is(9, "least(0, 3)", x.least(0, 3), 1000);
    }

    /** A range that begins at 0 or ends at the size takes half of the splaying. */
    private static void rangeSplays() {
        SplaySequence x = Samples.chain(4);
        x.sum(0, 2);
        // 2 goes up from below 3, (0 1) is cut off, and its last node, a root, is splayed for the join.
        CHECKS.isText(8, "the tree behind sum(0, 2)", Checks.shape(x), "((.0.)1(.2(.3.)))");
        CHECKS.is(8, "splays of sum(0, 2)", x.splays(), 2);
        CHECKS.is(8, "steps of sum(0, 2)", x.lastSteps(), 1);
        SplaySequence y = Samples.chain(4);
        y.sum(2, 4);
        CHECKS.isText(8, "the tree behind sum(2, 4)", Checks.shape(y), "((.0.)1(.2(.3.)))");
        CHECKS.is(8, "splays of sum(2, 4)", y.splays(), 2);
    }

    private static void cut() {
        SplaySequence x = Samples.chain(5);
        CHECKS.is(10, "cut(1, 3)", x.cut(1, 3), 2);
        CHECKS.is(10, "size", x.size(), 3);
        CHECKS.is(10, "clipped", x.clipped(), 2);
        CHECKS.isText(10, "the row", Checks.plainRow(x), "0 3 4");
        CHECKS.isText(10, "the tree", Checks.shape(x), "(.0(.1(.2.)))");
        CHECKS.is(10, "splays", x.splays(), 3);
        CHECKS.failsState(10, "cut(0, 1) with a clipboard", x, y -> y.cut(0, 1));
        CHECKS.failsState(10, "cut(0, 0) with a clipboard", x, y -> y.cut(0, 0));
        CHECKS.failsPlace(10, "cut(2, 4) of 3 with a clipboard", x, y -> y.cut(2, 4));
        CHECKS.isText(10, "the row by way of the tree", Checks.treeRow(x), "0 3 4");
        SplaySequence w = Samples.chain(5);
        w.cut(4, 5);
        CHECKS.failsState(10, "cut(0, 1) with one value in the clipboard", w, y -> y.cut(0, 1));
        SplaySequence z = Samples.chain(5);
        CHECKS.failsPlace(10, "cut(-1, 1)", z, y -> y.cut(-1, 1));
        CHECKS.failsPlace(10, "cut(2, 1)", z, y -> y.cut(2, 1));
        CHECKS.failsPlace(10, "cut(0, 6) of 5", z, y -> y.cut(0, 6));
    }

    private static void cutEdges() {
        SplaySequence x = Samples.chain(5);
        x.get(0);
        CHECKS.is(10, "cut of an empty range", x.cut(3, 3), 0);
        CHECKS.is(10, "steps of it", x.lastSteps(), 0);
        CHECKS.is(10, "splays of it", x.splays(), 1);
        CHECKS.is(10, "clipped then", x.clipped(), 0);
        CHECKS.is(10, "cut of all", x.cut(0, 5), 5);
        CHECKS.is(10, "splays of it", x.splays(), 1);
        CHECKS.is(10, "size then", x.size(), 0);
        CHECKS.is(10, "clipped then", x.clipped(), 5);
        CHECKS.is(10, "insert beside it", x.insert(0, 7), 1);
        CHECKS.is(10, "paste behind it", x.paste(1), 5);
        CHECKS.isText(10, "the row", Checks.treeRow(x), "7 0 1 2 3 4");
        CHECKS.is(10, "cut at the end", x.cut(4, 6), 2);
        CHECKS.isText(10, "the row", Checks.treeRow(x), "7 0 1 2");
    }

    private static void paste() {
        SplaySequence x = Samples.chain(5);
        x.cut(1, 3);
        CHECKS.failsPlace(11, "paste(-1)", x, y -> y.paste(-1));
        CHECKS.failsPlace(11, "paste(4) of 3", x, y -> y.paste(4));
        // The tree is (.0(.1(.2.))), the clipboard (1(2)) by values, split ahead of 2: ((0)1) and (2).
        CHECKS.is(11, "paste(2)", x.paste(2), 2);
        CHECKS.isText(11, "the row", Checks.plainRow(x), "0 3 1 2 4");
        CHECKS.isText(11, "the tree", Checks.shape(x), "((((.0.)1.)2.)3(.4.))");
        CHECKS.isText(11, "steps/rotations", x.lastSteps() + "/" + x.lastRotations(), "2/4");
        CHECKS.is(11, "splays", x.splays(), 6);
        CHECKS.is(11, "clipped then", x.clipped(), 0);
        CHECKS.is(11, "size then", x.size(), 5);
        CHECKS.isText(11, "the row by way of the tree", Checks.treeRow(x), "0 3 1 2 4");
    }

    private static void pasteEdges() {
        SplaySequence x = Samples.chain(4);
        x.get(0);
        CHECKS.is(11, "paste of an empty clipboard", x.paste(2), 0);
        CHECKS.is(11, "splays of it", x.splays(), 1);
        CHECKS.is(11, "steps of it", x.lastSteps(), 0);
        CHECKS.failsPlace(11, "paste(5) of 4, of an empty clipboard", x, y -> y.paste(5));
        x.cut(0, 4);
        CHECKS.failsPlace(11, "paste(1) of 0", x, y -> y.paste(1));
        int splays = x.splays();
        CHECKS.is(11, "paste into the empty sequence", x.paste(0), 4);
        CHECKS.is(11, "splays of it", x.splays(), splays);
        x.cut(2, 3);
        CHECKS.is(11, "paste at the front", x.paste(0), 1);
        CHECKS.isText(11, "the row", Checks.plainRow(x), "2 0 1 3");
        x.cut(0, 1);
        CHECKS.is(11, "paste at the end", x.paste(3), 1);
        CHECKS.isText(11, "the row", Checks.treeRow(x), "0 1 3 2");
        CHECKS.is(11, "paste once more", x.paste(0), 0);
    }

    private static void point() {
        SplaySequence x = Samples.chain(3);
        CHECKS.failsPlace(12, "point(-1, 0)", x, y -> y.point(-1, 0));
        CHECKS.failsPlace(12, "point(4, 0)", x, y -> y.point(4, 0));
        CHECKS.failsPlace(12, "point(0, -1)", x, y -> y.point(0, -1));
        CHECKS.failsPlace(12, "point(0, 3) of 3", x, y -> y.point(0, 3));
        CHECKS.is(12, "point(0, 1)", x.point(0, 1), 1);
        CHECKS.isText(12, "the tree", Checks.shape(x), "((.0.)1(.2.))");
        CHECKS.is(12, "splays", x.splays(), 1);
        CHECKS.is(12, "point(3, 2)", x.point(3, 2), 2);
        CHECKS.is(12, "follow(0)", x.follow(0), 1);
        CHECKS.is(12, "follow(3)", x.follow(3), 2);
        CHECKS.is(12, "point(0, 0), anew", x.point(0, 0), 0);
        CHECKS.is(12, "follow(0), anew", x.follow(0), 0);
        CHECKS.is(12, "whereIs(1), never pointed", x.whereIs(1), 0);
    }

    private static void follow() {
        SplaySequence x = Samples.chain(4);
        CHECKS.failsPlace(13, "follow(-1)", x, y -> y.follow(-1));
        CHECKS.failsPlace(13, "follow(4)", x, y -> y.follow(4));
        x.point(2, 1);
        x.get(3);
        CHECKS.is(13, "follow(2)", x.follow(2), 1);
        CHECKS.is(13, "the root then", x.root(), 1);
        CHECKS.is(13, "splays then", x.splays(), 3);
        x.get(3);
        CHECKS.is(13, "steps of get(3)", x.lastSteps(), 1);
        CHECKS.is(13, "follow of a finger on none", x.follow(0), -1);
        CHECKS.is(13, "steps of that", x.lastSteps(), 0);
        x.cut(1, 2);
        int splays = x.splays();
        CHECKS.is(13, "follow of a finger in the clipboard", x.follow(2), -1);
        CHECKS.is(13, "splays of that", x.splays(), splays);
        x.paste(3);
        CHECKS.is(13, "follow behind paste", x.follow(2), 3);
    }

    private static void fingersGoAlong() {
        SplaySequence x = Samples.chain(5);
        x.point(0, 1);
        x.point(1, 1);
        x.point(2, 4);
        x.reverse(0, 5);
        CHECKS.is(13, "follow(0) behind reverse", x.follow(0), 3);
        x.insert(0, 7);
        CHECKS.is(13, "follow(0) behind insert ahead", x.follow(0), 4);
        x.set(4, 9);
        CHECKS.is(13, "follow(0) behind set", x.follow(0), 4);
        CHECKS.is(13, "follow(2)", x.follow(2), 1);
        x.remove(0);
        CHECKS.is(13, "follow(2) behind remove ahead", x.follow(2), 0);
        x.remove(3);
        CHECKS.is(13, "follow(0) behind remove of its node", x.follow(0), -1);
        CHECKS.is(13, "follow(1) behind remove of its node", x.follow(1), -1);
        CHECKS.is(13, "follow(2) behind remove of another", x.follow(2), 0);
        x.insert(3, 9);
        CHECKS.is(13, "whereIs(0) behind insert of the same value", x.whereIs(0), 0);
    }

    private static void move() {
        SplaySequence x = Samples.chain(5);
        x.point(0, 2);
        int splays = x.splays();
        CHECKS.is(14, "move(0, 2)", x.move(0, 2), 4);
        CHECKS.is(14, "the root then", x.root(), 4);
        CHECKS.is(14, "splays of it", x.splays(), splays + 2);
        CHECKS.is(14, "follow(0)", x.follow(0), 4);
        CHECKS.is(14, "move(0, -4)", x.move(0, -4), 0);
        CHECKS.is(14, "follow(0)", x.follow(0), 0);
        x.get(3);
        splays = x.splays();
        CHECKS.is(14, "move(0, 0)", x.move(0, 0), 0);
        CHECKS.is(14, "splays of it", x.splays(), splays + 2);
        CHECKS.is(14, "the root then", x.root(), 0);

        SplaySequence z = Samples.chain(3);
        z.point(1, 0);
        z.get(2);
        // First 0 goes up by a double step, then 2 by another one.
        CHECKS.is(14, "move(1, 2)", z.move(1, 2), 2);
        CHECKS.isText(14, "steps/rotations", z.lastSteps() + "/" + z.lastRotations(), "2/4");
        CHECKS.isText(14, "the tree", Checks.shape(z), "(((.0.)1.)2.)");
        CHECKS.is(14, "clipped() behind move", z.clipped(), 0);
    }

    private static void moveWrong() {
        SplaySequence x = Samples.chain(3);
        x.point(0, 1);
        x.get(2);
        CHECKS.failsPlace(14, "move(-1, 0)", x, y -> y.move(-1, 0));
        CHECKS.failsPlace(14, "move(4, 0)", x, y -> y.move(4, 0));
        CHECKS.failsState(14, "move(0, 2) from 1 of 3", x, y -> y.move(0, 2));
        CHECKS.failsState(14, "move(0, -2) from 1", x, y -> y.move(0, -2));
        x = Samples.chain(3);
        x.point(0, 1);
        x.get(2);
        CHECKS.failsState(14, "move(0, the greatest int)", x, y -> y.move(0, Integer.MAX_VALUE));
        CHECKS.failsState(14, "move(0, the least int)", x, y -> y.move(0, Integer.MIN_VALUE));
        CHECKS.failsState(14, "move of a finger on none", x, y -> y.move(1, 0));
        x.cut(1, 2);
        CHECKS.failsState(14, "move of a finger in the clipboard", x, y -> y.move(0, 0));
        x.paste(0);
        CHECKS.is(14, "move behind paste", x.move(0, 1), 1);
    }

    private static void counts() {
        SplaySequence x = Samples.chain(4);
        CHECKS.isText(15, "counts of a chain", counted(x), "0/0 0 0");
        x.get(0);
        CHECKS.isText(16, "counts behind get(0)", counted(x), "2/3 2 1");
        CHECKS.failsPlace(15, "get(9)", x, y -> y.get(9));
        CHECKS.isText(15, "counts behind a call that threw", counted(x), "2/3 2 1");
        x.depth(3);
        x.child(3, true);
        x.plainSum(0, 4);
        x.whereIs(0);
        CHECKS.isText(17, "counts behind calls that look", counted(x), "2/3 2 1");
        x.get(0);
        CHECKS.isText(18, "counts behind a root", counted(x), "0/0 2 2");
        // (.0((.1(.2.))3.)): 1 is a left child of a right child.
        x.get(1);
        CHECKS.isText(17, "counts behind get(1)", counted(x), "1/2 3 3");
        x.insert(4, 4);
        CHECKS.isText(15, "counts behind an insert at the end", counted(x), "0/0 3 3");
        x.get(1);
        CHECKS.isText(16, "counts behind a single step", counted(x), "1/1 4 4");
        x.reverse(2, 2);
        CHECKS.isText(15, "counts behind an empty range", counted(x), "0/0 4 4");
    }

    /** Each call of the first part begins its count anew, here with nothing to splay or with a root. */
    private static void countsOfEachCall() {
        Checks.Call[] calls = {
            x -> x.insert(0, 1), x -> x.remove(x.root()), x -> x.get(x.root()), x -> x.set(x.root(), 1),
            x -> x.reverse(0, 3), x -> x.raise(0, 3, 1), x -> x.sum(0, 3), x -> x.least(0, 3), x -> x.cut(0, 3),
            x -> x.paste(0), x -> x.point(0, x.root()), x -> x.follow(1), x -> x.move(0, 0),
        };
        for (int number = 0; number < calls.length; number++) {
            SplaySequence x = Samples.chain(3);
            x.point(0, 0);
            CHECKS.isText(15, "counts ahead of call " + number, counted(x), "1/2 1 1");
            calls[number].answer(x);
            CHECKS.is(15, "lastSteps() of call " + number, x.lastSteps(), 0);
            CHECKS.is(16, "lastRotations() of call " + number, x.lastRotations(), 0);
            CHECKS.is(17, "steps() behind call " + number, x.steps(), 1);
        }
    }

    private static String counted(SplaySequence x) {
        return x.lastSteps() + "/" + x.lastRotations() + " " + x.steps() + " " + x.splays();
    }

    private static void potential() {
        int[] ofChain = {0, 0, 1, 2, 4, 6, 8, 10, 13};
        for (int n = 0; n < ofChain.length; n++) {
            CHECKS.is(19, "potential of a chain of " + n, Samples.chain(n).potential(), ofChain[n]);
        }
        SplaySequence x = Samples.chain(3);
        x.get(1);
        CHECKS.is(19, "potential of ((.0.)1(.2.))", x.potential(), 1);
        x = Samples.chain(8);
        x.cut(0, 8);
        CHECKS.is(19, "potential of a chain in the clipboard", x.potential(), 13);
        x.insert(0, 1);
        x.insert(0, 1);
        CHECKS.is(19, "potential of both", x.potential(), 14);
    }

    private static void sizes() {
        SplaySequence x = Samples.chain(6);
        CHECKS.is(20, "size()", x.size(), 6);
        CHECKS.is(21, "clipped()", x.clipped(), 0);
        x.cut(1, 5);
        CHECKS.is(20, "size() behind cut", x.size(), 2);
        CHECKS.is(21, "clipped() behind cut", x.clipped(), 4);
        x.remove(0);
        CHECKS.is(20, "size() behind remove", x.size(), 1);
        CHECKS.is(21, "clipped() behind remove", x.clipped(), 4);
        x.paste(0);
        CHECKS.is(20, "size() behind paste", x.size(), 5);
        CHECKS.is(21, "clipped() behind paste", x.clipped(), 0);
    }

    private static void root() {
        SplaySequence x = new SplaySequence();
        CHECKS.is(22, "root() of the empty sequence", x.root(), -1);
        x = Samples.chain(5);
        CHECKS.is(22, "root() of a chain", x.root(), 4);
        for (int at = 0; at < 5; at++) {
            x.get(at);
            CHECKS.is(22, "root() behind get(" + at + ")", x.root(), at);
        }
        x.get(3);
        x.cut(0, 5);
        CHECKS.is(22, "root() with all in the clipboard", x.root(), -1);
    }

    private static void height() {
        CHECKS.is(23, "height() of the empty sequence", new SplaySequence().height(), 0);
        CHECKS.is(23, "height() of 1", Samples.chain(1).height(), 1);
        CHECKS.is(23, "height() of a chain of 60", Samples.chain(60).height(), 60);
        SplaySequence x = Samples.chain(3);
        x.get(1);
        CHECKS.is(23, "height() of ((.0.)1(.2.))", x.height(), 2);
        x.insert(0, 5);
        CHECKS.is(23, "height() with another root", x.height(), 3);
        x.cut(0, 4);
        CHECKS.is(23, "height() with all in the clipboard", x.height(), 0);
    }

    private static void depthSubtreeChild() {
        SplaySequence x = Samples.chain(4);
        x.get(0);
        int[] depths = {0, 2, 3, 1};
        int[] subtrees = {4, 2, 1, 3};
        int[] lefts = {-1, -1, -1, 1};
        int[] rights = {3, 2, -1, -1};
        for (int at = 0; at < 4; at++) {
            CHECKS.is(24, "depth(" + at + ") of (.0((.1(.2.))3.))", x.depth(at), depths[at]);
            CHECKS.is(25, "subtree(" + at + ")", x.subtree(at), subtrees[at]);
            CHECKS.is(26, "child(" + at + ", false)", x.child(at, false), lefts[at]);
            CHECKS.is(26, "child(" + at + ", true)", x.child(at, true), rights[at]);
        }
        CHECKS.is(24, "splays of calls that look", x.splays(), 1);
        CHECKS.failsPlace(24, "depth(-1)", x, y -> y.depth(-1));
        CHECKS.failsPlace(24, "depth(4) of 4", x, y -> y.depth(4));
        CHECKS.failsPlace(25, "subtree(-1)", x, y -> y.subtree(-1));
        CHECKS.failsPlace(25, "subtree(4) of 4", x, y -> y.subtree(4));
        x = Samples.chain(4);
        CHECKS.failsPlace(26, "child(-1, true)", x, y -> y.child(-1, true));
        CHECKS.failsPlace(26, "child(4, false) of 4", x, y -> y.child(4, false));
        CHECKS.failsPlace(24, "depth of the least int", x, y -> y.depth(Integer.MIN_VALUE));
        CHECKS.failsPlace(25, "subtree of the greatest int", x, y -> y.subtree(Integer.MAX_VALUE));
    }

    private static void whereIs() {
        SplaySequence x = Samples.chain(4);
        CHECKS.failsPlace(27, "whereIs(-1)", x, y -> y.whereIs(-1));
        CHECKS.failsPlace(27, "whereIs(4)", x, y -> y.whereIs(4));
        CHECKS.is(27, "whereIs(3) at first", x.whereIs(3), 0);
        x.point(3, 0);
        x.get(2);
        CHECKS.is(27, "whereIs(3) in the sequence", x.whereIs(3), 1);
        CHECKS.is(27, "the root behind whereIs", x.root(), 2);
        x.cut(0, 2);
        CHECKS.is(27, "whereIs(3) in the clipboard", x.whereIs(3), 2);
        x.insert(0, 0);
        CHECKS.is(27, "whereIs(3) beside an insert", x.whereIs(3), 2);
        x.paste(1);
        CHECKS.is(27, "whereIs(3) behind paste", x.whereIs(3), 1);
        x.remove(1);
        CHECKS.is(27, "whereIs(3) behind remove", x.whereIs(3), 0);
    }

    private static void plain() {
        SplaySequence x = Samples.chain(4);
        CHECKS.failsPlace(28, "plain(-1)", x, y -> y.plain(-1));
        CHECKS.failsPlace(28, "plain(4) of 4", x, y -> y.plain(4));
        x.cut(1, 3);
        CHECKS.failsPlace(28, "plain(2) of 2", x, y -> y.plain(2));
        x.raise(0, 2, 10);
        x.paste(0);
        CHECKS.isText(28, "the plain row", Checks.plainRow(x), "1 2 10 13");
        x.reverse(1, 4);
        CHECKS.isText(28, "the plain row behind reverse", Checks.plainRow(x), "1 13 10 2");
        x.insert(1, -5);
        x.remove(4);
        x.set(0, 6);
        CHECKS.isText(28, "the plain row behind insert, remove, set", Checks.plainRow(x), "6 -5 13 10");
        CHECKS.failsPlace(28, "plain(4) of 4 again", x, y -> y.plain(4));
        plainOfFullRow();
    }

    private static void plainOfFullRow() {
        SplaySequence x = Samples.chain(60);
        x.cut(20, 40);
        x.paste(40);
        CHECKS.is(28, "the last of 60 behind paste", x.plain(59), 39);
        CHECKS.is(28, "the first one that moved ahead", x.plain(20), 40);
        for (int time = 0; time < 70; time++) {
            x.remove(0);
            x.insert(59, 100 + time);
        }
        CHECKS.is(28, "the first of 60 behind 70 changes", x.plain(0), 110);
        CHECKS.is(28, "the last of 60 behind 70 changes", x.plain(59), 169);
        x.cut(0, 60);
        CHECKS.failsPlace(28, "plain(0) with all in the clipboard", x, y -> y.plain(0));
        x.paste(0);
        x.reverse(0, 60);
        CHECKS.is(28, "the last of 60 turned round", x.plain(59), 110);
    }

    private static void plainSum() {
        SplaySequence x = Samples.chain(5);
        int splays = x.splays();
        CHECKS.is(29, "plainSum(0, 5)", x.plainSum(0, 5), 10);
        CHECKS.is(29, "plainSum(1, 3)", x.plainSum(1, 3), 3);
        CHECKS.is(29, "plainSum(4, 5)", x.plainSum(4, 5), 4);
        for (int at = 0; at <= 5; at++) {
            CHECKS.is(29, "plainSum of an empty range", x.plainSum(at, at), 0);
        }
        CHECKS.is(29, "splays of plainSum", x.splays(), splays);
        CHECKS.failsPlace(29, "plainSum(-1, 2)", x, y -> y.plainSum(-1, 2));
        CHECKS.failsPlace(29, "plainSum(3, 2)", x, y -> y.plainSum(3, 2));
        CHECKS.failsPlace(29, "plainSum(0, 6) of 5", x, y -> y.plainSum(0, 6));
        x = Samples.chain(5);
        CHECKS.failsPlace(29, "plainSum(6, 6) of 5", x, y -> y.plainSum(6, 6));
        x.cut(3, 5);
        CHECKS.failsPlace(29, "plainSum(0, 4) of 3", x, y -> y.plainSum(0, 4));
        CHECKS.is(29, "plainSum without the clipboard", x.plainSum(0, 3), 3);
    }
}
