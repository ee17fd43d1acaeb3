import java.util.function.Supplier;

/** The boundary cases of the promises on single values: insert, remove, get, set. */
final class WorkEdges {
    private static final int[] SIZES = {0, 1, 2, 5, 59};
    /** The same number is no position of "made", and none between its values. */
    private static final int[] NO_POSITIONS = {-1, -2, 7, 8, 9, 10, 60, Integer.MIN_VALUE, Integer.MAX_VALUE};
    private static final int[] VALUES = {-1000, -999, -1, 0, 1, 999, 1000};
    private static final int[] NO_VALUES = {-1001, 1001, -2000, 2000, Integer.MIN_VALUE, Integer.MAX_VALUE};

    private WorkEdges() {
    }

    static void all(Edges e) {
        e.edge(2, "Inserts a value: the tree is split ahead of the position, and the node of the value becomes the root,"
                + " with the two parts as its subtrees.", WorkEdges::insert);
        e.edge(2, "at: 0 to size()", WorkEdges::insertAt);
        e.edge(2, "value: -1000 to 1000", WorkEdges::insertValue);
        e.edge(2, "Returns the size then.", WorkEdges::insertReturns);
        e.edge(2, "Throws IndexOutOfBoundsException if there is no such position", WorkEdges::insertNoPosition);
        e.edge(2, "Throws IllegalArgumentException if value is out of range", WorkEdges::insertNoValue);
        e.edge(2, "Throws IllegalStateException if the sequence and the clipboard have 60 values together",
                WorkEdges::insertFull);

        e.edge(3, "Removes a value: its node is splayed, and its left and its right subtree are joined.",
                WorkEdges::remove);
        e.edge(3, "at: 0 to size() less 1", WorkEdges::removeAt);
        e.edge(3, "Returns the value.", WorkEdges::removeReturns);
        e.edge(3, "Throws IndexOutOfBoundsException if there is no such position",
                f -> noPosition(f, "remove", (x, at) -> x.remove(at)));

        e.edge(4, "Returns a value; its node is splayed.", WorkEdges::get);
        e.edge(4, "at: 0 to size() less 1", WorkEdges::getAt);
        e.edge(4, "Returns the value.", WorkEdges::getReturns);
        e.edge(4, "Throws IndexOutOfBoundsException if there is no such position",
                f -> noPosition(f, "get", (x, at) -> x.get(at)));

        e.edge(5, "Replaces a value; its node is splayed.", WorkEdges::set);
        e.edge(5, "at: 0 to size() less 1", WorkEdges::setAt);
        e.edge(5, "value: -1000 to 1000", WorkEdges::setValue);
        e.edge(5, "Returns the value before.", WorkEdges::setReturns);
        e.edge(5, "Throws IndexOutOfBoundsException if there is no such position",
                f -> noPosition(f, "set", (x, at) -> x.set(at, 0)));
        e.edge(5, "Throws IllegalArgumentException if value is out of range", WorkEdges::setNoValue);
    }

    /** A call on a position. */
    interface CallAt {
        int answer(SplaySequence x, int at);
    }

    /** Each position that a call does not have, in some objects; those of the clipboard are none of the sequence. */
    static void noPosition(Edges e, String name, CallAt call) {
        for (int at : new int[] {-1, 0, 1, Integer.MIN_VALUE, Integer.MAX_VALUE}) {
            e.refusesPlace(name + " at " + at + " of nothing", SplaySequence::new, x -> call.answer(x, at));
            e.refusesPlace(name + " at " + at + " beside 60 in the clipboard", () -> Samples.full(60),
                    x -> call.answer(x, at));
        }
        for (int at : NO_POSITIONS) {
            e.refusesPlace(name + " at " + at + " of 6", Samples::rich, x -> call.answer(x, at));
        }
        e.refusesPlace(name + " at 6 of 6", Samples::rich, x -> call.answer(x, 6));
        e.refusesPlace(name + " at 60 of 60", () -> Samples.full(0), x -> call.answer(x, 60));
        e.refusesPlace(name + " at -1 of 60", () -> Samples.full(0), x -> call.answer(x, -1));
    }

    private static void insert(Edges e) {
        SplaySequence x = new SplaySequence();
        x.insert(0, 5);
        e.shape("insert into the empty sequence", x, "(.0.)");
        x.insert(1, 6);
        e.shape("insert at the end", x, "((.0.)1.)");
        x.insert(0, 4);
        e.shape("insert at the front", x, "(.0((.1.)2.))");
        x.insert(1, 7);
        e.shape("insert in the middle", x, "((.0.)1(.2(.3.)))");
        e.counts("insert in the middle", x, "1/2 1 1");
        e.isText("the plain row", Checks.plainRow(x), "4 7 5 6");
        e.isText("the row by way of the tree", Checks.treeRow(x), "4 7 5 6");
    }

    private static void insertAt(Edges e) {
        for (int n : SIZES) {
            for (int at = 0; at <= n; at++) {
                SplaySequence x = Samples.stirred(n);
                e.is("insert at " + at + " of " + n, x.insert(at, 777), n + 1);
                e.is("the root then", x.root(), at);
                e.is("the plain value there", x.plain(at), 777);
                e.is("the value there", x.get(at), 777);
                e.is("the last value", x.get(n), at == n ? 777 : n - 1);
                e.is("the first value", x.get(0), at == 0 ? 777 : 0);
            }
        }
    }

    private static void insertValue(Edges e) {
        for (int value : VALUES) {
            SplaySequence x = Samples.rich();
            e.is("insert of " + value, x.insert(6, value), 7);
            e.is("its plain value", x.plain(6), value);
            e.is("its value", x.get(6), value);
        }
    }

    private static void insertReturns(Edges e) {
        e.is("insert into nothing", new SplaySequence().insert(0, 0), 1);
        e.is("insert beside 59 in the clipboard", almostFull(59).insert(0, 0), 1);
        e.is("insert as the 60th, with 1 in the clipboard", almostFull(1).insert(0, 0), 59);
        e.is("insert as the 60th", almostFull(0).insert(59, 0), 60);
    }

    /** 59 values together, so many of them in the clipboard. */
    private static SplaySequence almostFull(int clipped) {
        SplaySequence x = Samples.chain(59);
        x.cut(0, clipped);
        return x;
    }

    private static void insertNoPosition(Edges e) {
        for (int at : new int[] {-1, 1, 60, Integer.MIN_VALUE, Integer.MAX_VALUE}) {
            e.refusesPlace("insert at " + at + " of nothing", SplaySequence::new, x -> x.insert(at, 0));
            e.refusesPlace("insert at " + at + " beside 59 in the clipboard", () -> almostFull(59),
                    x -> x.insert(at, 0));
        }
        for (int at : NO_POSITIONS) {
            e.refusesPlace("insert at " + at + " of 6", Samples::rich, x -> x.insert(at, 0));
        }
        e.refusesPlace("insert at 60 of 59", () -> almostFull(0), x -> x.insert(60, 0));
    }

    private static void insertNoValue(Edges e) {
        for (int value : NO_VALUES) {
            e.refusesArgument("insert of " + value, Samples::rich, x -> x.insert(0, value));
            e.refusesArgument("insert of " + value + " at the end", Samples::rich, x -> x.insert(6, value));
            e.refusesArgument("insert of " + value + " into nothing", SplaySequence::new, x -> x.insert(0, value));
        }
    }

    private static void insertFull(Edges e) {
        for (int clipped : new int[] {0, 1, 29, 59, 60}) {
            Supplier<SplaySequence> made = () -> Samples.full(clipped);
            e.refusesState("insert at the front, " + clipped + " clipped", made, x -> x.insert(0, 0));
            e.refusesState("insert at the end, " + clipped + " clipped", made, x -> x.insert(60 - clipped, 0));
            int due = clipped == 60 ? 1 : 60 - clipped;
            SplaySequence x = almostFull(Math.min(59, clipped));
            e.is("insert of the 60th, " + clipped + " clipped", x.insert(0, 0), due);
            e.isText("insert of the 61st", Checks.outcome(x, y -> y.insert(0, 0)), "throws.IllegalStateException");
        }
    }

    private static void remove(Edges e) {
        SplaySequence x = Samples.stirred(4);
        x.remove(3);
        e.shape("remove of the last", x, "(.0(.1(.2.)))");
        e.counts("remove of the last", x, "1/1 3 2");
        x.remove(0);
        e.shape("remove of the first, a root", x, "(.0(.1.))");
        e.counts("remove of the first, a root", x, "0/0 3 3");
        x.remove(0);
        x.remove(0);
        e.shape("remove of the only one", x, ".");
        e.counts("remove of the only one", x, "0/0 3 5");
        SplaySequence y = Samples.stirred(5);
        y.remove(2);
        e.shape("remove in the middle", y, "((.0.)1(.2(.3.)))");
        e.counts("remove in the middle", y, "3/4 5 3");
    }

    private static void removeAt(Edges e) {
        for (int n : new int[] {1, 2, 5, 60}) {
            for (int at = 0; at < n; at++) {
                SplaySequence x = Samples.stirred(n);
                e.is("remove at " + at + " of " + n, x.remove(at), at);
                e.is("the size then", x.size(), n - 1);
                for (int rest = Math.max(0, at - 1); rest < Math.min(n - 1, at + 2); rest++) {
                    e.is("the plain value at " + rest, x.plain(rest), rest < at ? rest : rest + 1);
                    e.is("the value at " + rest, x.get(rest), rest < at ? rest : rest + 1);
                }
            }
        }
    }

    private static void removeReturns(Edges e) {
        SplaySequence x = Samples.chain(3);
        x.raise(1, 2, 1000);
        x.set(2, -1000);
        x.raise(2, 3, -1000);
        e.is("remove of a value raised above 1000", x.remove(1), 1001);
        e.is("remove of a value raised below -1000", x.remove(1), -2000);
        e.is("remove of the only value", x.remove(0), 0);
    }

    private static void get(Edges e) {
        SplaySequence x = Samples.chain(3);
        x.get(0);
        e.shape("get of the first", x, "(.0(.1(.2.)))");
        e.counts("get of the first", x, "1/2 1 1");
        x.get(2);
        e.shape("get of the last", x, "(((.0.)1.)2.)");
        e.counts("get of the last", x, "1/2 2 2");
    }

    private static void getReturns(Edges e) {
        SplaySequence x = Samples.chain(3);
        x.set(0, -1000);
        x.set(1, 1000);
        x.raise(0, 1, -1000);
        x.raise(1, 2, 1000);
        e.is("get of a value below -1000", x.get(0), -2000);
        e.is("get of a value above 1000", x.get(1), 2000);
        e.is("get of the value beside them", x.get(2), 2);
        x.reverse(0, 3);
        e.is("get of the first turned round", x.get(0), 2);
        e.is("get of the last turned round", x.get(2), -2000);
    }

    private static void getAt(Edges e) {
        for (int n : new int[] {1, 2, 5, 60}) {
            for (int at = 0; at < n; at++) {
                SplaySequence x = Samples.stirred(n);
                int splays = x.splays();
                e.is("get at " + at + " of " + n, x.get(at), at);
                e.is("the root then", x.root(), at);
                e.is("splays of it", x.splays() - splays, 1);
                e.is("the size then", x.size(), n);
            }
        }
    }

    private static void set(Edges e) {
        SplaySequence x = Samples.chain(3);
        x.point(0, 1);
        x.set(0, 7);
        e.shape("set(0, 7)", x, "(.0(.1(.2.)))");
        e.counts("set(0, 7)", x, "1/1 2 2");
        e.isText("the plain row", Checks.plainRow(x), "7 1 2");
        e.isText("the row by way of the tree", Checks.treeRow(x), "7 1 2");
        e.is("whereIs(0), on its neighbour", x.whereIs(0), 1);
    }

    private static void setAt(Edges e) {
        for (int n : new int[] {1, 2, 5, 60}) {
            for (int at = 0; at < n; at++) {
                SplaySequence x = Samples.stirred(n);
                e.is("set at " + at + " of " + n, x.set(at, 777), at);
                e.is("the root then", x.root(), at);
                e.is("the plain value there", x.plain(at), 777);
                e.is("the plain sum", x.plainSum(0, n), n * (n - 1) / 2 - at + 777);
                e.is("the value there", x.get(at), 777);
                e.is("the sum", x.sum(0, n), n * (n - 1) / 2 - at + 777);
            }
        }
    }

    private static void setValue(Edges e) {
        SplaySequence x = Samples.rich();
        x.set(5, 7);
        int before = 7;
        for (int value : VALUES) {
            e.is("set to " + value, x.set(5, value), before);
            e.is("its plain value", x.plain(5), value);
            e.is("its value", x.get(5), value);
            before = value;
        }
    }

    private static void setReturns(Edges e) {
        SplaySequence x = Samples.chain(2);
        e.is("set of the first", x.set(0, 5), 0);
        e.is("set to the value that it has", x.set(0, 5), 5);
        x.raise(0, 2, -1000);
        x.raise(0, 2, -1000);
        e.is("set of a value raised below -1000", x.set(0, 1), -1995);
        x.cut(0, 1);
        e.is("set beside the clipboard", x.set(0, 1), -1999);
        x.paste(0);
        e.is("set of a pasted value", x.set(0, 2), 1);
    }

    private static void setNoValue(Edges e) {
        for (int value : NO_VALUES) {
            e.refusesArgument("set(0, " + value + ")", Samples::rich, x -> x.set(0, value));
            e.refusesArgument("set(5, " + value + ") of 6", Samples::rich, x -> x.set(5, value));
        }
        e.refusesArgument("set(0, 1001) of a value above 1000", () -> {
            SplaySequence x = Samples.stirred(3);
            x.raise(0, 1, 1000);
            x.raise(0, 1, 1000);
            x.get(2);
            return x;
        }, x -> x.set(0, 1001));
    }
}
