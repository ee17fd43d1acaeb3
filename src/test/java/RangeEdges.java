/** The boundary cases of the promises on ranges and on the clipboard: reverse, raise, sum, least, cut, paste. */
final class RangeEdges {
    private static final int LEAST = Integer.MIN_VALUE;
    private static final int MOST = Integer.MAX_VALUE;
    private static final int[] SIZES = {0, 1, 2, 4, 7};
    private static final int[] AMOUNTS = {-1000, -999, -1, 0, 1, 999, 1000};
    private static final int[] NO_AMOUNTS = {-1001, 1001, -2000, 2000, LEAST, MOST};
    /** Pairs that are no range of six values. */
    private static final int[][] NO_RANGES = {
        {-1, -1}, {-1, 0}, {-1, 6}, {-1, 7}, {0, 7}, {6, 7}, {7, 7}, {9, 9}, {7, 6}, {1, 0}, {6, 5}, {6, 0}, {0, -1},
        {LEAST, LEAST}, {LEAST, 0}, {LEAST, 6}, {LEAST, MOST}, {0, MOST}, {MOST, MOST}, {MOST, 0}, {MOST, LEAST},
        {0, LEAST},
    };

    private static final String NO_RANGE = "Throws IndexOutOfBoundsException if from or to is out of range";
    private static final String FROM = "from: 0 to to";
    private static final String TO = "to: 0 to size()";

    private RangeEdges() {
    }

    static void all(Edges e) {
        e.edge(6, "Turns a range round: in its tree the left and the right subtree of each node change places.",
                RangeEdges::reverse);
        e.edge(6, FROM, f -> fromZeroToTo(f, (x, from, to) -> x.reverse(from, to)));
        e.edge(6, TO, RangeEdges::reverseTo);
        e.edge(6, "Returns how many values the range has.", f -> returnsCount(f, (x, from, to) -> x.reverse(from, to)));
        e.edge(6, NO_RANGE, f -> noRange(f, "reverse", (x, from, to) -> x.reverse(from, to)));

        e.edge(7, "Raises all values of a range by an amount.", RangeEdges::raise);
        e.edge(7, FROM, f -> fromZeroToTo(f, (x, from, to) -> x.raise(from, to, 1)));
        e.edge(7, TO, RangeEdges::raiseTo);
        e.edge(7, "amount: -1000 to 1000", RangeEdges::raiseAmount);
        e.edge(7, "Returns how many values the range has.",
                f -> returnsCount(f, (x, from, to) -> x.raise(from, to, -1000)));
        e.edge(7, NO_RANGE, f -> noRange(f, "raise", (x, from, to) -> x.raise(from, to, 1)));
        e.edge(7, "Throws IllegalArgumentException if amount is out of range", RangeEdges::raiseNoAmount);

        e.edge(8, "Works on a range, as the calls above, and returns its sum.", RangeEdges::sum);
        e.edge(8, FROM, f -> fromZeroToTo(f, (x, from, to) -> x.sum(from, to)));
        e.edge(8, TO, RangeEdges::sumTo);
        e.edge(8, "Returns the sum; 0 of an empty range.", RangeEdges::sumOfEmpty);
        e.edge(8, NO_RANGE, f -> noRange(f, "sum", (x, from, to) -> x.sum(from, to)));

        e.edge(9, "Works on a range, as the calls above, and returns its least value.", RangeEdges::least);
        e.edge(9, FROM, RangeEdges::leastFrom);
        e.edge(9, TO, RangeEdges::leastTo);
        e.edge(9, "Returns the least value.", RangeEdges::leastReturns);
        e.edge(9, NO_RANGE, f -> noRange(f, "least", (x, from, to) -> x.least(from, to)));
        e.edge(9, "Throws IllegalArgumentException if the range is empty", RangeEdges::leastOfEmpty);

        e.edge(10, "Cuts a range out: its tree becomes the clipboard; the two other parts are joined.",
                RangeEdges::cut);
        e.edge(10, FROM, f -> fromZeroToTo(f, (x, from, to) -> cutAndPaste(x, from, to)));
        e.edge(10, TO, RangeEdges::cutTo);
        e.edge(10, "Returns how many values the range has.",
                f -> returnsCount(f, (x, from, to) -> cutAndPaste(x, from, to)));
        e.edge(10, NO_RANGE, RangeEdges::cutNoRange);
        e.edge(10, "Throws IllegalStateException if the clipboard is not empty", RangeEdges::cutWithClipboard);

        e.edge(11, "Pastes the clipboard: the tree is split ahead of the position, the first part is joined with the tree"
                + " of the clipboard, and that with the second part. The clipboard is empty then.", RangeEdges::paste);
        e.edge(11, "at: 0 to size()", RangeEdges::pasteAt);
        e.edge(11, "Returns how many values are pasted (if 0, nothing is splayed).", RangeEdges::pasteOfEmpty);
        e.edge(11, "Throws IndexOutOfBoundsException if there is no such position", RangeEdges::pasteNoPosition);
    }

    /** A call on a range. */
    private interface CallRange {
        int answer(SplaySequence x, int from, int to);
    }

    /** As many values as were cut, with the clipboard empty again. */
    private static int cutAndPaste(SplaySequence x, int from, int to) {
        int cut = x.cut(from, to);
        x.paste(from);
        return cut;
    }

    private static void noRange(Edges e, String name, CallRange call) {
        for (int[] range : NO_RANGES) {
            String what = name + " from " + range[0] + " to " + range[1];
            e.refusesPlace(what + " of 6", Samples::rich, x -> call.answer(x, range[0], range[1]));
        }
        int[][] noRangesOfNothing = {{0, 1}, {1, 1}, {-1, 0}, {-1, -1}, {1, 0}, {0, -1}, {0, 60}, {60, 60}};
        for (int[] range : noRangesOfNothing) {
            String what = name + " from " + range[0] + " to " + range[1];
            e.refusesPlace(what + " of nothing", SplaySequence::new, x -> call.answer(x, range[0], range[1]));
            e.refusesPlace(what + " beside 60 in the clipboard", () -> Samples.full(60),
                    x -> call.answer(x, range[0], range[1]));
        }
        e.refusesPlace(name + " from 0 to 61 of 60", () -> Samples.full(0), x -> call.answer(x, 0, 61));
        e.refusesPlace(name + " from 61 to 61 of 60", () -> Samples.full(0), x -> call.answer(x, 61, 61));
    }

    /** The least "from", and the greatest one, which is "to" itself and makes the range empty. */
    private static void fromZeroToTo(Edges e, CallRange call) {
        for (int n : SIZES) {
            for (int to = 0; to <= n; to++) {
                SplaySequence x = Samples.stirred(n);
                call.answer(x, 0, to);
                e.is("size() behind a range from 0 to " + to + " of " + n, x.size(), n);
                int splays = x.splays();
                call.answer(x, to, to);
                e.is("splays of a range from " + to + " to it, of " + n, x.splays() - splays, 0);
                e.is("size() behind it", x.size(), n);
            }
        }
    }

    private static void returnsCount(Edges e, CallRange call) {
        for (int n : SIZES) {
            for (int to = 0; to <= n; to++) {
                for (int from = 0; from <= to; from++) {
                    String what = "the range from " + from + " to " + to + " of " + n;
                    e.is(what, call.answer(Samples.stirred(n), from, to), to - from);
                }
            }
        }
        e.is("the range of all 60", call.answer(Samples.full(0), 0, 60), 60);
    }

    private static void reverse(Edges e) {
        SplaySequence x = Samples.stirred(4);
        x.reverse(0, 4);
        e.shape("reverse of all", x, "((.0((.1.)2.))3.)");
        e.counts("reverse of all", x, "0/0 2 1");
        SplaySequence y = Samples.chain(4);
        y.reverse(1, 3);
        e.shape("reverse in the middle", y, "((.0(.1.))2(.3.))");
        SplaySequence z = Samples.chain(3);
        z.reverse(2, 3);
        e.shape("reverse of the last alone", z, "((.0.)1(.2.))");
        e.isText("the row behind it", Checks.plainRow(z), "0 1 2");
    }

    private static void reverseTo(Edges e) {
        for (int n : SIZES) {
            for (int to = 0; to <= n; to++) {
                SplaySequence x = Samples.stirred(n);
                e.is("reverse to " + to + " of " + n, x.reverse(0, to), to);
                StringBuilder due = new StringBuilder();
                for (int at = 0; at < n; at++) {
                    due.append(at == 0 ? "" : " ").append(at < to ? to - 1 - at : at);
                }
                e.isText("the plain row", Checks.plainRow(x), due.toString());
                e.isText("the row by way of the tree", Checks.treeRow(x), due.toString());
            }
        }
    }

    private static void raise(Edges e) {
        SplaySequence x = Samples.chain(5);
        x.cut(4, 5);
        x.raise(1, 3, 10);
        e.isText("the plain row behind raise(1, 3, 10)", Checks.plainRow(x), "0 11 12 3");
        x.raise(0, 4, 100);
        x.paste(4);
        e.isText("the plain row with what was in the clipboard", Checks.plainRow(x), "100 111 112 103 4");
        e.isText("the row by way of the tree", Checks.treeRow(x), "100 111 112 103 4");
    }

    private static void raiseTo(Edges e) {
        for (int n : SIZES) {
            for (int to = 0; to <= n; to++) {
                SplaySequence x = Samples.stirred(n);
                e.is("raise to " + to + " of " + n, x.raise(0, to, 50), to);
                StringBuilder due = new StringBuilder();
                for (int at = 0; at < n; at++) {
                    due.append(at == 0 ? "" : " ").append(at < to ? at + 50 : at);
                }
                e.isText("the plain row", Checks.plainRow(x), due.toString());
                e.isText("the row by way of the tree", Checks.treeRow(x), due.toString());
            }
        }
    }

    private static void raiseAmount(Edges e) {
        for (int amount : AMOUNTS) {
            SplaySequence x = Samples.rich();
            e.is("raise by " + amount, x.raise(0, 6, amount), 6);
            e.is("the plain sum", x.plainSum(0, 6), 18 + 6 * amount);
            e.is("the last value", x.get(5), 8 + amount);
            e.is("raise of an empty range by " + amount, x.raise(3, 3, amount), 0);
            e.is("the sum", x.sum(0, 6), 18 + 6 * amount);
        }
    }

    private static void raiseNoAmount(Edges e) {
        for (int amount : NO_AMOUNTS) {
            e.refusesArgument("raise of all by " + amount, Samples::rich, x -> x.raise(0, 6, amount));
            e.refusesArgument("raise of one by " + amount, Samples::rich, x -> x.raise(5, 6, amount));
            e.refusesArgument("raise of an empty range by " + amount, Samples::rich, x -> x.raise(6, 6, amount));
            e.refusesArgument("raise of nothing by " + amount, SplaySequence::new, x -> x.raise(0, 0, amount));
        }
    }

    private static void sum(Edges e) {
        SplaySequence x = Samples.chain(4);
        e.is("sum(1, 3)", x.sum(1, 3), 3);
        e.shape("sum(1, 3)", x, "(((.0.)1.)2(.3.))");
        e.counts("sum(1, 3)", x, "2/3 2 4");
        e.is("sum(0, 2)", x.sum(0, 2), 1);
        e.shape("sum(0, 2)", x, "((.0.)1(.2(.3.)))");
        e.counts("sum(0, 2)", x, "0/0 2 6");
        SplaySequence y = Samples.chain(4);
        e.is("sum of all", y.sum(0, 4), 6);
        e.shape("sum of all", y, "((((.0.)1.)2.)3.)");
        e.counts("sum of all", y, "0/0 0 0");
    }

    private static void least(Edges e) {
        SplaySequence x = Samples.chain(4);
        e.is("least(1, 3)", x.least(1, 3), 1);
        e.shape("least(1, 3)", x, "(((.0.)1.)2(.3.))");
        e.counts("least(1, 3)", x, "2/3 2 4");
        SplaySequence y = Samples.chain(4);
        e.is("least of all", y.least(0, 4), 0);
        e.counts("least of all", y, "0/0 0 0");
        e.is("least at the end", y.least(3, 4), 3);
        e.shape("least at the end", y, "(((.0.)1.)2(.3.))");
        e.counts("least at the end", y, "0/0 0 2");
    }

    private static void sumTo(Edges e) {
        for (int n : SIZES) {
            for (int to = 0; to <= n; to++) {
                SplaySequence x = Samples.stirred(n);
                e.is("sum to " + to + " of " + n, x.sum(0, to), to * (to - 1) / 2);
                e.is("sum from there", x.sum(to, n), n * (n - 1) / 2 - to * (to - 1) / 2);
            }
        }
    }

    private static void sumOfEmpty(Edges e) {
        for (int n : SIZES) {
            for (int at = 0; at <= n; at++) {
                SplaySequence x = Samples.stirred(n);
                if (n > 0) {
                    x.raise(0, n, 7);
                }
                e.is("sum from " + at + " to it, of " + n, x.sum(at, at), 0);
            }
        }
        SplaySequence x = Samples.full(60);
        e.is("sum of nothing beside 60 in the clipboard", x.sum(0, 0), 0);
        x.paste(0);
        e.is("sum of all 60", x.sum(0, 60), 1770);
        x.raise(0, 60, -1000);
        e.is("sum of all 60 below 0", x.sum(0, 60), -58230);
    }

    private static void leastFrom(Edges e) {
        for (int n : SIZES) {
            for (int from = 0; from < n; from++) {
                SplaySequence x = Samples.stirred(n);
                e.is("least from " + from + " to " + n, x.least(from, n), from);
                e.is("least of the value at " + from + " alone", x.least(from, from + 1), from);
            }
        }
    }

    private static void leastTo(Edges e) {
        for (int n : SIZES) {
            for (int to = 1; to <= n; to++) {
                SplaySequence x = Samples.stirred(n);
                x.reverse(0, n);
                e.is("least from 0 to " + to + " of " + n, x.least(0, to), n - to);
            }
        }
    }

    private static void leastReturns(Edges e) {
        SplaySequence x = Samples.chain(3);
        x.raise(0, 3, 1000);
        x.raise(0, 3, 1000);
        e.is("least of values above 1000", x.least(0, 3), 2000);
        x.set(1, -1000);
        x.raise(1, 2, -1000);
        e.is("least below -1000", x.least(0, 3), -2000);
        e.is("least beside that", x.least(2, 3), 2002);
        SplaySequence y = Samples.chain(3);
        y.insert(0, -1000);
        y.cut(0, 1);
        e.is("least without the clipboard", y.least(0, 3), 0);
        SplaySequence z = Samples.chain(2);
        z.set(1, 0);
        e.is("least of two that are the same", z.least(0, 2), 0);
    }

    private static void leastOfEmpty(Edges e) {
        for (int at = 0; at <= 6; at++) {
            int here = at;
            e.refusesArgument("least from " + at + " to it, of 6", Samples::rich, x -> x.least(here, here));
        }
        e.refusesArgument("least of nothing", SplaySequence::new, x -> x.least(0, 0));
        e.refusesArgument("least of nothing beside 60 in the clipboard", () -> Samples.full(60), x -> x.least(0, 0));
        e.refusesArgument("least from 60 to it, of 60", () -> Samples.full(0), x -> x.least(60, 60));
    }

    private static void cut(Edges e) {
        SplaySequence x = Samples.stirred(4);
        x.cut(0, 4);
        e.shape("cut of all", x, ".");
        e.counts("cut of all", x, "0/0 2 1");
        e.is("the potential of what is in the clipboard", x.potential(), 4);
        x.paste(0);
        e.shape("paste of all", x, "(.0((.1(.2.))3.))");
        x.cut(0, 1);
        e.shape("cut at the front", x, "(.0((.1.)2.))");
        e.counts("cut at the front", x, "1/2 3 2");
        e.is("clipped() then", x.clipped(), 1);
    }

    private static void cutTo(Edges e) {
        for (int n : SIZES) {
            for (int to = 0; to <= n; to++) {
                SplaySequence x = Samples.stirred(n);
                e.is("cut to " + to + " of " + n, x.cut(0, to), to);
                e.is("size() then", x.size(), n - to);
                e.is("clipped() then", x.clipped(), to);
                e.is("the plain sum then", x.plainSum(0, n - to), n * (n - 1) / 2 - to * (to - 1) / 2);
                e.is("the sum then", x.sum(0, n - to), n * (n - 1) / 2 - to * (to - 1) / 2);
            }
        }
    }

    private static void cutNoRange(Edges e) {
        noRange(e, "cut", (x, from, to) -> x.cut(from, to));
        for (int[] range : NO_RANGES) {
            String what = "cut from " + range[0] + " to " + range[1] + " with an empty clipboard";
            e.refusesPlace(what, () -> Samples.stirred(6), x -> x.cut(range[0], range[1]));
        }
    }

    private static void cutWithClipboard(Edges e) {
        for (int clipped : new int[] {1, 2, 30, 59}) {
            String what = " beside " + clipped + " in the clipboard";
            e.refusesState("cut of all" + what, () -> Samples.full(clipped), x -> x.cut(0, 60 - clipped));
            e.refusesState("cut of one" + what, () -> Samples.full(clipped), x -> x.cut(0, 1));
            e.refusesState("cut of an empty range" + what, () -> Samples.full(clipped), x -> x.cut(0, 0));
        }
        e.refusesState("cut of nothing beside 60", () -> Samples.full(60), x -> x.cut(0, 0));
        SplaySequence x = Samples.stirred(3);
        e.is("cut of an empty range", x.cut(1, 1), 0);
        e.is("cut behind it, with the clipboard still empty", x.cut(1, 2), 1);
        x.paste(0);
        e.is("cut behind paste", x.cut(0, 3), 3);
    }

    private static void paste(Edges e) {
        SplaySequence x = Samples.stirred(4);
        x.cut(0, 4);
        x.paste(0);
        e.shape("paste into the empty sequence", x, "(.0((.1(.2.))3.))");
        e.counts("paste into the empty sequence", x, "0/0 2 1");
        e.is("clipped() then", x.clipped(), 0);
        e.is("cut of all again", x.cut(0, 4), 4);
        x.insert(0, 9);
        e.is("paste behind a value", x.paste(1), 4);
        e.shape("paste behind a value", x, "(.0(.1((.2(.3.))4.)))");
        e.counts("paste behind a value", x, "0/0 2 2");
        e.is("paste once more", x.paste(1), 0);
        e.is("size() then", x.size(), 5);
    }

    private static void pasteAt(Edges e) {
        for (int n : SIZES) {
            for (int at = 0; at <= n; at++) {
                SplaySequence x = Samples.chain(n + 2);
                x.cut(n, n + 2);
                e.is("paste of two at " + at + " of " + n, x.paste(at), 2);
                StringBuilder due = new StringBuilder();
                for (int place = 0; place < n + 2; place++) {
                    int value = place < at ? place : place < at + 2 ? n + place - at : place - 2;
                    due.append(place == 0 ? "" : " ").append(value);
                }
                e.isText("the plain row", Checks.plainRow(x), due.toString());
                e.isText("the row by way of the tree", Checks.treeRow(x), due.toString());
            }
        }
        SplaySequence x = Samples.full(1);
        e.is("paste of one at 59 of 59", x.paste(59), 1);
        e.is("the last value", x.get(59), 0);
    }

    private static void pasteOfEmpty(Edges e) {
        for (int n : SIZES) {
            for (int at = 0; at <= n; at++) {
                SplaySequence x = Samples.stirred(n);
                String shape = Checks.shape(x);
                String due = "0/0 " + x.steps() + " " + x.splays();
                e.is("paste of nothing at " + at + " of " + n, x.paste(at), 0);
                e.counts("it", x, due);
                e.shape("it", x, shape);
            }
        }
        e.is("paste of one", Samples.full(1).paste(0), 1);
        e.is("paste of 60", Samples.full(60).paste(0), 60);
    }

    private static void pasteNoPosition(Edges e) {
        for (int at : new int[] {-1, 7, 8, 9, 10, 60, LEAST, MOST}) {
            e.refusesPlace("paste at " + at + " of 6", Samples::rich, x -> x.paste(at));
            e.refusesPlace("paste of nothing at " + at + " of 6", () -> Samples.stirred(6), x -> x.paste(at));
        }
        for (int at : new int[] {-1, 1, 60, LEAST, MOST}) {
            e.refusesPlace("paste of nothing at " + at + " of nothing", SplaySequence::new, x -> x.paste(at));
            e.refusesPlace("paste of 60 at " + at + " of nothing", () -> Samples.full(60), x -> x.paste(at));
        }
        e.refusesPlace("paste of nothing at 61 of 60", () -> Samples.full(0), x -> x.paste(61));
    }
}
