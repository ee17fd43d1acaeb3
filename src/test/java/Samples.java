/** Objects that tests begin with. */
final class Samples {
    private Samples() {
    }

    /**
     * Values 0, 1 .. n - 1, each inserted behind the one before: the last one is the root, and each node is the left
     * child of its right neighbour. Nothing is splayed on the way.
     */
    static SplaySequence chain(int n) {
        SplaySequence x = new SplaySequence();
        for (int value = 0; value < n; value++) {
            x.insert(value, value);
        }
        return x;
    }

    /** A chain whose first node was splayed: with more than one value the latest call took steps. */
    static SplaySequence stirred(int n) {
        SplaySequence x = chain(n);
        if (n > 0) {
            x.get(0);
        }
        return x;
    }

    /** Values 0 to 4 and 8; 5, 6 and 7 in the clipboard; finger 0 on 2, finger 1 on 6, the others on none. */
    static SplaySequence rich() {
        SplaySequence x = chain(9);
        x.point(0, 2);
        x.point(1, 6);
        x.cut(5, 8);
        x.get(4);
        x.get(1);
        return x;
    }

    /** 60 values together, so many of them in the clipboard; the latest call took steps if two are left. */
    static SplaySequence full(int clipped) {
        SplaySequence x = chain(60);
        x.cut(0, clipped);
        if (x.size() > 0) {
            x.get(0);
        }
        return x;
    }
}
