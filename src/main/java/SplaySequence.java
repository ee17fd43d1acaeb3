/**
 * A sequence of values kept in a splay tree, with a clipboard, four fingers and a plain row beside it.
 * What each call promises stands in the document, ../shared/DOC.md.
 */
public final class SplaySequence {
    private static final int MOST_NODES = 60;
    private static final int MOST_AMOUNT = 1000;
    private static final int FINGERS = 4;

    private final Tree sequence = new Tree();
    private final Tree clipboard = new Tree();
    // The parts that a call splits off on the way; both are empty between calls.
    private final Tree range = new Tree();
    private final Tree tail = new Tree();
    private final Splayer splayer = new Splayer();
    private final Node[] fingers = new Node[FINGERS];
    private final Row row = new Row();
    private final Row clippedRow = new Row();

    public SplaySequence() {
    }

    // ---- work on the sequence

    public int insert(int at, int value)
            throws IndexOutOfBoundsException, IllegalArgumentException, IllegalStateException {
        checkGap(at);
        checkAmount(value);
        if (sequence.count() + clipboard.count() >= MOST_NODES) {
            throw new IllegalStateException("the sequence and the clipboard are full");
        }
        splayer.beginCall();
        splayer.split(sequence, at, tail);
        Node node = new Node(value);
        node.takeLeft(sequence.takeAll());
        node.takeRight(tail.takeAll());
        sequence.root = node;
        row.open(at, value);
        return sequence.count();
    }

    public int remove(int at) throws IndexOutOfBoundsException {
        Node node = nodeAt(at);
        splayer.beginCall();
        splayer.splay(sequence, node);
        sequence.root = node.dropLeft();
        tail.root = node.dropRight();
        splayer.join(sequence, tail);
        liftFingersFrom(node);
        row.close(at);
        return node.value;
    }

    public int get(int at) throws IndexOutOfBoundsException {
        Node node = nodeAt(at);
        splayer.beginCall();
        splayer.splay(sequence, node);
        return node.value;
    }

    public int set(int at, int value) throws IndexOutOfBoundsException, IllegalArgumentException {
        Node node = nodeAt(at);
        checkAmount(value);
        splayer.beginCall();
        splayer.splay(sequence, node);
        int before = node.value;
        node.value = value;
        row.replace(at, value);
        return before;
    }

    public int reverse(int from, int to) throws IndexOutOfBoundsException {
        checkRange(from, to);
        splayer.beginCall();
        takeRange(from, to);
        range.turnRound();
        putRangeBack();
        row.turnRound(from, to);
        return to - from;
    }

    public int raise(int from, int to, int amount) throws IndexOutOfBoundsException, IllegalArgumentException {
        checkRange(from, to);
        checkAmount(amount);
        splayer.beginCall();
        takeRange(from, to);
        range.addToAll(amount);
        putRangeBack();
        row.addToAll(from, to, amount);
        return to - from;
    }

    public int sum(int from, int to) throws IndexOutOfBoundsException {
        checkRange(from, to);
        splayer.beginCall();
        takeRange(from, to);
        int total = range.total();
        putRangeBack();
        return total;
    }

    public int least(int from, int to) throws IndexOutOfBoundsException, IllegalArgumentException {
        checkRange(from, to);
        if (from == to) {
            throw new IllegalArgumentException("an empty range has no least value");
        }
        splayer.beginCall();
        takeRange(from, to);
        int lowest = range.lowest();
        putRangeBack();
        return lowest;
    }

    public int cut(int from, int to) throws IndexOutOfBoundsException, IllegalStateException {
        checkRange(from, to);
        if (clipboard.count() > 0) {
            throw new IllegalStateException("the clipboard is not empty");
        }
        splayer.beginCall();
        takeRange(from, to);
        clipboard.root = range.takeAll();
        splayer.join(sequence, tail);
        row.moveOut(from, to, clippedRow);
        return to - from;
    }

    public int paste(int at) throws IndexOutOfBoundsException {
        checkGap(at);
        splayer.beginCall();
        int pasted = clipboard.count();
        // Without this an empty clipboard would still cost the splaying of a split and a join.
        if (pasted > 0) {
            splayer.split(sequence, at, tail);
            splayer.join(sequence, clipboard);
            splayer.join(sequence, tail);
            row.moveIn(at, clippedRow);
        }
        return pasted;
    }

    public int point(int finger, int at) throws IndexOutOfBoundsException {
        checkFinger(finger);
        Node node = nodeAt(at);
        splayer.beginCall();
        splayer.splay(sequence, node);
        fingers[finger] = node;
        return node.value;
    }

    public int follow(int finger) throws IndexOutOfBoundsException {
        checkFinger(finger);
        Node node = fingers[finger];
        splayer.beginCall();
        if (node == null || !sequence.holds(node)) {
            return -1;
        }
        splayer.splay(sequence, node);
        return node.position();
    }

    public int move(int finger, int by) throws IndexOutOfBoundsException, IllegalStateException {
        checkFinger(finger);
        Node node = fingers[finger];
        if (node == null || !sequence.holds(node)) {
            throw new IllegalStateException("the finger is not on a node of the sequence");
        }
        int here = node.position();
        // Not by way of the sum: this holds for any "by" without a wrap-around.
        if (by < -here || by >= sequence.count() - here) {
            throw new IllegalStateException("there is no such new position");
        }
        int at = here + by;
        Node goal = nodeAt(at);
        splayer.beginCall();
        splayer.splay(sequence, node);
        splayer.splay(sequence, goal);
        fingers[finger] = goal;
        return at;
    }

    // ---- work that was done; nothing from here on changes anything

    public int lastSteps() {
        return splayer.callSteps;
    }

    public int lastRotations() {
        return splayer.callRotations;
    }

    public int steps() {
        return splayer.allSteps;
    }

    public int splays() {
        return splayer.allSplays;
    }

    public int potential() {
        return sequence.sumOfRanks() + clipboard.sumOfRanks();
    }

    // ---- trees

    public int size() {
        return sequence.count();
    }

    public int clipped() {
        return clipboard.count();
    }

    public int root() {
        return positionOrNone(sequence.root);
    }

    public int height() {
        return sequence.levels();
    }

    public int depth(int at) throws IndexOutOfBoundsException {
        return nodeAt(at).nodesAbove();
    }

    public int subtree(int at) throws IndexOutOfBoundsException {
        return nodeAt(at).count;
    }

    public int child(int at, boolean right) throws IndexOutOfBoundsException {
        Node node = nodeAt(at);
        return positionOrNone(right ? node.right : node.left);
    }

    public int whereIs(int finger) throws IndexOutOfBoundsException {
        checkFinger(finger);
        Node node = fingers[finger];
        if (node == null) {
            return 0;
        }
        return sequence.holds(node) ? 1 : 2;
    }

    // ---- the plain row

    public int plain(int at) throws IndexOutOfBoundsException {
        nodeAt(at);
        return row.valueAt(at);
    }

    public int plainSum(int from, int to) throws IndexOutOfBoundsException {
        checkRange(from, to);
        return row.total(from, to);
    }

    private Node nodeAt(int at) {
        Node node = sequence.find(at);
        if (node == null) {
            throw new IndexOutOfBoundsException("no such position");
        }
        return node;
    }

    private void checkGap(int at) {
        if (at < 0 || at > sequence.count()) {
            throw new IndexOutOfBoundsException("no such position");
        }
    }

    private void checkRange(int from, int to) {
        if (from < 0 || from > to || to > sequence.count()) {
            throw new IndexOutOfBoundsException("no such range");
        }
    }

    private void checkFinger(int finger) {
        if (finger < 0 || finger >= fingers.length) {
            throw new IndexOutOfBoundsException("no such finger");
        }
    }

    private static void checkAmount(int amount) {
        if (amount < -MOST_AMOUNT || amount > MOST_AMOUNT) {
            throw new IllegalArgumentException("a value or an amount is out of range");
        }
    }

    private static int positionOrNone(Node node) {
        return node == null ? -1 : node.position();
    }

    private void liftFingersFrom(Node node) {
        for (int finger = 0; finger < fingers.length; finger++) {
            if (fingers[finger] == node) {
                fingers[finger] = null;
            }
        }
    }

    /** Leaves the tree whole for an empty range: to split it and join it again would splay. */
    private void takeRange(int from, int to) {
        if (from < to) {
            splayer.split(sequence, to, tail);
            splayer.split(sequence, from, range);
        }
    }

    private void putRangeBack() {
        splayer.join(sequence, range);
        splayer.join(sequence, tail);
    }

    private static final class Node {
        private Node left;
        private Node right;
        private Node parent;
        private int count = 1;
        private int value;

        Node(int value) {
            this.value = value;
        }

        static int countOf(Node node) {
            return node == null ? 0 : node.count;
        }

        boolean isLeftChild() {
            return parent != null && parent.left == this;
        }

        void takeLeft(Node below) {
            left = below;
            if (below != null) {
                below.parent = this;
            }
            count = 1 + countOf(left) + countOf(right);
        }

        void takeRight(Node below) {
            right = below;
            if (below != null) {
                below.parent = this;
            }
            count = 1 + countOf(left) + countOf(right);
        }

        Node dropLeft() {
            Node below = left;
            if (below != null) {
                below.parent = null;
            }
            takeLeft(null);
            return below;
        }

        Node dropRight() {
            Node below = right;
            if (below != null) {
                below.parent = null;
            }
            takeRight(null);
            return below;
        }

        void swapSides() {
            Node first = left;
            left = right;
            right = first;
        }

        int position() {
            int before = countOf(left);
            Node node = this;
            while (node.parent != null) {
                if (!node.isLeftChild()) {
                    before += node.parent.count - node.count;
                }
                node = node.parent;
            }
            return before;
        }

        int nodesAbove() {
            int above = 0;
            for (Node node = parent; node != null; node = node.parent) {
                above++;
            }
            return above;
        }

        Node top() {
            Node node = this;
            while (node.parent != null) {
                node = node.parent;
            }
            return node;
        }

        /** The next node of a walk that comes to each node ahead of those below it; null behind the last one. */
        Node nextOfWalk() {
            if (left != null) {
                return left;
            }
            if (right != null) {
                return right;
            }
            Node node = this;
            while (node.parent != null) {
                if (node.isLeftChild() && node.parent.right != null) {
                    return node.parent.right;
                }
                node = node.parent;
            }
            return null;
        }
    }

    private static final class Tree {
        private Node root;

        int count() {
            return Node.countOf(root);
        }

        /** The node at a position; null if there is no such position. */
        Node find(int at) {
            int ahead = at;
            Node node = root;
            while (node != null) {
                int before = Node.countOf(node.left);
                if (ahead == before) {
                    return node;
                }
                if (ahead < before) {
                    node = node.left;
                } else {
                    ahead -= before + 1;
                    node = node.right;
                }
            }
            return null;
        }

        Node last() {
            Node node = root;
            while (node != null && node.right != null) {
                node = node.right;
            }
            return node;
        }

        boolean holds(Node node) {
            return node.top() == root;
        }

        Node takeAll() {
            Node all = root;
            root = null;
            return all;
        }

        void turnRound() {
            Node node = root;
            for (int more = count(); more > 0 && node != null; more--) {
                // Ahead of the step on: the walk then goes through the sides as they are now.
                node.swapSides();
                node = node.nextOfWalk();
            }
        }

        void addToAll(int amount) {
            Node node = root;
            for (int more = count(); more > 0 && node != null; more--) {
                node.value += amount;
                node = node.nextOfWalk();
            }
        }

        int total() {
            int total = 0;
            Node node = root;
            for (int more = count(); more > 0 && node != null; more--) {
                total += node.value;
                node = node.nextOfWalk();
            }
            return total;
        }

        int lowest() {
            int lowest = root == null ? 0 : root.value;
            Node node = root;
            for (int more = count(); more > 0 && node != null; more--) {
                lowest = Math.min(lowest, node.value);
                node = node.nextOfWalk();
            }
            return lowest;
        }

        int sumOfRanks() {
            int ranks = 0;
            Node node = root;
            for (int more = count(); more > 0 && node != null; more--) {
                ranks += rankOf(node.count);
                node = node.nextOfWalk();
            }
            return ranks;
        }

        int levels() {
            int levels = 0;
            Node node = root;
            for (int more = count(); more > 0 && node != null; more--) {
                levels = Math.max(levels, node.nodesAbove() + 1);
                node = node.nextOfWalk();
            }
            return levels;
        }

        private static int rankOf(int nodes) {
            int rank = 0;
            for (int rest = nodes; rest > 1; rest = rest >> 1) {
                rank++;
            }
            return rank;
        }
    }

    /** Splays, splits and joins trees, and counts what that took. */
    private static final class Splayer {
        private int callSteps;
        private int callRotations;
        private int allSteps;
        private int allSplays;

        /** To be called behind all checks: a call that throws leaves the counts of the one before. */
        void beginCall() {
            callSteps = 0;
            callRotations = 0;
        }

        void splay(Tree tree, Node node) {
            allSplays++;
            for (int turn = 0; turn < MOST_NODES && node.parent != null; turn++) {
                Node parent = node.parent;
                if (parent.parent != null) {
                    boolean sameSide = node.isLeftChild() == parent.isLeftChild();
                    rotate(sameSide ? parent : node);
                }
                // Every kind of step ends with this rotation.
                rotate(node);
                callSteps++;
                allSteps++;
            }
            tree.root = node;
        }

        private void rotate(Node node) {
            Node under = node.parent;
            if (under == null) {
                return;
            }
            Node above = under.parent;
            // Asked here, since the links that tell it change below.
            boolean wasLeft = under.isLeftChild();
            if (node.isLeftChild()) {
                under.takeLeft(node.right);
                node.takeRight(under);
            } else {
                under.takeRight(node.left);
                node.takeLeft(under);
            }
            node.parent = above;
            if (above != null) {
                if (wasLeft) {
                    above.left = node;
                } else {
                    above.right = node;
                }
            }
            callRotations++;
        }

        /** Leaves the first tree in the tree, and puts the second one into the rest. */
        void split(Tree tree, int at, Tree rest) {
            Node node = tree.find(at);
            if (node == null) {
                rest.root = null;
            } else if (at == 0) {
                rest.root = tree.takeAll();
            } else {
                splay(tree, node);
                rest.root = node;
                tree.root = node.dropLeft();
            }
        }

        /** Leaves the joined tree in the tree, and the rest empty. */
        void join(Tree tree, Tree rest) {
            Node last = tree.last();
            Node second = rest.takeAll();
            if (last == null) {
                tree.root = second;
            } else if (second != null) {
                splay(tree, last);
                last.takeRight(second);
            }
        }
    }

    /** The values in a plain array. */
    private static final class Row {
        private final int[] values = new int[MOST_NODES];
        private int length;

        int valueAt(int at) {
            return at >= 0 && at < length ? values[at] : 0;
        }

        void replace(int at, int value) {
            if (at >= 0 && at < length) {
                values[at] = value;
            }
        }

        void open(int at, int value) {
            if (at < 0 || at > length || length >= values.length) {
                return;
            }
            System.arraycopy(values, at, values, at + 1, length - at);
            values[at] = value;
            length++;
        }

        void close(int at) {
            if (at >= 0 && at < length) {
                System.arraycopy(values, at + 1, values, at, length - at - 1);
                length--;
            }
        }

        void turnRound(int from, int to) {
            if (!hasRange(from, to)) {
                return;
            }
            int low = from;
            for (int high = to - 1; low < high; high--) {
                int value = values[low];
                values[low] = values[high];
                values[high] = value;
                low++;
            }
        }

        void addToAll(int from, int to, int amount) {
            if (!hasRange(from, to)) {
                return;
            }
            for (int at = from; at < to; at++) {
                values[at] += amount;
            }
        }

        int total(int from, int to) {
            if (!hasRange(from, to)) {
                return 0;
            }
            int total = 0;
            for (int at = from; at < to; at++) {
                total += values[at];
            }
            return total;
        }

        /** Makes a range of this row all that the other row has. */
        void moveOut(int from, int to, Row other) {
            if (!hasRange(from, to)) {
                return;
            }
            System.arraycopy(values, from, other.values, 0, to - from);
            System.arraycopy(values, to, values, from, length - to);
            other.length = to - from;
            length -= to - from;
        }

        /** Puts all that the other row has into this row, ahead of a position. */
        void moveIn(int at, Row other) {
            if (at < 0 || at > length || other.length > values.length - length) {
                return;
            }
            System.arraycopy(values, at, values, at + other.length, length - at);
            System.arraycopy(other.values, 0, values, at, other.length);
            length += other.length;
            other.length = 0;
        }

        private boolean hasRange(int from, int to) {
            return from >= 0 && from <= to && to <= length;
        }
    }
}
