import java.util.ArrayList;
import java.util.Arrays;
import java.util.List;

/**
 * The document's words as a second program: its trees are never changed, each work makes new ones, and nodes are
 * known by numbers. It shares nothing with the class that it judges.
 */
final class Model {
    /** A tree that is not empty; null is the empty one. */
    private record Tree(Tree left, int node, Tree right) {
    }

    private record Parts(Tree first, Tree second) {
    }

    private final List<Integer> values = new ArrayList<>();
    private final int[] fingers = {-1, -1, -1, -1};
    private Tree sequence = null;
    private Tree clipboard = null;
    private List<Integer> row = new ArrayList<>();
    private List<Integer> clippedRow = new ArrayList<>();
    private int lastSteps = 0;
    private int lastRotations = 0;
    private int steps = 0;
    private int splays = 0;

    // ---- trees

    private static int size(Tree tree) {
        return tree == null ? 0 : size(tree.left) + 1 + size(tree.right);
    }

    private static void nodesOf(Tree tree, List<Integer> nodes) {
        if (tree != null) {
            nodesOf(tree.left, nodes);
            nodes.add(tree.node);
            nodesOf(tree.right, nodes);
        }
    }

    private static List<Integer> nodes(Tree tree) {
        List<Integer> nodes = new ArrayList<>();
        nodesOf(tree, nodes);
        return nodes;
    }

    /** The subtrees from the root down to the one whose root is at the position. */
    private static List<Tree> way(Tree tree, int at) {
        List<Tree> way = new ArrayList<>();
        Tree here = tree;
        int rest = at;
        while (true) {
            way.add(here);
            int before = size(here.left);
            if (rest == before) {
                return way;
            }
            if (rest > before) {
                rest -= before + 1;
                here = here.right;
            } else {
                here = here.left;
            }
        }
    }

    private Tree splay(Tree tree, int at) {
        splays++;
        List<Tree> way = way(tree, at);
        int level = way.size() - 1;
        Tree x = way.get(level);
        while (level > 0) {
            Tree old = way.get(level);
            Tree p = way.get(level - 1);
            boolean xLeft = p.left == old;
            if (level == 1) {
                x = xLeft
                        ? new Tree(x.left, x.node, new Tree(x.right, p.node, p.right))
                        : new Tree(new Tree(p.left, p.node, x.left), x.node, x.right);
                count(1);
                level -= 1;
            } else {
                Tree g = way.get(level - 2);
                x = twoUp(x, p, g, xLeft, g.left == p);
                count(2);
                level -= 2;
            }
        }
        return x;
    }

    private static Tree twoUp(Tree x, Tree p, Tree g, boolean xLeft, boolean pLeft) {
        if (xLeft && pLeft) {
            return new Tree(x.left, x.node, new Tree(x.right, p.node, new Tree(p.right, g.node, g.right)));
        }
        if (!xLeft && !pLeft) {
            return new Tree(new Tree(new Tree(g.left, g.node, p.left), p.node, x.left), x.node, x.right);
        }
        if (pLeft) {
            return new Tree(new Tree(p.left, p.node, x.left), x.node, new Tree(x.right, g.node, g.right));
        }
        return new Tree(new Tree(g.left, g.node, x.left), x.node, new Tree(x.right, p.node, p.right));
    }

    private void count(int rotations) {
        lastSteps += 1;
        steps += 1;
        lastRotations += rotations;
    }

    private Parts split(Tree tree, int at) {
        if (at == 0) {
            return new Parts(null, tree);
        }
        if (at == size(tree)) {
            return new Parts(tree, null);
        }
        Tree top = splay(tree, at);
        return new Parts(top.left, new Tree(null, top.node, top.right));
    }

    private Tree join(Tree first, Tree second) {
        if (first == null || second == null) {
            return first == null ? second : first;
        }
        Tree top = splay(first, size(first) - 1);
        return new Tree(top.left, top.node, second);
    }

    private static Tree turned(Tree tree) {
        return tree == null ? null : new Tree(turned(tree.right), tree.node, turned(tree.left));
    }

    private static int potential(Tree tree) {
        if (tree == null) {
            return 0;
        }
        int rank = 0;
        while (1 << (rank + 1) <= size(tree)) {
            rank++;
        }
        return rank + potential(tree.left) + potential(tree.right);
    }

    private static int height(Tree tree) {
        return tree == null ? 0 : 1 + Math.max(height(tree.left), height(tree.right));
    }

    // ---- checks

    private void place(boolean good) {
        if (!good) {
            throw new IndexOutOfBoundsException();
        }
    }

    private void argument(boolean good) {
        if (!good) {
            throw new IllegalArgumentException();
        }
    }

    private void state(boolean good) {
        if (!good) {
            throw new IllegalStateException();
        }
    }

    private void position(int at) {
        place(0 <= at && at <= size() - 1);
    }

    private void gap(int at) {
        place(0 <= at && at <= size());
    }

    private void span(int from, int to) {
        place(0 <= from && from <= to && to <= size());
    }

    private void finger(int finger) {
        place(0 <= finger && finger <= 3);
    }

    private void amount(int amount) {
        argument(-1000 <= amount && amount <= 1000);
    }

    private void begin() {
        lastSteps = 0;
        lastRotations = 0;
    }

    private int valueAt(int at) {
        return values.get(nodes(sequence).get(at));
    }

    // ---- the face

    int insert(int at, int value) {
        gap(at);
        amount(value);
        state(size() + clipped() < 60);
        begin();
        Parts parts = split(sequence, at);
        values.add(value);
        sequence = new Tree(parts.first, values.size() - 1, parts.second);
        row.add(at, value);
        return size();
    }

    int remove(int at) {
        position(at);
        begin();
        Tree top = splay(sequence, at);
        sequence = join(top.left, top.right);
        for (int finger = 0; finger < 4; finger++) {
            fingers[finger] = fingers[finger] == top.node ? -1 : fingers[finger];
        }
        row.remove(at);
        return values.get(top.node);
    }

    int get(int at) {
        position(at);
        begin();
        sequence = splay(sequence, at);
        return valueAt(at);
    }

    int set(int at, int value) {
        position(at);
        amount(value);
        begin();
        sequence = splay(sequence, at);
        row.set(at, value);
        return values.set(sequence.node, value);
    }

    private interface Work {
        Tree on(Tree range);
    }

    private void workOn(int from, int to, Work work) {
        begin();
        if (from == to) {
            return;
        }
        Parts outer = split(sequence, to);
        Parts inner = split(outer.first, from);
        Tree range = work.on(inner.second);
        sequence = join(join(inner.first, range), outer.second);
    }

    int reverse(int from, int to) {
        span(from, to);
        workOn(from, to, range -> turned(range));
        List<Integer> old = new ArrayList<>(row);
        for (int at = from; at < to; at++) {
            row.set(at, old.get(to - 1 - (at - from)));
        }
        return to - from;
    }

    int raise(int from, int to, int amount) {
        span(from, to);
        amount(amount);
        workOn(from, to, range -> {
            for (int node : nodes(range)) {
                values.set(node, values.get(node) + amount);
            }
            return range;
        });
        for (int at = from; at < to; at++) {
            row.set(at, row.get(at) + amount);
        }
        return to - from;
    }

    int sum(int from, int to) {
        span(from, to);
        int total = 0;
        for (int at = from; at < to; at++) {
            total += valueAt(at);
        }
        workOn(from, to, range -> range);
        return total;
    }

    int least(int from, int to) {
        span(from, to);
        argument(from < to);
        int least = valueAt(from);
        for (int at = from; at < to; at++) {
            least = valueAt(at) < least ? valueAt(at) : least;
        }
        workOn(from, to, range -> range);
        return least;
    }

    int cut(int from, int to) {
        span(from, to);
        state(clipboard == null);
        workOn(from, to, range -> {
            clipboard = range;
            return null;
        });
        clippedRow = new ArrayList<>(row.subList(from, to));
        row.subList(from, to).clear();
        return to - from;
    }

    int paste(int at) {
        gap(at);
        begin();
        int pasted = clipped();
        if (pasted > 0) {
            Parts parts = split(sequence, at);
            sequence = join(join(parts.first, clipboard), parts.second);
            clipboard = null;
            row.addAll(at, clippedRow);
            clippedRow = new ArrayList<>();
        }
        return pasted;
    }

    int point(int finger, int at) {
        finger(finger);
        position(at);
        begin();
        sequence = splay(sequence, at);
        fingers[finger] = sequence.node;
        return values.get(sequence.node);
    }

    int follow(int finger) {
        finger(finger);
        begin();
        int at = nodes(sequence).indexOf(fingers[finger]);
        if (at >= 0) {
            sequence = splay(sequence, at);
        }
        return at;
    }

    int move(int finger, int by) {
        finger(finger);
        int at = nodes(sequence).indexOf(fingers[finger]);
        state(at >= 0);
        long goal = (long) at + (long) by;
        state(0 <= goal && goal < size());
        begin();
        sequence = splay(sequence, at);
        sequence = splay(sequence, (int) goal);
        fingers[finger] = sequence.node;
        return (int) goal;
    }

    int lastSteps() {
        return lastSteps;
    }

    int lastRotations() {
        return lastRotations;
    }

    int steps() {
        return steps;
    }

    int splays() {
        return splays;
    }

    int potential() {
        return potential(sequence) + potential(clipboard);
    }

    int size() {
        return size(sequence);
    }

    int clipped() {
        return size(clipboard);
    }

    int root() {
        return sequence == null ? -1 : size(sequence.left);
    }

    int height() {
        return height(sequence);
    }

    int depth(int at) {
        position(at);
        return way(sequence, at).size() - 1;
    }

    int subtree(int at) {
        position(at);
        List<Tree> way = way(sequence, at);
        return size(way.get(way.size() - 1));
    }

    int child(int at, boolean right) {
        position(at);
        List<Tree> way = way(sequence, at);
        Tree here = way.get(way.size() - 1);
        Tree below = right ? here.right : here.left;
        return below == null ? -1 : nodes(sequence).indexOf(below.node);
    }

    int whereIs(int finger) {
        finger(finger);
        if (nodes(sequence).contains(fingers[finger])) {
            return 1;
        }
        return nodes(clipboard).contains(fingers[finger]) ? 2 : 0;
    }

    int plain(int at) {
        position(at);
        return row.get(at);
    }

    int plainSum(int from, int to) {
        span(from, to);
        return row.subList(from, to).stream().mapToInt(Integer::intValue).sum();
    }

    @Override
    public String toString() {
        return row + " and " + clippedRow + ", fingers " + Arrays.toString(fingers);
    }
}
