import java.time.LocalDate;
import java.util.ArrayList;
import java.util.Comparator;
import java.util.List;

/**
 * The document told once more in the plainest way, to compare with: a tree of nodes, copied whole
 * for every step. It shares no idea with OutlineDesk on how things are held.
 */
final class PlainDesk {
    private static final long FIRST = LocalDate.of(1, 1, 1).toEpochDay();
    private static final int LAST_DAY = 3652058;

    private static final class Node {
        int id = -1;
        int title;
        int state;
        int rank;
        int tags;
        boolean folded;
        int[] days = {-1, -1};
        int[][] repeats = {{0, 0, 0}, {0, 0, 0}};
        int[] minutes = {0, 0};
        Node parent;
        List<Node> children = new ArrayList<>();

        Node copy(Node under) {
            Node node = new Node();
            node.id = id;
            node.title = title;
            node.state = state;
            node.rank = rank;
            node.tags = tags;
            node.folded = folded;
            node.days = days.clone();
            node.repeats = new int[][] {repeats[0].clone(), repeats[1].clone()};
            node.minutes = minutes.clone();
            node.parent = under;
            for (Node child : children) {
                node.children.add(child.copy(node));
            }
            return node;
        }

        int deep() {
            return parent == null ? 0 : 1 + parent.deep();
        }

        int height() {
            int height = 0;
            for (Node child : children) {
                height = Math.max(height, 1 + child.height());
            }
            return height;
        }

        int allTags() {
            return parent == null ? 0 : tags | parent.allTags();
        }

        boolean isUnder(Node other) {
            return this == other || parent != null && parent.isUnder(other);
        }

        int place() {
            return parent.children.indexOf(this);
        }

        void addBranch(List<Node> all) {
            if (id >= 0) {
                all.add(this);
            }
            for (Node child : children) {
                child.addBranch(all);
            }
        }

        List<Node> branch() {
            List<Node> all = new ArrayList<>();
            addBranch(all);
            return all;
        }

        void tell(StringBuilder text) {
            text.append('(').append(id).append(' ').append(title).append(' ').append(state).append(' ').append(rank)
                    .append(' ').append(tags).append(folded);
            for (int which = 0; which < 2; which++) {
                text.append(' ').append(days[which]).append(' ').append(repeat(which)).append(' ').append(minutes[which]);
            }
            for (Node child : children) {
                child.tell(text);
            }
            text.append(')');
        }

        int repeat(int which) {
            return repeats[which][0] + 10 * repeats[which][1] + 100 * repeats[which][2];
        }

        boolean isClosed() {
            return state == 3 || state == 4;
        }
    }

    private Node root = new Node();
    private int made;
    private int today;
    private List<int[]> found = new ArrayList<>();
    private final List<Node> undo = new ArrayList<>();
    private final List<Node> redo = new ArrayList<>();
    private boolean open;
    private int changes;
    private Node beforeGroup;
    private Node before;

    private Node node(int id) {
        for (Node node : root.branch()) {
            if (node.id == id) {
                return node;
            }
        }
        throw new IndexOutOfBoundsException();
    }

    private Node nodeOrRoot(int id) {
        return id == -1 ? root : node(id);
    }

    private static void argument(boolean fits) {
        if (!fits) {
            throw new IllegalArgumentException();
        }
    }

    private static void between(int n, int low, int high) {
        argument(low <= n && n <= high);
    }

    private void begin() {
        before = root.copy(null);
    }

    private void end() {
        StringBuilder now = new StringBuilder();
        StringBuilder then = new StringBuilder();
        root.tell(now);
        before.tell(then);
        if (now.toString().equals(then.toString())) {
            return;
        }
        redo.clear();
        if (open) {
            changes++;
        } else {
            push(before);
        }
    }

    private void push(Node step) {
        undo.add(step);
        if (undo.size() > 60) {
            undo.remove(0);
        }
    }

    int insert(int parent, int place, int title) {
        Node under = nodeOrRoot(parent);
        between(place, 0, under.children.size());
        between(title, 0, 999999);
        if (under.deep() + 1 > 12 || made >= 400) {
            throw new UnsupportedOperationException();
        }
        begin();
        Node node = new Node();
        node.id = made++;
        node.title = title;
        node.parent = under;
        under.children.add(place, node);
        end();
        return node.id;
    }

    int remove(int id) {
        Node node = node(id);
        begin();
        node.parent.children.remove(node);
        end();
        return node.branch().size();
    }

    private void put(Node node, Node under, int place) {
        begin();
        node.parent.children.remove(node);
        node.parent = under;
        under.children.add(place, node);
        end();
    }

    int move(int id, int parent, int place) {
        Node node = node(id);
        Node under = nodeOrRoot(parent);
        if (under.isUnder(node)) {
            throw new IllegalStateException();
        }
        between(place, 0, under.children.size() - (node.parent == under ? 1 : 0));
        if (under.deep() + 1 + node.height() > 12) {
            throw new UnsupportedOperationException();
        }
        put(node, under, place);
        return 0;
    }

    int promote(int id) {
        Node node = node(id);
        if (node.parent == root) {
            throw new IllegalStateException();
        }
        put(node, node.parent.parent, node.parent.place() + 1);
        return 0;
    }

    int demote(int id) {
        Node node = node(id);
        if (node.place() == 0) {
            throw new IllegalStateException();
        }
        if (node.deep() + node.height() + 1 > 12) {
            throw new UnsupportedOperationException();
        }
        Node under = node.parent.children.get(node.place() - 1);
        put(node, under, under.children.size());
        return 0;
    }

    int title(int id, int title) {
        Node node = node(id);
        between(title, 0, 999999);
        begin();
        node.title = title;
        end();
        return 0;
    }

    private static int oneStep(int day, int[] repeat) {
        LocalDate date = LocalDate.ofEpochDay(FIRST + day);
        LocalDate next = repeat[1] == 0 ? date.plusDays(repeat[2])
                : repeat[1] == 1 ? date.plusWeeks(repeat[2])
                : repeat[1] == 2 ? date.plusMonths(repeat[2]) : date.plusYears(repeat[2]);
        return (int) (next.toEpochDay() - FIRST);
    }

    static int moved(int day, int[] repeat, int today) {
        if (repeat[0] == 3) {
            return oneStep(today, repeat);
        }
        int moved = oneStep(day, repeat);
        while (repeat[0] == 2 && moved <= today) {
            moved = oneStep(moved, repeat);
        }
        return moved;
    }

    int state(int id, int state) {
        Node node = node(id);
        between(state, 0, 4);
        int[] days = node.days.clone();
        boolean again = false;
        for (int which = 0; which < 2 && state == 3; which++) {
            if (node.repeats[which][0] != 0) {
                again = true;
                days[which] = moved(days[which], node.repeats[which], today);
                if (days[which] > LAST_DAY) {
                    throw new UnsupportedOperationException();
                }
            }
        }
        begin();
        node.days = days;
        node.state = again ? 1 : state;
        end();
        return node.state;
    }

    int rank(int id, int rank) {
        Node node = node(id);
        between(rank, 0, 3);
        begin();
        node.rank = rank;
        end();
        return 0;
    }

    int tag(int id, int bit, boolean on) {
        Node node = node(id);
        between(bit, 0, 23);
        begin();
        boolean has = (node.tags >> bit & 1) == 1;
        if (has != on) {
            node.tags ^= 1 << bit;
        }
        end();
        return 0;
    }

    int date(int id, int which, int day, int kind, int unit, int count) {
        Node node = node(id);
        between(which, 0, 1);
        int[] repeat = {0, 0, 0};
        if (day != -1) {
            between(day, 0, LAST_DAY);
            between(kind, 0, 3);
            if (kind != 0) {
                between(unit, 0, 3);
                between(count, 1, 99);
                repeat = new int[] {kind, unit, count};
            }
        }
        begin();
        node.days[which] = day;
        node.repeats[which] = repeat;
        end();
        return 0;
    }

    int minutes(int id, int which, int n) {
        Node node = node(id);
        between(which, 0, 1);
        between(n, 0, 1000000);
        begin();
        node.minutes[which] = n;
        end();
        return 0;
    }

    int fold(int id, boolean folded) {
        Node node = node(id);
        begin();
        node.folded = folded;
        end();
        return 0;
    }

    private static int effort(Node node) {
        return node.branch().stream().mapToInt(n -> n.minutes[0]).sum();
    }

    int sort(int parent, int by) {
        Node under = nodeOrRoot(parent);
        between(by, 0, 4);
        List<Comparator<Node>> orders = List.of(
                Comparator.comparingInt(n -> n.title),
                Comparator.comparingInt(n -> n.state),
                Comparator.comparingInt(n -> -n.rank),
                Comparator.comparingInt(n -> n.days[1] == -1 ? Integer.MAX_VALUE : n.days[1]),
                Comparator.comparingInt(n -> -effort(n)));
        begin();
        under.children.sort(orders.get(by));
        end();
        return 0;
    }

    private void closed(boolean wanted) {
        if (open == wanted) {
            throw new IllegalStateException();
        }
    }

    int open() {
        closed(true);
        open = true;
        beforeGroup = root.copy(null);
        return 0;
    }

    int close() {
        closed(false);
        open = false;
        if (changes > 0) {
            push(beforeGroup);
        }
        changes = 0;
        return undo.size();
    }

    private int shift(List<Node> from, List<Node> to) {
        closed(true);
        if (from.isEmpty()) {
            return 0;
        }
        to.add(root);
        root = from.remove(from.size() - 1);
        return 1;
    }

    int undo() {
        return shift(undo, redo);
    }

    int redo() {
        return shift(redo, undo);
    }

    int steps(int what) {
        between(what, 0, 2);
        return what == 0 ? undo.size() : what == 1 ? redo.size() : changes;
    }

    int today(int day) {
        between(day, 0, LAST_DAY);
        int was = today;
        today = day;
        return was;
    }

    int day(int year, int month, int day) {
        between(year, 1, 9999);
        between(month, 1, 12);
        between(day, 1, LocalDate.of(year, month, 1).lengthOfMonth());
        return (int) (LocalDate.of(year, month, day).toEpochDay() - FIRST);
    }

    int calendar(int day, int what) {
        between(day, 0, LAST_DAY);
        between(what, 0, 3);
        LocalDate date = LocalDate.ofEpochDay(FIRST + day);
        return what == 0 ? date.getYear() : what == 1 ? date.getMonthValue()
                : what == 2 ? date.getDayOfMonth() : date.getDayOfWeek().getValue() - 1;
    }

    int match(int all, int none, int states, int rank) {
        found = new ArrayList<>();
        for (Node node : root.branch()) {
            int tags = node.allTags();
            if ((all & ~tags) == 0 && (none & tags) == 0 && (states & 1 << node.state) != 0 && node.rank >= rank) {
                found.add(new int[] {node.id, -1, -1});
            }
        }
        return found.size();
    }

    int agenda(int from, int to) {
        List<int[]> items = new ArrayList<>();
        for (Node node : root.branch()) {
            for (int which = 0; which < 2 && !node.isClosed(); which++) {
                int day = node.days[which] == -1 ? -1 : Math.max(node.days[which], today);
                if (day != -1 && from <= day && day <= to) {
                    items.add(new int[] {node.id, day, which, node.rank});
                }
            }
        }
        // List.sort is stable, so the order stays behind the rest.
        items.sort(Comparator.<int[]>comparingInt(i -> i[1]).thenComparingInt(i -> -i[2]).thenComparingInt(i -> -i[3]));
        found = items;
        return found.size();
    }

    int found(int i, int what) {
        if (i < 0 || i >= found.size()) {
            throw new IndexOutOfBoundsException();
        }
        between(what, 0, 2);
        return found.get(i)[what];
    }

    private static void addSeen(Node node, List<Node> seen) {
        if (node.id >= 0) {
            seen.add(node);
        }
        if (!node.folded) {
            for (Node child : node.children) {
                addSeen(child, seen);
            }
        }
    }

    int line(int i) {
        List<Node> seen = new ArrayList<>();
        addSeen(root, seen);
        return i >= 0 && i < seen.size() ? seen.get(i).id : -1;
    }

    int child(int parent, int place) {
        List<Node> children = nodeOrRoot(parent).children;
        return place >= 0 && place < children.size() ? children.get(place).id : -1;
    }

    int sum(int id, int what) {
        Node top = nodeOrRoot(id);
        between(what, 0, 4);
        int sum = 0;
        for (Node node : top.branch()) {
            sum += what == 0 ? 1 : what == 1 ? node.minutes[0] : what == 2 ? node.minutes[1]
                    : (what == 3 ? node.isClosed() : node.state != 0) ? 1 : 0;
        }
        return sum;
    }

    int told(int id, int what) {
        Node node = node(id);
        between(what, 0, 15);
        int[] all = {node.parent.id, node.place(), node.deep(), node.title, node.state, node.rank, node.tags,
            node.allTags(), node.children.size(), node.folded ? 1 : 0, node.days[0], node.days[1],
            node.minutes[0], node.minutes[1], node.repeat(0), node.repeat(1)};
        return all[what];
    }

    int about(int what) {
        between(what, 0, 3);
        return what == 0 ? root.branch().size() : what == 1 ? made : what == 2 ? found.size() : today;
    }
}
