import java.util.Arrays;

/**
 * An outline of entries under entries, with states, tags, dates that repeat, efforts and minutes
 * spent; edits of whole branches, each of which can be undone and redone; what is to be done on
 * days, what matches, and the lines that are seen.
 */
public final class OutlineDesk {
    public static final int NONE = -1, ROOT = -1;

    private static final int LAST_TITLE = 999999;
    private static final int LAST_RANK = 3;
    private static final int LAST_BIT = 23;
    private static final int MOST_MINUTES = 1000000;

    private static final int TO_DO = 1, DONE = 3, DROPPED = 4;
    private static final int START = 0, DUE = 1;

    private static final int BY_TITLE = 0, BY_STATE = 1, BY_RANK = 2, BY_DUE = 3, BY_EFFORT = 4;

    private final History history;
    private final Outline outline;
    private final Findings findings;
    private final Keys keys;
    /** For match: all tags of the entry that was met latest at each depth. */
    private final int[] tagsAtDepth;
    private int now;

    public OutlineDesk() {
        history = new History();
        outline = new Outline(history);
        findings = new Findings();
        keys = new Keys();
        tagsAtDepth = new int[Outline.DEEPEST + 1];
    }

    public int insert(int parent, int place, int title)
            throws IndexOutOfBoundsException, IllegalArgumentException, UnsupportedOperationException {
        int under = positionOrRoot(parent);
        checkNumbers(isWithin(place, 0, outline.childCount(under)) && isWithin(title, 0, LAST_TITLE));
        int depth = outline.depthAt(under) + 1;
        checkLimits(depth <= Outline.DEEPEST && outline.made < Outline.MOST_MADE);
        int id = outline.plant(outline.childPosition(under, place), depth, title);
        history.endEdit();
        return id;
    }

    public int remove(int id) throws IndexOutOfBoundsException {
        int position = positionOf(id);
        int end = outline.branchEnd(position);
        outline.cut(position, end);
        history.endEdit();
        return end - position;
    }

    public void move(int id, int parent, int place)
            throws IndexOutOfBoundsException, IllegalStateException, IllegalArgumentException,
            UnsupportedOperationException {
        int position = positionOf(id);
        int under = positionOrRoot(parent);
        int end = outline.branchEnd(position);
        checkState(under < position || under >= end);
        int others = outline.childCount(under) - (outline.parentPosition(position) == under ? 1 : 0);
        checkNumbers(isWithin(place, 0, others));
        int deeper = outline.depthAt(under) + 1 - outline.depthAt(position);
        checkLimits(outline.deepestFrom(position) + deeper <= Outline.DEEPEST);
        outline.carry(position, outline.childPositionWithout(under, place, position), deeper);
        history.endEdit();
    }

    public void promote(int id) throws IndexOutOfBoundsException, IllegalStateException {
        int position = positionOf(id);
        int parent = outline.parentPosition(position);
        checkState(parent != Outline.ROOT_POSITION);
        outline.carry(position, outline.branchEnd(parent), -1);
        history.endEdit();
    }

    public void demote(int id)
            throws IndexOutOfBoundsException, IllegalStateException, UnsupportedOperationException {
        int position = positionOf(id);
        checkState(outline.placeAt(position) > 0);
        checkLimits(outline.deepestFrom(position) < Outline.DEEPEST);
        // Behind the last one under the child before it is where the branch stands already.
        outline.carry(position, position, 1);
        history.endEdit();
    }

    public void title(int id, int title) throws IndexOutOfBoundsException, IllegalArgumentException {
        positionOf(id);
        checkNumbers(isWithin(title, 0, LAST_TITLE));
        change(id, Outline.TITLE, title);
    }

    public int state(int id, int state)
            throws IndexOutOfBoundsException, IllegalArgumentException, UnsupportedOperationException {
        positionOf(id);
        checkNumbers(isWithin(state, 0, DROPPED));
        boolean again = state == DONE && hasRepeat(id);
        if (again) {
            moveDates(id);
        }
        int left = again ? TO_DO : state;
        change(id, Outline.STATE, left);
        return left;
    }

    public void rank(int id, int rank) throws IndexOutOfBoundsException, IllegalArgumentException {
        positionOf(id);
        checkNumbers(isWithin(rank, 0, LAST_RANK));
        change(id, Outline.RANK, rank);
    }

    public void tag(int id, int bit, boolean on) throws IndexOutOfBoundsException, IllegalArgumentException {
        positionOf(id);
        checkNumbers(isWithin(bit, 0, LAST_BIT));
        int tags = outline.value(id, Outline.TAGS);
        change(id, Outline.TAGS, on ? tags | 1 << bit : tags & ~(1 << bit));
    }

    public void date(int id, int which, int day, int kind, int unit, int count)
            throws IndexOutOfBoundsException, IllegalArgumentException {
        positionOf(id);
        checkNumbers(isWithin(which, START, DUE));
        checkNumbers(day == NONE || isDay(day) && Days.isRepeat(kind, unit, count));
        outline.set(id, Outline.DAY + which, day);
        change(id, Outline.REPEAT + which, day == NONE ? 0 : Days.repeat(kind, unit, count));
    }

    public void minutes(int id, int which, int n) throws IndexOutOfBoundsException, IllegalArgumentException {
        positionOf(id);
        checkNumbers(isWithin(which, 0, 1) && isWithin(n, 0, MOST_MINUTES));
        change(id, Outline.MINUTES + which, n);
    }

    public void fold(int id, boolean folded) throws IndexOutOfBoundsException {
        positionOf(id);
        change(id, Outline.FOLDED, folded ? 1 : 0);
    }

    public void sort(int parent, int by) throws IndexOutOfBoundsException, IllegalArgumentException {
        int under = positionOrRoot(parent);
        checkNumbers(isWithin(by, BY_TITLE, BY_EFFORT));
        int end = outline.branchEnd(under);
        keys.clear();
        for (int p = under + 1; p < end; p++) {
            if (outline.depthAt(p) == outline.depthAt(under) + 1) {
                // The position behind the key keeps equal ones as they were.
                keys.add((long) sortKey(p, by) * Outline.MOST_MADE + p);
            }
        }
        keys.putInOrder();
        outline.arrangeChildren(under, keys);
        history.endEdit();
    }

    public void open() throws IllegalStateException {
        checkState(!history.grouped);
        history.openGroup();
    }

    public int close() throws IllegalStateException {
        checkState(history.grouped);
        history.closeGroup();
        return history.undoable;
    }

    public boolean undo() throws IllegalStateException {
        checkState(!history.grouped);
        return history.goBack();
    }

    public boolean redo() throws IllegalStateException {
        checkState(!history.grouped);
        return history.goForth();
    }

    public int steps(int what) throws IllegalArgumentException {
        checkNumbers(isWithin(what, 0, 2));
        switch (what) {
            case 0: return history.undoable;
            case 1: return history.redoable;
            default: return history.edits;
        }
    }

    public int today(int day) throws IllegalArgumentException {
        checkNumbers(isDay(day));
        int before = now;
        now = day;
        return before;
    }

    public int day(int year, int month, int day) throws IllegalArgumentException {
        checkNumbers(isWithin(year, 1, Days.LAST_YEAR) && isWithin(month, 1, Days.YEAR_MONTHS));
        int months = (year - 1) * Days.YEAR_MONTHS + month - 1;
        checkNumbers(isWithin(day, 1, Days.lengthOf(months)));
        return Days.number(months, day);
    }

    public int calendar(int day, int what) throws IllegalArgumentException {
        checkNumbers(isDay(day) && isWithin(what, 0, 3));
        switch (what) {
            case 0: return Days.yearOf(day);
            case 1: return Days.monthsBefore(day) % Days.YEAR_MONTHS + 1;
            case 2: return Days.dayInMonth(day, Days.monthsBefore(day));
            default: return day % Days.WEEK_DAYS;
        }
    }

    public int match(int all, int none, int states, int rank) {
        findings.clear();
        for (int p = 0; p < outline.count(); p++) {
            int id = outline.entryAt(p);
            int depth = outline.depthAt(p);
            int tags = tagsAtDepth[depth - 1] | outline.value(id, Outline.TAGS);
            tagsAtDepth[depth] = tags;
            boolean tagged = (tags & all) == all && (tags & none) == 0;
            boolean asked = (states >> outline.value(id, Outline.STATE) & 1) == 1;
            if (tagged && asked && outline.value(id, Outline.RANK) >= rank) {
                findings.add(id, NONE, NONE);
            }
        }
        return findings.size;
    }

    public int agenda(int from, int to) {
        keys.clear();
        for (int p = 0; p < outline.count(); p++) {
            if (!outline.isClosed(outline.entryAt(p))) {
                addAgendaKey(p, START, from, to);
                addAgendaKey(p, DUE, from, to);
            }
        }
        keys.putInOrder();
        findings.clear();
        for (int i = 0; i < keys.size; i++) {
            addFinding(keys.row[i]);
        }
        return findings.size;
    }

    public int found(int i, int what) throws IndexOutOfBoundsException, IllegalArgumentException {
        if (!isWithin(i, 0, findings.size - 1)) {
            throw new IndexOutOfBoundsException();
        }
        checkNumbers(isWithin(what, 0, 2));
        switch (what) {
            case 0: return findings.entries[i];
            case 1: return findings.days[i];
            default: return findings.dates[i];
        }
    }

    public int line(int i) {
        int seen = 0;
        int deepestSeen = Outline.DEEPEST;
        for (int p = 0; p < outline.count(); p++) {
            int depth = outline.depthAt(p);
            if (depth <= deepestSeen) {
                int id = outline.entryAt(p);
                if (seen == i) {
                    return id;
                }
                seen++;
                deepestSeen = outline.value(id, Outline.FOLDED) == 1 ? depth : Outline.DEEPEST;
            }
        }
        return NONE;
    }

    public int child(int parent, int place) throws IndexOutOfBoundsException {
        int under = positionOrRoot(parent);
        if (!isWithin(place, 0, outline.childCount(under) - 1)) {
            return NONE;
        }
        return outline.entryAt(outline.childPosition(under, place));
    }

    public int sum(int id, int what) throws IndexOutOfBoundsException, IllegalArgumentException {
        int position = positionOrRoot(id);
        checkNumbers(isWithin(what, 0, 4));
        return outline.total(position, what);
    }

    public int told(int id, int what) throws IndexOutOfBoundsException, IllegalArgumentException {
        int position = positionOf(id);
        checkNumbers(isWithin(what, 0, Outline.FIELDS - 1));
        switch (what) {
            case 0: return outline.parentAt(position);
            case 1: return outline.placeAt(position);
            case 7: return outline.allTagsAt(position);
            case 8: return outline.childCount(position);
            default: return outline.value(id, what);
        }
    }

    public int about(int what) throws IllegalArgumentException {
        checkNumbers(isWithin(what, 0, 3));
        switch (what) {
            case 0: return outline.count();
            case 1: return outline.made;
            case 2: return findings.size;
            default: return now;
        }
    }

    private int positionOf(int id) throws IndexOutOfBoundsException {
        int position = outline.find(id);
        if (position == Outline.ABSENT) {
            throw new IndexOutOfBoundsException();
        }
        return position;
    }

    private int positionOrRoot(int id) throws IndexOutOfBoundsException {
        return id == ROOT ? Outline.ROOT_POSITION : positionOf(id);
    }

    private static void checkState(boolean fits) throws IllegalStateException {
        if (!fits) {
            throw new IllegalStateException();
        }
    }

    private static void checkNumbers(boolean fits) throws IllegalArgumentException {
        if (!fits) {
            throw new IllegalArgumentException();
        }
    }

    private static void checkLimits(boolean fits) throws UnsupportedOperationException {
        if (!fits) {
            throw new UnsupportedOperationException();
        }
    }

    private static boolean isWithin(int n, int low, int high) {
        return n >= low && n <= high;
    }

    private static boolean isDay(int day) {
        return isWithin(day, 0, Days.LAST_DAY);
    }

    private void change(int id, int field, int value) {
        outline.set(id, field, value);
        history.endEdit();
    }

    private boolean hasRepeat(int id) {
        return outline.value(id, Outline.REPEAT + START) != 0 || outline.value(id, Outline.REPEAT + DUE) != 0;
    }

    private void moveDates(int id) throws UnsupportedOperationException {
        int start = Days.moved(outline.value(id, Outline.DAY + START), outline.value(id, Outline.REPEAT + START), now);
        int due = Days.moved(outline.value(id, Outline.DAY + DUE), outline.value(id, Outline.REPEAT + DUE), now);
        checkLimits(start <= Days.LAST_DAY && due <= Days.LAST_DAY);
        outline.set(id, Outline.DAY + START, start);
        outline.set(id, Outline.DAY + DUE, due);
    }

    /** What comes first has the smaller key; none is below 0. */
    private int sortKey(int position, int by) {
        int id = outline.entryAt(position);
        switch (by) {
            case BY_TITLE: return outline.value(id, Outline.TITLE);
            case BY_STATE: return outline.value(id, Outline.STATE);
            case BY_RANK: return LAST_RANK - outline.value(id, Outline.RANK);
            case BY_DUE: return dueKey(outline.value(id, Outline.DAY + DUE));
            default: return Outline.MOST_MADE * MOST_MINUTES - outline.total(position, Outline.SUM_EFFORT);
        }
    }

    private static int dueKey(int due) {
        return due == NONE ? Days.LAST_DAY + 1 : due;
    }

    /** A key is built of day, date, rank and position, the weightiest first; addFinding takes it apart. */
    private void addAgendaKey(int position, int which, int from, int to) {
        int id = outline.entryAt(position);
        int day = outline.value(id, Outline.DAY + which);
        int shown = Math.max(day, now);
        if (day != NONE && isWithin(shown, from, to)) {
            long key = (long) shown * 2 + DUE - which;
            key = key * (LAST_RANK + 1) + LAST_RANK - outline.value(id, Outline.RANK);
            keys.add(key * Outline.MOST_MADE + position);
        }
    }

    private void addFinding(long key) {
        int position = (int) (key % Outline.MOST_MADE);
        long dayAndDate = key / Outline.MOST_MADE / (LAST_RANK + 1);
        findings.add(outline.entryAt(position), (int) (dayAndDate / 2), DUE - (int) (dayAndDate % 2));
    }

    /**
     * The entries that are there, as a row in the order, each with its depth: the two together say
     * which stands under which, and every branch is a run of neighbours in the row. Root counts as
     * position -1 with depth 0, so that it needs no case of its own.
     */
    private static final class Outline {
        static final int MOST_MADE = 400, DEEPEST = 12;
        static final int ROOT_POSITION = -1, ABSENT = -2;
        static final int SUM_EFFORT = 1;

        /** The fields of an entry bear the numbers by which told asks for them; DAY, MINUTES and REPEAT are two each. */
        static final int DEPTH = 2, TITLE = 3, STATE = 4, RANK = 5, TAGS = 6, FOLDED = 9;
        static final int DAY = 10, MINUTES = 12, REPEAT = 14;
        static final int FIELDS = 16;

        /** Where things are among the cells: how many entries are there, the row of them, and their fields. */
        private static final int COUNT = 0, ROW = 1, FIRST_FIELD = ROW + MOST_MADE;

        private final History history;
        /** A stretch of the row is built here and then written once: a cell that changed and changed back would count. */
        private final int[] draft;
        int made;

        Outline(History history) {
            this.history = history;
            draft = new int[MOST_MADE];
            history.reach(FIRST_FIELD);
        }

        int count() {
            return history.cells[COUNT];
        }

        int entryAt(int position) {
            return history.cells[ROW + position];
        }

        int value(int id, int field) {
            return history.cells[FIRST_FIELD + id * FIELDS + field];
        }

        void set(int id, int field, int value) {
            history.write(FIRST_FIELD + id * FIELDS + field, value);
        }

        int depthAt(int position) {
            return position == ROOT_POSITION ? 0 : value(entryAt(position), DEPTH);
        }

        boolean isClosed(int id) {
            return value(id, STATE) >= DONE;
        }

        int find(int id) {
            for (int p = 0; p < count(); p++) {
                if (entryAt(p) == id) {
                    return p;
                }
            }
            return ABSENT;
        }

        /** The position behind the last one of a branch. */
        int branchEnd(int position) {
            int depth = depthAt(position);
            for (int p = position + 1; p < count(); p++) {
                if (depthAt(p) <= depth) {
                    return p;
                }
            }
            return count();
        }

        int deepestFrom(int position) {
            int deepest = depthAt(position);
            int end = branchEnd(position);
            for (int p = position + 1; p < end; p++) {
                deepest = Math.max(deepest, depthAt(p));
            }
            return deepest;
        }

        int childCount(int position) {
            int children = 0;
            int end = branchEnd(position);
            for (int p = position + 1; p < end; p++) {
                if (depthAt(p) == depthAt(position) + 1) {
                    children++;
                }
            }
            return children;
        }

        /** Where the child at a place stands, or would stand behind all others. */
        int childPosition(int position, int place) {
            return childPositionWithout(position, place, ABSENT);
        }

        /** The same, with one child left out of the count. */
        int childPositionWithout(int position, int place, int without) {
            int before = 0;
            int end = branchEnd(position);
            for (int p = position + 1; p < end; p++) {
                if (depthAt(p) == depthAt(position) + 1 && p != without) {
                    if (before == place) {
                        return p;
                    }
                    before++;
                }
            }
            return end;
        }

        int parentPosition(int position) {
            int depth = depthAt(position);
            for (int p = position - 1; p >= 0; p--) {
                if (depthAt(p) < depth) {
                    return p;
                }
            }
            return ROOT_POSITION;
        }

        int parentAt(int position) {
            int parent = parentPosition(position);
            return parent == ROOT_POSITION ? ROOT : entryAt(parent);
        }

        int placeAt(int position) {
            int place = 0;
            for (int p = parentPosition(position) + 1; p < position; p++) {
                if (depthAt(p) == depthAt(position)) {
                    place++;
                }
            }
            return place;
        }

        int allTagsAt(int position) {
            int tags = value(entryAt(position), TAGS);
            int depth = depthAt(position);
            for (int p = position - 1; p >= 0; p--) {
                if (depthAt(p) < depth) {
                    depth = depthAt(p);
                    tags |= value(entryAt(p), TAGS);
                }
            }
            return tags;
        }

        int total(int position, int what) {
            int total = 0;
            int end = branchEnd(position);
            for (int p = Math.max(position, 0); p < end; p++) {
                total += share(entryAt(p), what);
            }
            return total;
        }

        private int share(int id, int what) {
            switch (what) {
                case 0: return 1;
                case SUM_EFFORT: return value(id, MINUTES);
                case 2: return value(id, MINUTES + 1);
                case 3: return isClosed(id) ? 1 : 0;
                default: return value(id, STATE) == 0 ? 0 : 1;
            }
        }

        int plant(int position, int depth, int title) {
            int id = made;
            made++;
            bear(id, depth, title);
            for (int p = count(); p > position; p--) {
                history.write(ROW + p, entryAt(p - 1));
            }
            history.write(ROW + position, id);
            history.write(COUNT, count() + 1);
            return id;
        }

        /** No step keeps these cells: nobody can ask for them before the entry is in the row. */
        private void bear(int id, int depth, int title) {
            int first = FIRST_FIELD + id * FIELDS;
            history.reach(first + FIELDS);
            history.cells[first + DEPTH] = depth;
            history.cells[first + TITLE] = title;
            history.cells[first + DAY + START] = NONE;
            history.cells[first + DAY + DUE] = NONE;
        }

        void cut(int position, int end) {
            int size = end - position;
            for (int p = end; p < count(); p++) {
                history.write(ROW + p - size, entryAt(p));
            }
            history.write(COUNT, count() - size);
        }

        /** A branch goes to where another position is now, which is not inside it, and becomes so much deeper. */
        void carry(int position, int to, int deeper) {
            int end = branchEnd(position);
            for (int p = position; p < end; p++) {
                set(entryAt(p), DEPTH, depthAt(p) + deeper);
            }
            if (to < position) {
                int size = copyToDraft(position, end, 0);
                writeDraft(to, copyToDraft(to, position, size));
            } else {
                int size = copyToDraft(end, to, 0);
                writeDraft(position, copyToDraft(position, end, size));
            }
        }

        /** The branches under a position are put in the order of the keys, which tell the position of each. */
        void arrangeChildren(int position, Keys keys) {
            int size = 0;
            for (int i = 0; i < keys.size; i++) {
                int child = (int) (keys.row[i] % MOST_MADE);
                size = copyToDraft(child, branchEnd(child), size);
            }
            writeDraft(position + 1, size);
        }

        private int copyToDraft(int from, int to, int size) {
            int grown = size;
            for (int p = from; p < to; p++) {
                draft[grown] = entryAt(p);
                grown++;
            }
            return grown;
        }

        private void writeDraft(int position, int size) {
            for (int i = 0; i < size; i++) {
                history.write(ROW + position + i, draft[i]);
            }
        }
    }

    /** Numbered cells, and the steps in which they were changed. */
    private static final class History {
        private static final int MOST_STEPS = 60;
        /** One more than can be undone, for the step that is being made. */
        private static final int RING = MOST_STEPS + 1;

        int[] cells;
        /** The step in which each cell was kept latest: once in a step is enough. */
        private int[] stamps;
        private int stamp;
        private final Step[] ring;
        private int oldest;
        int undoable;
        int redoable;
        boolean grouped;
        /** How many edits have changed something in the step that is being made. */
        int edits;
        private boolean changed;

        History() {
            cells = new int[0];
            stamps = new int[0];
            ring = new Step[RING];
            for (int i = 0; i < RING; i++) {
                ring[i] = new Step();
            }
        }

        /** Makes so many cells, at least; new ones are 0. */
        void reach(int size) {
            if (size > cells.length) {
                int length = Math.max(size, cells.length * 2);
                cells = Arrays.copyOf(cells, length);
                stamps = Arrays.copyOf(stamps, length);
            }
        }

        void write(int cell, int value) {
            if (cells[cell] == value) {
                return;
            }
            if (!changed) {
                beginChange();
            }
            if (stamps[cell] != stamp) {
                stamps[cell] = stamp;
                step(undoable).keep(cell, cells[cell]);
            }
            cells[cell] = value;
        }

        private void beginChange() {
            changed = true;
            if (edits == 0) {
                redoable = 0;
                stamp++;
                step(undoable).size = 0;
            }
        }

        void endEdit() {
            if (changed) {
                changed = false;
                edits++;
                if (!grouped) {
                    endStep();
                }
            }
        }

        private void endStep() {
            edits = 0;
            if (undoable < MOST_STEPS) {
                undoable++;
            } else {
                oldest = (oldest + 1) % RING;
            }
        }

        void openGroup() {
            grouped = true;
        }

        void closeGroup() {
            grouped = false;
            if (edits > 0) {
                endStep();
            }
        }

        boolean goBack() {
            if (undoable == 0) {
                return false;
            }
            undoable--;
            redoable++;
            step(undoable).exchange(cells);
            return true;
        }

        boolean goForth() {
            if (redoable == 0) {
                return false;
            }
            step(undoable).exchange(cells);
            undoable++;
            redoable--;
            return true;
        }

        private Step step(int i) {
            return ring[(oldest + i) % RING];
        }
    }

    /** The cells that one step changed, with what they held on its other side. */
    private static final class Step {
        private int[] changedCells;
        private int[] values;
        int size;

        Step() {
            changedCells = new int[4];
            values = new int[4];
        }

        void keep(int cell, int value) {
            if (size == changedCells.length) {
                changedCells = Arrays.copyOf(changedCells, size * 2);
                values = Arrays.copyOf(values, size * 2);
            }
            changedCells[size] = cell;
            values[size] = value;
            size++;
        }

        /** Undoes the step, or does it again if it is undone. */
        void exchange(int[] cells) {
            for (int i = 0; i < size; i++) {
                int cell = changedCells[i];
                int value = cells[cell];
                cells[cell] = values[i];
                values[i] = value;
            }
        }
    }

    /** What was found latest. */
    private static final class Findings {
        int[] entries;
        int[] days;
        int[] dates;
        int size;

        Findings() {
            entries = new int[16];
            days = new int[16];
            dates = new int[16];
        }

        void clear() {
            size = 0;
        }

        void add(int entry, int day, int date) {
            if (size == entries.length) {
                entries = Arrays.copyOf(entries, size * 2);
                days = Arrays.copyOf(days, size * 2);
                dates = Arrays.copyOf(dates, size * 2);
            }
            entries[size] = entry;
            days[size] = day;
            dates[size] = date;
            size++;
        }
    }

    /** Keys to be put in order, no two of them equal. */
    private static final class Keys {
        long[] row;
        int size;

        Keys() {
            row = new long[16];
        }

        void clear() {
            size = 0;
        }

        void add(long key) {
            if (size == row.length) {
                row = Arrays.copyOf(row, size * 2);
            }
            row[size] = key;
            size++;
        }

        /** Shell's sort: it needs no second row, and among keys that differ nothing shows that it is not stable. */
        void putInOrder() {
            for (int gap = widestGap(); gap > 0; gap /= 3) {
                for (int i = gap; i < size; i++) {
                    sink(i, gap);
                }
            }
        }

        private int widestGap() {
            int gap = 1;
            while (gap < size / 3) {
                gap = gap * 3 + 1;
            }
            return gap;
        }

        private void sink(int i, int gap) {
            long key = row[i];
            int at = i;
            while (at >= gap && row[at - gap] > key) {
                row[at] = row[at - gap];
                at -= gap;
            }
            row[at] = key;
        }
    }

    /** The calendar. Months are counted from January of the year 1, which is 0. */
    private static final class Days {
        static final int LAST_DAY = 3652058, LAST_YEAR = 9999;
        static final int WEEK_DAYS = 7, YEAR_MONTHS = 12;

        private static final int CYCLE_YEARS = 400, CYCLE_DAYS = 146097;
        private static final int CYCLE_MONTHS = CYCLE_YEARS * YEAR_MONTHS;
        private static final int SHORTEST_MONTH = 28, FEBRUARY = 1;
        private static final int[] LENGTHS = {31, 28, 31, 30, 31, 30, 31, 31, 30, 31, 30, 31};
        private static final int[] DAYS_BEFORE = {0, 31, 59, 90, 120, 151, 181, 212, 243, 273, 304, 334};

        private static final int LAST_KIND = 3, UNTIL_BEHIND_TODAY = 2, FROM_TODAY = 3;
        private static final int LAST_UNIT = 3, WEEKS = 1, MONTHS = 2, YEARS = 3;
        private static final int MOST_COUNT = 99;

        static boolean isRepeat(int kind, int unit, int count) {
            return kind == 0
                    || isWithin(kind, 1, LAST_KIND) && isWithin(unit, 0, LAST_UNIT) && isWithin(count, 1, MOST_COUNT);
        }

        static int repeat(int kind, int unit, int count) {
            return kind == 0 ? 0 : kind + 10 * unit + 100 * count;
        }

        /** Where a date moves, if it has a repeat; that may be above the last day. */
        static int moved(int day, int repeat, int today) {
            if (repeat == 0) {
                return day;
            }
            int kind = repeat % 10;
            int unit = repeat / 10 % 10;
            int count = repeat / 100;
            int from = kind == FROM_TODAY ? today : day;
            int behind = kind == UNTIL_BEHIND_TODAY ? today : NONE;
            if (unit < MONTHS) {
                return daysLater(from, unit == WEEKS ? count * WEEK_DAYS : count, behind);
            }
            return monthsLater(from, unit == YEARS ? count * YEAR_MONTHS : count, behind);
        }

        /** One step, and as many more as bring it above a day; so many at once, as they may be millions. */
        private static int daysLater(int day, int count, int behind) {
            int first = day + count;
            return first > behind ? first : first + ((behind - first) / count + 1) * count;
        }

        private static int monthsLater(int day, int count, int behind) {
            int before = monthsBefore(day);
            int months = before + count;
            int inMonth = Math.min(dayInMonth(day, before), lengthOf(months));
            // After as many steps as a cycle has months, every month that they ever meet has cut the day.
            for (int i = 0; i < CYCLE_MONTHS && inMonth > SHORTEST_MONTH && number(months, inMonth) <= behind; i++) {
                months += count;
                inMonth = Math.min(inMonth, lengthOf(months));
            }
            // What is not cut any more needs no single steps.
            if (number(months, inMonth) <= behind) {
                months += (monthsBefore(behind) - months) / count * count;
            }
            if (number(months, inMonth) <= behind) {
                months += count;
            }
            return number(months, inMonth);
        }

        static int number(int months, int dayInMonth) {
            int year = months / YEAR_MONTHS + 1;
            int month = months % YEAR_MONTHS;
            int leapDay = month > FEBRUARY && isLeap(year) ? 1 : 0;
            return firstDayOf(year) + DAYS_BEFORE[month] + leapDay + dayInMonth - 1;
        }

        static int lengthOf(int months) {
            int month = months % YEAR_MONTHS;
            return LENGTHS[month] + (month == FEBRUARY && isLeap(months / YEAR_MONTHS + 1) ? 1 : 0);
        }

        static int yearOf(int day) {
            // By the mean length of a year this is the year or the one before it.
            int year = (int) ((long) day * CYCLE_YEARS / CYCLE_DAYS) + 1;
            return firstDayOf(year + 1) > day ? year : year + 1;
        }

        /** The month of a day. */
        static int monthsBefore(int day) {
            int january = (yearOf(day) - 1) * YEAR_MONTHS;
            for (int month = YEAR_MONTHS - 1; month > 0; month--) {
                if (number(january + month, 1) <= day) {
                    return january + month;
                }
            }
            return january;
        }

        static int dayInMonth(int day, int months) {
            return day - number(months, 1) + 1;
        }

        private static int firstDayOf(int year) {
            int before = year - 1;
            return before * 365 + before / 4 - before / 100 + before / 400;
        }

        private static boolean isLeap(int year) {
            return year % 4 == 0 && (year % 100 != 0 || year % 400 == 0);
        }
    }
}
