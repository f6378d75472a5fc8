/**
 * Meanings of names and values of cells under groups that undo what was assigned in them, with
 * rows of numbers that are kept as long as anything tells them.
 */
public final class GroupDesk {
    public static final int NONE = -1;

    private static final int CELLS = 2366;
    private static final int NAMES = 1000;
    private static final int GROUPS = 200;
    private static final int DRAFT = 200;
    private static final int LAST_KIND = 8;
    private static final int ROW_KIND = 3;
    private static final int PLAIN_KIND = 0;

    // An object serves 512 calls, and no call drafts, makes or saves more than one thing, so
    // rows of this length never fill up before the promises end.
    private static final int CALLS = 512;

    // Cells, names and the shape are undone alike, so they stand in one line of places.
    private static final int FIRST_NAME = CELLS;
    private static final int SHAPE = FIRST_NAME + NAMES;
    private static final int PLACES = SHAPE + 1;

    private final Rows rows;
    private final Places places;

    public GroupDesk() {
        rows = new Rows();
        places = new Places(rows);
    }

    public boolean open() {
        return places.enter();
    }

    public boolean close() {
        return places.leave();
    }

    public boolean set(int cell, int v, boolean global) {
        if (!isCell(cell)) {
            return false;
        }
        places.assign(cell, PLAIN_KIND, v, global);
        return true;
    }

    public boolean mean(int name, int kind, int v, boolean global) {
        if (!isName(name) || !isKindWithInt(kind)) {
            return false;
        }
        places.assign(FIRST_NAME + name, kind, v, global);
        return true;
    }

    public boolean draft(int v) {
        return rows.join(v);
    }

    public int define(int name, boolean global) throws IndexOutOfBoundsException {
        if (!isName(name)) {
            throw new IndexOutOfBoundsException("no such name");
        }
        int row = rows.takeDraft();
        places.assign(FIRST_NAME + name, ROW_KIND, row, global);
        return rows.lengthOf(row);
    }

    public boolean let(int name, int other, boolean global) {
        if (!isName(name) || !isName(other)) {
            return false;
        }
        int from = FIRST_NAME + other;
        places.assign(FIRST_NAME + name, places.kindAt(from), places.valueAt(from), global);
        return true;
    }

    public int shape(boolean global) {
        int row = rows.takeDraft();
        // Not ROW_KIND: the shape does not keep its row.
        places.assign(SHAPE, PLAIN_KIND, row, global);
        return rows.lengthOf(row);
    }

    public int get(int cell) throws IndexOutOfBoundsException {
        if (!isCell(cell)) {
            throw new IndexOutOfBoundsException("no such cell");
        }
        return places.valueAt(cell);
    }

    public int about(int name, int what) throws IndexOutOfBoundsException {
        if (!isName(name) || what < 0 || what > 1) {
            throw new IndexOutOfBoundsException("no such name or what");
        }
        int kind = places.kindAt(FIRST_NAME + name);
        if (what == 0) {
            return kind;
        }
        int value = places.valueAt(FIRST_NAME + name);
        return kind == ROW_KIND ? rows.lengthOf(value) : value;
    }

    public int number(int name, int k) throws IndexOutOfBoundsException {
        int row = rowOf(name);
        if (name == NONE && k == NONE) {
            return rows.lengthOf(row);
        }
        if (!rows.has(row, k)) {
            throw new IndexOutOfBoundsException("no such number");
        }
        return rows.numberAt(row, k);
    }

    public int count(int what) {
        switch (what) {
            case 0:
                return places.depth();
            case 1:
                return rows.drafted();
            case 2:
                return rows.kept();
            default:
                return NONE;
        }
    }

    private static boolean isCell(int cell) {
        return cell >= 0 && cell < CELLS;
    }

    private static boolean isName(int name) {
        return name >= 0 && name < NAMES;
    }

    private static boolean isKindWithInt(int kind) {
        return kind >= 0 && kind <= LAST_KIND && kind != ROW_KIND;
    }

    /** The row of a name of kind 3, or of the shape for name -1; NONE where there is no row. */
    private int rowOf(int name) {
        if (name == NONE) {
            return places.valueAt(SHAPE);
        }
        if (!isName(name) || places.kindAt(FIRST_NAME + name) != ROW_KIND) {
            return NONE;
        }
        return places.valueAt(FIRST_NAME + name);
    }

    /** The rows that were drafted, one behind another, with the draft behind the last of them. */
    private static final class Rows {
        // Drafts without numbers share one row: none of its numbers is ever counted.
        private static final int EMPTY = 0;

        private final int[] numbers = new int[CALLS];
        private final int[] starts = new int[CALLS + 1];
        private final int[] lengths = new int[CALLS + 1];
        private final int[] tellers = new int[CALLS + 1];
        private int made = EMPTY + 1;
        private int draftStart = 0;
        private int draftLength = 0;
        private int keptNumbers = 0;

        boolean join(int v) {
            int end = draftStart + draftLength;
            if (draftLength >= DRAFT || end >= numbers.length) {
                return false;
            }
            numbers[end] = v;
            draftLength++;
            return true;
        }

        /** Makes the draft a row that nothing tells as yet. */
        int takeDraft() {
            if (draftLength == 0 || made >= starts.length) {
                return EMPTY;
            }
            int row = made;
            starts[row] = draftStart;
            lengths[row] = draftLength;
            made++;
            draftStart += draftLength;
            draftLength = 0;
            return row;
        }

        int drafted() {
            return draftLength;
        }

        int kept() {
            return keptNumbers;
        }

        int lengthOf(int row) {
            return isRow(row) ? lengths[row] : 0;
        }

        boolean has(int row, int k) {
            return k >= 0 && k < lengthOf(row);
        }

        int numberAt(int row, int k) {
            int at = has(row, k) ? starts[row] + k : NONE;
            return at >= 0 && at < numbers.length ? numbers[at] : 0;
        }

        void addTeller(int row) {
            if (!isRow(row)) {
                return;
            }
            if (tellers[row] == 0) {
                keptNumbers += lengths[row];
            }
            tellers[row]++;
        }

        void dropTeller(int row) {
            if (!isRow(row) || tellers[row] == 0) {
                return;
            }
            tellers[row]--;
            if (tellers[row] == 0) {
                keptNumbers -= lengths[row];
            }
        }

        private boolean isRow(int row) {
            return row >= 0 && row < made;
        }
    }

    /**
     * What every place holds now, and what it will hold again when groups close. A place is
     * saved at most once a group; what is saved of inner groups stands behind that of outer ones.
     */
    private static final class Places {
        private final Rows rows;
        private final int[] kinds = new int[PLACES];
        private final int[] values = new int[PLACES];
        private final int[] savedPlaces = new int[CALLS];
        private final int[] savedGroups = new int[CALLS];
        private final int[] savedKinds = new int[CALLS];
        private final int[] savedValues = new int[CALLS];
        private int savedCount = 0;
        private int openGroups = 0;

        Places(Rows rows) {
            this.rows = rows;
        }

        int depth() {
            return openGroups;
        }

        int kindAt(int place) {
            return isPlace(place) ? kinds[place] : PLAIN_KIND;
        }

        int valueAt(int place) {
            return isPlace(place) ? values[place] : 0;
        }

        boolean enter() {
            if (openGroups >= GROUPS) {
                return false;
            }
            openGroups++;
            return true;
        }

        boolean leave() {
            if (openGroups == 0) {
                return false;
            }
            int left = savedCount;
            for (; left > 0 && savedGroups[left - 1] == openGroups; left--) {
                putBack(left - 1);
            }
            savedCount = left;
            openGroups--;
            return true;
        }

        void assign(int place, int kind, int value, boolean global) {
            if (!isPlace(place)) {
                return;
            }
            tell(kind, value);
            if (global) {
                forgetSaved(place);
            }
            if (!global && mustSave(place)) {
                save(place);
            } else {
                untell(kinds[place], values[place]);
            }
            kinds[place] = kind;
            values[place] = value;
        }

        private static boolean isPlace(int place) {
            return place >= 0 && place < PLACES;
        }

        private boolean mustSave(int place) {
            if (openGroups == 0 || savedCount >= savedPlaces.length) {
                return false;
            }
            for (int i = savedCount - 1; i >= 0 && savedGroups[i] == openGroups; i--) {
                if (savedPlaces[i] == place) {
                    return false;
                }
            }
            return true;
        }

        private void save(int place) {
            savedPlaces[savedCount] = place;
            savedGroups[savedCount] = openGroups;
            savedKinds[savedCount] = kinds[place];
            savedValues[savedCount] = values[place];
            savedCount++;
        }

        private void putBack(int i) {
            int place = savedPlaces[i];
            if (!isPlace(place)) {
                return;
            }
            untell(kinds[place], values[place]);
            kinds[place] = savedKinds[i];
            values[place] = savedValues[i];
        }

        /** What was assigned with GLOBAL is so in all groups: nothing older comes again. */
        private void forgetSaved(int place) {
            int left = 0;
            for (int i = 0; i < savedCount; i++) {
                if (savedPlaces[i] == place) {
                    untell(savedKinds[i], savedValues[i]);
                } else {
                    moveSaved(i, left);
                    left++;
                }
            }
            savedCount = left;
        }

        private void moveSaved(int from, int to) {
            savedPlaces[to] = savedPlaces[from];
            savedGroups[to] = savedGroups[from];
            savedKinds[to] = savedKinds[from];
            savedValues[to] = savedValues[from];
        }

        private void tell(int kind, int value) {
            if (kind == ROW_KIND) {
                rows.addTeller(value);
            }
        }

        private void untell(int kind, int value) {
            if (kind == ROW_KIND) {
                rows.dropTeller(value);
            }
        }
    }
}
