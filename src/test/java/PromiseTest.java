/** For each promise of the document: ordinary inputs, the edges it names, and wrong inputs. */
public final class PromiseTest {
    private static final int[] NO_NAMES = {-1, -2, 1000, 1001, Integer.MIN_VALUE, Integer.MAX_VALUE};
    private static final int[] NO_CELLS = {-1, -2, 2366, 2367, Integer.MIN_VALUE, Integer.MAX_VALUE};
    /** Stands for a thrown IndexOutOfBoundsException; no int is so large. */
    private static final long THROWS = 1L << 40;

    private static int wrong = 0;

    private static void due(String what, long got, long want) {
        if (got != want) {
            wrong++;
            System.out.println(what + " answered " + told(got) + ", due is " + told(want));
        }
    }

    private static void due(String what, boolean got, boolean want) {
        due(what, got ? 1 : 0, want ? 1 : 0);
    }

    private static String told(long answer) {
        return answer == THROWS ? "throws.IndexOutOfBoundsException" : Long.toString(answer);
    }

    /** The machine's own exceptions are classes below the document's one, and are let through. */
    private static long thrown(IndexOutOfBoundsException e) {
        if (e.getClass() != IndexOutOfBoundsException.class) {
            throw e;
        }
        return THROWS;
    }

    private static long get(GroupDesk x, int cell) {
        try {
            return x.get(cell);
        } catch (IndexOutOfBoundsException e) {
            return thrown(e);
        }
    }

    private static long define(GroupDesk x, int name, boolean global) {
        try {
            return x.define(name, global);
        } catch (IndexOutOfBoundsException e) {
            return thrown(e);
        }
    }

    private static long about(GroupDesk x, int name, int what) {
        try {
            return x.about(name, what);
        } catch (IndexOutOfBoundsException e) {
            return thrown(e);
        }
    }

    private static long number(GroupDesk x, int name, int k) {
        try {
            return x.number(name, k);
        } catch (IndexOutOfBoundsException e) {
            return thrown(e);
        }
    }

    private static void draftAll(GroupDesk x, int... numbers) {
        for (int v : numbers) {
            due("draft", x.draft(v), true);
        }
    }

    private static void dueMeaning(String what, GroupDesk x, int name, int kind, int value) {
        due(what + ", kind", about(x, name, 0), kind);
        due(what + ", value", about(x, name, 1), value);
    }

    private static void newObject() {
        GroupDesk x = new GroupDesk();
        due("1: NONE", GroupDesk.NONE, -1);
        for (int what = 0; what <= 2; what++) {
            due("1: count of a new object", x.count(what), 0);
        }
        due("1: first cell", get(x, 0), 0);
        due("1: last cell", get(x, 2365), 0);
        dueMeaning("1: first name", x, 0, 0, 0);
        dueMeaning("1: last name", x, 999, 0, 0);
        due("1: shape", number(x, -1, -1), 0);
        due("1: no number in the shape", number(x, -1, 0), THROWS);
        due("1: close", x.close(), false);

        x.set(0, 1, false);
        x.draft(1);
        GroupDesk y = new GroupDesk();
        due("1: cell of another object", get(y, 0), 0);
        due("1: draft of another object", y.count(1), 0);
    }

    private static void open() {
        GroupDesk x = new GroupDesk();
        for (int i = 1; i <= 200; i++) {
            due("2: open " + i, x.open(), true);
            due("2: groups", x.count(0), i);
        }
        due("2: open 201", x.open(), false);
        due("2: groups, all", x.count(0), 200);
        due("2: set in group 200", x.set(1, 5, false), true);
        due("2: close", x.close(), true);
        due("2: cell behind group 200", get(x, 1), 0);
        due("2: open again", x.open(), true);
        due("2: open too often again", x.open(), false);
    }

    private static void close() {
        GroupDesk x = new GroupDesk();
        due("3: none open", x.close(), false);
        due("3: groups", x.count(0), 0);
        x.set(3, 1, false);
        x.open();
        x.set(3, 2, false);
        x.set(3, 3, false);
        x.open();
        x.set(3, 4, false);
        x.set(3, 5, true);
        x.set(3, 6, false);
        x.set(3, 7, true);
        x.set(3, 8, false);
        due("3: within", get(x, 3), 8);
        due("3: inner", x.close(), true);
        due("3: last global one", get(x, 3), 7);
        x.set(3, 9, false);
        due("3: outer", x.close(), true);
        due("3: global one in all groups", get(x, 3), 7);
        due("3: none open again", x.close(), false);
        x.set(3, 10, false);
        x.open();
        due("3: empty group", x.close(), true);
        due("3: stays behind an empty group", get(x, 3), 10);

        x.open();
        x.draft(1);
        x.close();
        due("3: the draft is not undone", x.count(1), 1);
    }

    /** The groups between the assignments have nothing saved of the place. */
    private static void closeOverGap() {
        GroupDesk x = new GroupDesk();
        x.open();
        x.set(4, 1, false);
        x.set(5, 1, false);
        x.open();
        x.open();
        x.set(4, 2, false);
        x.set(5, 2, false);
        x.close();
        due("3: outer value", get(x, 4), 1);
        x.set(4, 3, true);
        x.close();
        due("3: global value", get(x, 4), 3);
        due("3: the other cell", get(x, 5), 1);
        x.close();
        due("3: global value at last", get(x, 4), 3);
        due("3: the other cell at last", get(x, 5), 0);
    }

    private static void set() {
        GroupDesk x = new GroupDesk();
        due("4: first", x.set(0, Integer.MIN_VALUE, false), true);
        due("4: last", x.set(2365, Integer.MAX_VALUE, true), true);
        due("4: first", get(x, 0), Integer.MIN_VALUE);
        due("4: last", get(x, 2365), Integer.MAX_VALUE);
        due("4: next to the first", get(x, 1), 0);
        dueMeaning("4: a name stays", x, 0, 0, 0);
        for (int cell : NO_CELLS) {
            due("4: wrong cell", x.set(cell, 1, false), false);
            due("4: wrong cell, global", x.set(cell, 1, true), false);
        }
        dueMeaning("4: first name behind wrong cells", x, 0, 0, 0);
    }

    private static void mean() {
        GroupDesk x = new GroupDesk();
        for (int kind = 0; kind <= 8; kind++) {
            due("5: kind " + kind, x.mean(kind, kind, -kind, false), kind != 3);
            dueMeaning("5: kind " + kind, x, kind, kind == 3 ? 0 : kind, kind == 3 ? 0 : -kind);
        }
        for (int kind : new int[] {-1, 3, 9, Integer.MIN_VALUE, Integer.MAX_VALUE}) {
            due("5: wrong kind", x.mean(1, kind, 77, true), false);
        }
        dueMeaning("5: behind wrong kinds", x, 1, 1, -1);
        for (int name : NO_NAMES) {
            due("5: wrong name", x.mean(name, 1, 1, false), false);
        }
        due("5: no shape by a wrong name", number(x, -1, -1), 0);
        due("5: no cell by a wrong name", get(x, 2365), 0);
        due("5: last name", x.mean(999, 8, 5, false), true);
        dueMeaning("5: last name", x, 999, 8, 5);

        x.open();
        x.mean(999, 7, 6, false);
        x.mean(0, 7, 6, true);
        dueMeaning("5: in a group", x, 999, 7, 6);
        x.close();
        dueMeaning("5: undone", x, 999, 8, 5);
        dueMeaning("5: global", x, 0, 7, 6);
    }

    private static void draft() {
        GroupDesk x = new GroupDesk();
        for (int i = 1; i <= 200; i++) {
            due("6: draft " + i, x.draft(i * 7), true);
            due("6: drafted", x.count(1), i);
        }
        due("6: full", x.draft(-1), false);
        due("6: stays", x.count(1), 200);
        due("6: all in a row", define(x, 9, false), 200);
        due("6: empty again", x.count(1), 0);
        due("6: first number", number(x, 9, 0), 7);
        due("6: last number", number(x, 9, 199), 1400);
        due("6: none behind", number(x, 9, 200), THROWS);
        due("6: joins again", x.draft(Integer.MIN_VALUE), true);
        due("6: another row", define(x, 8, false), 1);
        due("6: its number", number(x, 8, 0), Integer.MIN_VALUE);
        due("6: kept", x.count(2), 201);
    }

    private static void define() {
        GroupDesk x = new GroupDesk();
        draftAll(x, 5, 6, 7);
        for (int name : NO_NAMES) {
            due("7: wrong name", define(x, name, true), THROWS);
            due("7: wrong name", define(x, name, false), THROWS);
        }
        due("7: the draft stays", x.count(1), 3);
        due("7: nothing kept", x.count(2), 0);
        due("7: three numbers", define(x, 999, false), 3);
        dueMeaning("7: three numbers", x, 999, 3, 3);
        due("7: draft is empty", x.count(1), 0);
        x.open();
        draftAll(x, 8);
        due("7: in a group", define(x, 999, false), 1);
        due("7: number", number(x, 999, 0), 8);
        due("7: empty row", define(x, 0, true), 0);
        x.close();
        due("7: undone", number(x, 999, 2), 7);
        dueMeaning("7: undone", x, 999, 3, 3);
        dueMeaning("7: empty row", x, 0, 3, 0);
        x.open();
        draftAll(x, 9, 9);
        due("7: global", define(x, 999, true), 2);
        x.close();
        dueMeaning("7: global", x, 999, 3, 2);
        due("7: the older row is gone", x.count(2), 2);
    }

    private static void let() {
        GroupDesk x = new GroupDesk();
        x.mean(0, 5, -9, false);
        due("8: let", x.let(999, 0, false), true);
        dueMeaning("8: let", x, 999, 5, -9);
        for (int name : NO_NAMES) {
            due("8: wrong name", x.let(name, 0, false), false);
            due("8: wrong other", x.let(0, name, true), false);
            due("8: both wrong", x.let(name, name, true), false);
        }
        dueMeaning("8: behind wrong names", x, 0, 5, -9);

        draftAll(x, 1, 2);
        x.define(0, false);
        dueMeaning("8: the other one changes alone", x, 999, 5, -9);
        x.open();
        x.let(1, 0, false);
        x.let(2, 0, true);
        draftAll(x, 3);
        x.define(0, false);
        due("8: row of old", number(x, 1, 1), 2);
        x.let(0, 0, false);
        due("8: own meaning", number(x, 0, 0), 3);
        x.close();
        dueMeaning("8: undone", x, 1, 0, 0);
        dueMeaning("8: global", x, 2, 3, 2);
        dueMeaning("8: the other one undone", x, 0, 3, 2);

        x.open();
        x.mean(0, 1, 4, false);
        x.let(0, 0, true);
        x.close();
        dueMeaning("8: own meaning made global", x, 0, 1, 4);
    }

    private static void shape() {
        GroupDesk x = new GroupDesk();
        due("9: empty", x.shape(false), 0);
        draftAll(x, 4, 5);
        due("9: two", x.shape(false), 2);
        due("9: draft is empty", x.count(1), 0);
        due("9: the shape keeps nothing", x.count(2), 0);
        x.open();
        draftAll(x, 6);
        due("9: one", x.shape(false), 1);
        due("9: its number", number(x, -1, 0), 6);
        x.close();
        due("9: undone", number(x, -1, -1), 2);
        due("9: undone number", number(x, -1, 1), 5);
        x.open();
        x.shape(false);
        x.open();
        draftAll(x, 7, 8, 9);
        due("9: three", x.shape(true), 3);
        x.shape(false);
        due("9: empty over three", number(x, -1, -1), 0);
        x.close();
        due("9: global", number(x, -1, -1), 3);
        x.close();
        due("9: global in all groups", number(x, -1, 2), 9);
    }

    private static void get() {
        GroupDesk x = new GroupDesk();
        for (int cell : NO_CELLS) {
            due("10: wrong cell", get(x, cell), THROWS);
        }
        x.mean(0, 1, 5, false);
        draftAll(x, 1);
        x.shape(false);
        due("10: last cell beside the first name", get(x, 2365), 0);
        due("10: no cell behind the last", get(x, 2366), THROWS);
        x.set(2364, 6, false);
        due("10: value", get(x, 2364), 6);
    }

    private static void about() {
        GroupDesk x = new GroupDesk();
        for (int name : NO_NAMES) {
            due("11: wrong name", about(x, name, 0), THROWS);
            due("11: wrong name", about(x, name, 1), THROWS);
        }
        for (int what : new int[] {-1, 2, 3, Integer.MIN_VALUE, Integer.MAX_VALUE}) {
            due("11: wrong what", about(x, 0, what), THROWS);
        }
        x.mean(6, 8, Integer.MIN_VALUE, false);
        dueMeaning("11: an int", x, 6, 8, Integer.MIN_VALUE);
        draftAll(x, 50, 60);
        x.define(6, false);
        dueMeaning("11: a row", x, 6, 3, 2);
    }

    private static void number() {
        GroupDesk x = new GroupDesk();
        draftAll(x, 10, 20);
        x.define(0, false);
        draftAll(x, 30);
        x.shape(false);
        x.mean(1, 4, 1, false);
        x.define(2, false);
        due("12: first", number(x, 0, 0), 10);
        due("12: last", number(x, 0, 1), 20);
        due("12: shape", number(x, -1, 0), 30);
        due("12: shape has", number(x, -1, -1), 1);
        for (int k : new int[] {-1, -2, 2, 200, Integer.MIN_VALUE, Integer.MAX_VALUE}) {
            due("12: wrong k", number(x, 0, k), THROWS);
        }
        for (int k : new int[] {-2, 1, 2, Integer.MIN_VALUE, Integer.MAX_VALUE}) {
            due("12: wrong k of the shape", number(x, -1, k), THROWS);
        }
        due("12: name of another kind", number(x, 1, 0), THROWS);
        due("12: name of another kind, -1", number(x, 1, -1), THROWS);
        due("12: empty row", number(x, 2, 0), THROWS);
        for (int name : new int[] {-2, 1000, Integer.MIN_VALUE, Integer.MAX_VALUE}) {
            due("12: wrong name", number(x, name, 0), THROWS);
            due("12: wrong name, -1", number(x, name, -1), THROWS);
        }
        draftAll(x, 40);
        due("12: the draft is in no row", number(x, 2, 0), THROWS);
    }

    private static void count() {
        GroupDesk x = new GroupDesk();
        for (int what : new int[] {-1, 3, 4, Integer.MIN_VALUE, Integer.MAX_VALUE}) {
            due("13: another what", x.count(what), GroupDesk.NONE);
        }
        draftAll(x, 1, 2, 3);
        due("13: a draft is not kept", x.count(2), 0);
        x.define(0, false);
        x.let(1, 0, false);
        due("13: each row once", x.count(2), 3);
        draftAll(x, 1, 2, 3);
        x.define(2, false);
        due("13: equal rows are two", x.count(2), 6);
        x.mean(0, 0, 0, false);
        due("13: told by another name", x.count(2), 6);
        x.open();
        x.mean(1, 0, 0, false);
        due("13: told again when the group closes", x.count(2), 6);
        draftAll(x, 4);
        x.define(1, false);
        due("13: one more", x.count(2), 7);
        draftAll(x, 5, 6);
        x.define(1, false);
        due("13: the one before is gone", x.count(2), 8);
        x.open();
        x.mean(1, 2, 2, false);
        due("13: two groups", x.count(0), 2);
        due("13: told again by both", x.count(2), 8);
        x.mean(1, 2, 2, true);
        due("13: never told again", x.count(2), 3);
        x.close();
        x.close();
        due("13: the row of name 2 alone", x.count(2), 3);
        x.let(2, 2, false);
        due("13: own meaning", x.count(2), 3);
        x.let(2, 1, false);
        due("13: nothing", x.count(2), 0);
        x.mean(3, 4, 1, false);
        due("13: an int is no row", x.count(2), 0);
    }

    public static void main(String[] args) {
        newObject();
        open();
        close();
        closeOverGap();
        set();
        mean();
        draft();
        define();
        let();
        shape();
        get();
        about();
        number();
        count();
        System.out.println(wrong == 0 ? "all answers are as due" : wrong + " answers are not as due");
        if (wrong != 0) {
            System.exit(1);
        }
    }
}
