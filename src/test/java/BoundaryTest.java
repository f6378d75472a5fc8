/**
 * For each sentence of the document that names a boundary case, a test of its own: what is too
 * small or too large, empty, full or not there. What refused calls leave alone is in RefusedTest.
 */
public final class BoundaryTest {
    private static final int MIN = Integer.MIN_VALUE;
    private static final int MAX = Integer.MAX_VALUE;
    /** Next to the ends, far away, and those that a short, a byte or a sum would wrap to a good one. */
    private static final int[] NO_CELLS = {-1, -2, -2366, 2366, 2367, 3366, 65536, -65536, MIN, MIN + 5, MAX};
    private static final int[] NO_NAMES = {-2, -1000, -2366, 1000, 1001, 65536, -65536, MIN, MIN + 5, MAX};
    private static final int[] NO_KINDS = {-1, -2, 3, 9, 10, 256, 257, 259, 65537, MIN, MIN + 1, MAX};
    private static final int[] NO_WHATS_OF_NAMES = {-1, -2, 2, 3, 256, 257, 65536, MIN, MIN + 1, MAX};
    private static final int[] NO_COUNTS = {-1, -2, 3, 4, 256, 258, 65536, MIN, MIN + 2, MAX};
    /** Stands for a thrown IndexOutOfBoundsException; no int is so large. */
    private static final long THROWS = 1L << 40;

    private static String sentence = "";
    private static int wrong = 0;

    private static void due(String what, long got, long want) {
        if (got != want) {
            wrong++;
            System.out.println(sentence);
            System.out.println("    " + what + " answered " + told(got) + ", due is " + told(want));
        }
    }

    private static String told(long answer) {
        return answer == THROWS ? "throws.IndexOutOfBoundsException" : Long.toString(answer);
    }

    /** A desk whose answers are all longs, and that refuses to be asked more than is promised. */
    private static final class Desk {
        private final GroupDesk desk = new GroupDesk();
        private int calls = 0;

        private GroupDesk next() {
            calls++;
            if (calls > 512) {
                throw new IllegalStateException("the test makes more than 512 calls");
            }
            return desk;
        }

        /** The machine's own exceptions are classes below the document's one, and are let through. */
        private static long thrown(IndexOutOfBoundsException e) {
            if (e.getClass() != IndexOutOfBoundsException.class) {
                throw e;
            }
            return THROWS;
        }

        long open() {
            return next().open() ? 1 : 0;
        }

        long close() {
            return next().close() ? 1 : 0;
        }

        long set(int cell, int v, boolean global) {
            return next().set(cell, v, global) ? 1 : 0;
        }

        long mean(int name, int kind, int v, boolean global) {
            return next().mean(name, kind, v, global) ? 1 : 0;
        }

        long draft(int v) {
            return next().draft(v) ? 1 : 0;
        }

        long define(int name, boolean global) {
            try {
                return next().define(name, global);
            } catch (IndexOutOfBoundsException e) {
                return thrown(e);
            }
        }

        long let(int name, int other, boolean global) {
            return next().let(name, other, global) ? 1 : 0;
        }

        long shape(boolean global) {
            return next().shape(global);
        }

        long get(int cell) {
            try {
                return next().get(cell);
            } catch (IndexOutOfBoundsException e) {
                return thrown(e);
            }
        }

        long about(int name, int what) {
            try {
                return next().about(name, what);
            } catch (IndexOutOfBoundsException e) {
                return thrown(e);
            }
        }

        long number(int name, int k) {
            try {
                return next().number(name, k);
            } catch (IndexOutOfBoundsException e) {
                return thrown(e);
            }
        }

        long count(int what) {
            return next().count(what);
        }

        Desk opened(int groups) {
            for (int i = 0; i < groups; i++) {
                open();
            }
            return this;
        }

        Desk closed(int groups) {
            for (int i = 0; i < groups; i++) {
                close();
            }
            return this;
        }

        /** Drafts first, first + 1 and so on. */
        Desk drafted(int first, int howMany) {
            for (int i = 0; i < howMany; i++) {
                draft(first + i);
            }
            return this;
        }

        Desk defined(int name, int first, int howMany, boolean global) {
            drafted(first, howMany).define(name, global);
            return this;
        }

        Desk shaped(int first, int howMany, boolean global) {
            drafted(first, howMany).shape(global);
            return this;
        }
    }

    private static void dueMeaning(String what, Desk x, int name, int kind, int value) {
        due(what + ": the kind", x.about(name, 0), kind);
        due(what + ": the value", x.about(name, 1), value);
    }

    /** A name of kind 3 has the row first, first + 1 and so on; a name of -1 is the shape. */
    private static void dueRow(String what, Desk x, int name, int first, int howMany) {
        due(what + ": how many", name == -1 ? x.number(-1, -1) : x.about(name, 1), howMany);
        for (int k = 0; k < howMany; k++) {
            due(what + ": number " + k, x.number(name, k), first + k);
        }
        due(what + ": none behind the last", x.number(name, howMany), THROWS);
    }

    // ---- What it is, and Terms

    private static void lastCall() {
        for (int cell = 0; cell <= 508; cell++) {
            Desk x = new Desk();
            x.open();
            for (int i = 0; i <= 508; i++) {
                x.set(i, i + 1, false);
            }
            due("call 511, close()", x.close(), 1);
            due("call 512, get(" + cell + ")", x.get(cell), 0);
        }
        for (int k = 105; k <= 107; k++) {
            Desk x = new Desk().defined(0, 0, 200, false).defined(1, 200, 200, false).drafted(400, 108);
            due("call 511, shape", x.shape(true), 108);
            due("call 512, number(-1, " + k + ")", x.number(-1, k), 400 + k);
        }
        Desk x = new Desk().defined(0, 0, 200, false).defined(1, 200, 200, false);
        due("call 511, define", x.drafted(400, 108).define(2, true), 108);
        due("call 512, count(2)", x.count(2), 508);
    }

    private static void cellsAtFirst() {
        for (int from = 0; from < 2366; from += 500) {
            Desk x = new Desk();
            for (int cell = from; cell < from + 500 && cell < 2366; cell++) {
                due("get(" + cell + ") at first", x.get(cell), 0);
            }
        }
    }

    private static void everyCellHasItsOwnInt() {
        for (int from = 0; from < 2366; from += 250) {
            Desk x = new Desk();
            int end = Math.min(from + 250, 2366);
            for (int cell = from; cell < end; cell++) {
                due("set(" + cell + ")", x.set(cell, cell * 900001 + 1, cell % 2 == 0), 1);
            }
            for (int cell = from; cell < end; cell++) {
                due("get(" + cell + ")", x.get(cell), cell * 900001 + 1);
            }
        }
    }

    private static void cellsHaveInts() {
        for (int v : new int[] {MIN, MIN + 1, -1, 0, 1, MAX - 1, MAX}) {
            for (int cell : new int[] {0, 1, 2364, 2365}) {
                Desk x = new Desk().opened(1);
                x.set(cell, v, true);
                due("get(" + cell + ")", x.get(cell), v);
                x.set(cell, 7, false);
                x.close();
                due("get(" + cell + ") again", x.get(cell), v);
            }
        }
    }

    private static void namesAtFirst() {
        for (int from = 0; from < 1000; from += 250) {
            Desk x = new Desk();
            for (int name = from; name < from + 250; name++) {
                dueMeaning("name " + name + " at first", x, name, 0, 0);
            }
        }
    }

    private static void everyNameHasItsOwnMeaning() {
        for (int from = 0; from < 1000; from += 125) {
            Desk x = new Desk();
            for (int name = from; name < from + 125; name++) {
                int kind = name % 9 == 3 ? 8 : name % 9;
                due("mean(" + name + ")", x.mean(name, kind, name * 2000003 + 1, name % 2 == 0), 1);
            }
            for (int name = from; name < from + 125; name++) {
                int kind = name % 9 == 3 ? 8 : name % 9;
                dueMeaning("name " + name, x, name, kind, name * 2000003 + 1);
            }
        }
    }

    private static void everyNameHasItsOwnRow() {
        for (int from = 0; from < 1000; from += 125) {
            Desk x = new Desk();
            for (int name = from; name < from + 125; name++) {
                due("define(" + name + ")", x.drafted(name - 500, 1).define(name, name % 2 == 0), 1);
            }
            for (int name = from; name < from + 125; name++) {
                due("number(" + name + ", 0)", x.number(name, 0), name - 500);
                due("about(" + name + ", 0)", x.about(name, 0), 3);
            }
        }
    }

    private static void valuesAreInts() {
        for (int kind = 0; kind <= 8; kind++) {
            for (int v : new int[] {MIN, MIN + 1, -1, 0, 1, 2, MAX - 1, MAX}) {
                if (kind != 3) {
                    Desk x = new Desk().opened(1);
                    x.mean(999, kind, v, true);
                    dueMeaning("kind " + kind, x, 999, kind, v);
                    x.defined(999, 5, 1, false).close();
                    dueMeaning("kind " + kind + " again", x, 999, kind, v);
                }
            }
        }
    }

    private static void rowsOfNames() {
        for (int howMany : new int[] {0, 1, 2, 199, 200}) {
            for (int name : new int[] {0, 999}) {
                Desk x = new Desk().drafted(-100, howMany);
                due("define", x.define(name, false), howMany);
                dueMeaning("a row of " + howMany, x, name, 3, howMany);
                dueRow("a row of " + howMany, x, name, -100, howMany);
            }
        }
        Desk x = new Desk();
        for (int v : new int[] {MIN, MAX, 0, -1}) {
            x.draft(v);
        }
        x.define(4, false);
        due("the least number", x.number(4, 0), MIN);
        due("the largest number", x.number(4, 1), MAX);
        due("number 0 of a row", x.number(4, 2), 0);
        due("number -1 of a row", x.number(4, 3), -1);
    }

    private static void rowsOfTheShape() {
        dueRow("the shape at first", new Desk(), -1, 0, 0);
        for (int howMany : new int[] {0, 1, 2, 199, 200}) {
            Desk x = new Desk().drafted(-100, howMany);
            due("shape", x.shape(false), howMany);
            dueRow("a shape of " + howMany, x, -1, -100, howMany);
        }
        Desk x = new Desk().opened(1).shaped(5, 3, false);
        x.close();
        dueRow("the shape at first, again", x, -1, 0, 0);
    }

    private static void draftHasAtMost200() {
        Desk x = new Desk().drafted(1, 198);
        due("draft 199", x.draft(199), 1);
        due("draft 200", x.draft(200), 1);
        due("draft 201", x.draft(201), 0);
        due("draft 202", x.draft(202), 0);
        due("drafted", x.count(1), 200);
        due("define", x.define(0, false), 200);
        dueRow("the row", x, 0, 1, 200);
    }

    /** The level's own groups and fifty on either side assign, for all of them would be too many calls. */
    private static void groupsStandOneInAnother() {
        for (int level = 0; level <= 200; level++) {
            Desk x = new Desk();
            for (int group = 1; group <= 200; group++) {
                due("open " + group, x.open(), 1);
                if (Math.abs(group - level) <= 50) {
                    x.set(9, group, false);
                }
            }
            x.closed(200 - level);
            due("get(9) with " + level + " groups open", x.get(9), level);
        }
    }

    /** What can be assigned, and how to read it: assigning v is what reading then answers. */
    private enum Place {
        CELL, MEANING, ROW, LET, SHAPE;

        void assign(Desk x, int v, boolean global) {
            switch (this) {
                case CELL: x.set(2365, v, global); break;
                case MEANING: x.mean(999, v % 3, v, global); break;
                case ROW: x.defined(999, v, v, global); break;
                case LET: x.mean(1, 8, v, true); x.let(0, 1, global); break;
                default: x.shaped(v, v, global); break;
            }
        }

        long read(Desk x) {
            switch (this) {
                case CELL: return x.get(2365);
                case MEANING: return x.about(999, 1);
                case ROW: return x.about(999, 1);
                case LET: return x.about(0, 1);
                default: return x.number(-1, -1);
            }
        }
    }

    private static void undoneToWhatItWasWhenOpened() {
        for (Place p : Place.values()) {
            Desk x = new Desk().opened(1);
            p.assign(x, 1, false);
            due(p + " in the group", p.read(x), 1);
            x.close();
            due(p + ", never assigned before", p.read(x), 0);
            p.assign(x, 2, false);
            x.open();
            due(p + ", nothing assigned", p.read(x), 2);
            x.close();
            due(p + ", nothing assigned, closed", p.read(x), 2);
            x.open();
            p.assign(x, 3, false);
            p.assign(x, 4, false);
            x.open();
            p.assign(x, 5, false);
            x.close();
            due(p + " of the outer group", p.read(x), 4);
            x.close();
            due(p + ", assigned twice", p.read(x), 2);
        }
    }

    private static void undoneToTheLastGlobalSince() {
        for (Place p : Place.values()) {
            Desk x = new Desk();
            p.assign(x, 1, false);
            x.opened(2);
            p.assign(x, 2, false);
            p.assign(x, 3, true);
            p.assign(x, 4, false);
            p.assign(x, 5, true);
            p.assign(x, 6, false);
            p.assign(x, 7, false);
            due(p + " in the group", p.read(x), 7);
            x.close();
            due(p + ", the last one with GLOBAL", p.read(x), 5);
            p.assign(x, 8, false);
            x.close();
            due(p + ", GLOBAL in an inner group", p.read(x), 5);
        }
    }

    /** A GLOBAL of before the group was opened is no more than what it was when that was opened. */
    private static void globalBeforeTheGroup() {
        for (Place p : Place.values()) {
            Desk x = new Desk().opened(1);
            p.assign(x, 1, true);
            p.assign(x, 2, false);
            x.open();
            p.assign(x, 3, false);
            x.close();
            due(p + ", when the inner group was opened", p.read(x), 2);
            x.close();
            due(p + ", GLOBAL in the outer group", p.read(x), 1);
        }
    }

    private static void withNoGroupOpenNothingIsUndone() {
        for (Place p : Place.values()) {
            Desk x = new Desk();
            p.assign(x, 1, false);
            x.close();
            due(p + ", no group", p.read(x), 1);
            p.assign(x, 2, true);
            x.close();
            due(p + ", no group, GLOBAL", p.read(x), 2);
            p.assign(x, 3, false);
            x.opened(1).closed(2);
            due(p + ", a group opened later", p.read(x), 3);
        }
    }

    private static void globalIsSoInAllGroups() {
        for (Place p : Place.values()) {
            for (int closed = 0; closed <= 200; closed++) {
                Desk x = new Desk();
                for (int group = 1; group <= 200; group++) {
                    x.open();
                    if (group % 40 == 1) {
                        p.assign(x, 1 + group / 40, false);
                    }
                }
                p.assign(x, 7, true);
                x.closed(closed);
                due(p + ", " + closed + " of 200 groups closed", p.read(x), 7);
            }
        }
    }

    private static void toldNow() {
        Desk x = new Desk().defined(0, 1, 3, false);
        due("kept", x.count(2), 3);
        x.mean(0, 0, 0, false);
        due("another meaning", x.count(2), 0);
        x.defined(0, 1, 3, false).defined(0, 1, 1, false);
        due("another row", x.count(2), 1);
        x.define(0, false);
        due("an empty row", x.count(2), 0);
        x.defined(999, 1, 200, true);
        due("the longest row", x.count(2), 200);
        x.let(999, 1, true);
        due("the meaning of a name without a row", x.count(2), 0);
        x.defined(0, 1, 3, true).mean(0, 0, 0, false);
        due("no group will close that brings it again", x.count(2), 0);
    }

    /** Only what the name meant when the group was opened comes again. */
    private static void notToldAgainWithinOneGroup() {
        Desk x = new Desk().defined(0, 1, 3, false).opened(1).defined(0, 1, 5, false);
        due("when the group was opened, and now", x.count(2), 8);
        x.defined(0, 1, 7, false);
        due("the one between is gone", x.count(2), 10);
        x.mean(0, 1, 1, false);
        due("when the group was opened", x.count(2), 3);
        x.close();
        due("told now", x.count(2), 3);
    }

    private static void toldAgainWhenGroupsClose() {
        Desk x = new Desk().defined(0, 1, 3, false).opened(1);
        x.mean(0, 1, 1, false);
        due("told again by the outer group", x.count(2), 3);
        x.opened(1).defined(0, 1, 5, false);
        due("one row more", x.count(2), 8);
        x.close();
        due("the inner group's row is gone", x.count(2), 3);
        x.close();
        due("told now", x.count(2), 3);
        dueRow("the row", x, 0, 1, 3);
        x.opened(200).mean(0, 1, 1, false);
        due("told again by 200 groups", x.count(2), 3);
        x.closed(199);
        due("told again by one group", x.count(2), 3);
    }

    /** A meaning that no closing group brings again does not tell its row. */
    private static void notToldAgainBehindGlobal() {
        Desk x = new Desk().defined(0, 1, 3, false).opened(1).defined(0, 1, 5, false).opened(1);
        x.mean(0, 2, 2, false);
        due("told again by two groups", x.count(2), 8);
        x.mean(0, 4, 4, true);
        due("never again", x.count(2), 0);
        x.closed(2);
        due("all closed", x.count(2), 0);
        dueMeaning("the name", x, 0, 4, 4);
    }

    private static void toldByAnotherName() {
        Desk x = new Desk().defined(0, 1, 3, false);
        x.let(1, 0, false);
        x.let(2, 1, true);
        due("each row once", x.count(2), 3);
        x.mean(0, 0, 0, true);
        due("told by two names", x.count(2), 3);
        x.mean(1, 0, 0, true);
        due("told by the last name", x.count(2), 3);
        dueRow("its row", x, 2, 1, 3);
        x.open();
        x.mean(2, 0, 0, false);
        x.let(3, 2, false);
        due("told again by the last name", x.count(2), 3);
        x.mean(2, 0, 0, true);
        due("told by none", x.count(2), 0);

        Desk y = new Desk().opened(1).defined(0, 1, 4, false);
        y.let(1, 0, true);
        y.close();
        due("told by the name that got it with GLOBAL", y.count(2), 4);
        dueMeaning("the name that had it", y, 0, 0, 0);
        dueRow("its row", y, 1, 1, 4);
        y.let(1, 1, false);
        due("its own meaning", y.count(2), 4);
        y.opened(1).let(1, 1, true);
        y.close();
        due("its own meaning with GLOBAL", y.count(2), 4);
    }

    private static void theShapeDoesNotCount() {
        Desk x = new Desk().shaped(1, 7, true);
        due("the shape's row", x.count(2), 0);
        x.opened(1).shaped(1, 6, false);
        due("the shape's rows", x.count(2), 0);
        x.defined(0, 1, 1, false);
        due("a name's row beside them", x.count(2), 1);
        x.close();
        due("the shape's row again", x.count(2), 0);
        dueRow("the shape", x, -1, 1, 7);
    }

    private static void none() {
        due("NONE", GroupDesk.NONE, -1);
    }

    // ---- Promises

    private static void newObject() {
        due("no group is open: count(0)", new Desk().count(0), 0);
        due("no group is open: close()", new Desk().close(), 0);
        due("nothing is drafted: count(1)", new Desk().count(1), 0);
        due("nothing is drafted: define", new Desk().define(0, false), 0);
        due("nothing is drafted: shape", new Desk().shape(false), 0);
        due("nothing is kept", new Desk().count(2), 0);
        Desk used = new Desk().defined(0, 1, 2, true).shaped(1, 2, true).drafted(1, 2).opened(2);
        used.set(0, 5, true);
        Desk x = new Desk();
        due("beside a used one: count(0)", x.count(0), 0);
        due("beside a used one: count(1)", x.count(1), 0);
        due("beside a used one: count(2)", x.count(2), 0);
        due("beside a used one: get(0)", x.get(0), 0);
        dueMeaning("beside a used one", x, 0, 0, 0);
        dueRow("beside a used one: the shape", x, -1, 0, 0);
    }

    private static void openUpTo200() {
        Desk x = new Desk();
        for (int group = 1; group <= 200; group++) {
            due("open " + group, x.open(), 1);
            due("count(0)", x.count(0), group);
        }
        due("open 201", x.open(), 0);
        due("open 202", x.open(), 0);
        due("count(0)", x.count(0), 200);
        due("close()", x.close(), 1);
        due("count(0)", x.count(0), 199);
        due("open 200 again", x.open(), 1);
        due("open 201 again", x.open(), 0);
    }

    private static void closeDownToNone() {
        Desk x = new Desk();
        due("none open yet", x.close(), 0);
        due("none open yet, again", x.close(), 0);
        x.opened(200);
        for (int left = 199; left >= 0; left--) {
            due("close", x.close(), 1);
            if (left < 100) {
                due("count(0)", x.count(0), left);
            }
        }
        due("none open any more", x.close(), 0);
        due("count(0)", x.count(0), 0);
        due("open", x.open(), 1);
        due("count(0)", x.count(0), 1);
    }

    private static void theInnermostGroupCloses() {
        Desk x = new Desk().opened(1);
        x.set(0, 1, false);
        x.opened(1).set(1, 1, false);
        x.close();
        due("the outer group's cell", x.get(0), 1);
        due("the innermost group's cell", x.get(1), 0);
    }

    private static void setOfNoCell() {
        for (int cell : NO_CELLS) {
            due("set(" + cell + ", 1, false)", new Desk().set(cell, 1, false), 0);
            due("set(" + cell + ", 1, true)", new Desk().set(cell, 1, true), 0);
        }
        for (int cell : new int[] {0, 2365}) {
            due("set(" + cell + ", 1, false)", new Desk().set(cell, 1, false), 1);
            due("set(" + cell + ", 1, true)", new Desk().set(cell, 1, true), 1);
        }
    }

    private static void meanOfNoName() {
        due("mean(-1, 1, 1, true)", new Desk().mean(-1, 1, 1, true), 0);
        due("mean(-1, 1, 1, false)", new Desk().mean(-1, 1, 1, false), 0);
        for (int name : NO_NAMES) {
            due("mean(" + name + ", 0, 1, true)", new Desk().mean(name, 0, 1, true), 0);
            due("mean(" + name + ", 8, 1, false)", new Desk().mean(name, 8, 1, false), 0);
            due("mean(" + name + ", 3, 1, false)", new Desk().mean(name, 3, 1, false), 0);
        }
        for (int name : new int[] {0, 999}) {
            due("mean(" + name + ", 1, 1, false)", new Desk().mean(name, 1, 1, false), 1);
            due("mean(" + name + ", 1, 1, true)", new Desk().mean(name, 1, 1, true), 1);
        }
    }

    private static void meanOfNoKind() {
        for (int kind : NO_KINDS) {
            due("mean(0, " + kind + ", 1, true)", new Desk().mean(0, kind, 1, true), 0);
            due("mean(999, " + kind + ", 1, false)", new Desk().mean(999, kind, 1, false), 0);
        }
        for (int kind : new int[] {0, 1, 2, 4, 5, 6, 7, 8}) {
            Desk x = new Desk();
            due("mean(0, " + kind + ", 1, true)", x.mean(0, kind, 1, true), 1);
            due("mean(999, " + kind + ", 0, false)", x.mean(999, kind, 0, false), 1);
            dueMeaning("name 0", x, 0, kind, 1);
            dueMeaning("name 999", x, 999, kind, 0);
        }
        due("kind 3 of a name of kind 3", new Desk().defined(0, 1, 1, false).mean(0, 3, 1, false), 0);
    }

    private static void draftUntilFull() {
        Desk x = new Desk();
        for (int i = 1; i <= 200; i++) {
            due("draft " + i, x.draft(i), 1);
            due("count(1)", x.count(1), i);
        }
        due("draft of a full draft", x.draft(201), 0);
        due("draft of a full draft, once more", x.draft(MIN), 0);
        due("count(1)", x.count(1), 200);
        x.shape(false);
        due("draft of an empty one", x.draft(5), 1);
        due("count(1)", x.count(1), 1);
    }

    /** No group undoes what was drafted: it is not assigned to anything. */
    private static void groupsLeaveTheDraftAlone() {
        Desk x = new Desk().drafted(1, 1).opened(1).drafted(2, 1);
        x.close();
        due("count(1)", x.count(1), 2);
        x.opened(1).define(0, false);
        x.close();
        due("count(1) of a draft that was taken in a group", x.count(1), 0);
    }

    private static void defineTakesTheDraft() {
        for (int howMany : new int[] {0, 1, 200}) {
            Desk x = new Desk().drafted(1, howMany);
            due("how many it has", x.define(0, false), howMany);
            due("the draft is empty then", x.count(1), 0);
            due("define of the empty draft", x.define(1, false), 0);
            dueMeaning("an empty row", x, 1, 3, 0);
            x.drafted(-9, 2);
            dueRow("the row stays as it is", x, 0, 1, howMany);
        }
    }

    private static void defineOfNoName() {
        for (int name : NO_NAMES) {
            Desk x = new Desk().drafted(1, 2);
            due("define(" + name + ", false)", x.define(name, false), THROWS);
            due("define(" + name + ", true)", x.define(name, true), THROWS);
            due("define(-1, true)", x.define(-1, true), THROWS);
            due("the draft stays", x.count(1), 2);
            due("it joins the draft that stayed", x.draft(3), 1);
            due("define(0, false)", x.define(0, false), 3);
            dueRow("the draft that stayed", x, 0, 1, 3);
        }
        due("define of an empty draft", new Desk().define(1000, false), THROWS);
        Desk x = new Desk().drafted(1, 200);
        due("define of a full draft", x.define(1000, false), THROWS);
        due("the full draft stays", x.draft(1), 0);
        due("define(999, false)", x.define(999, false), 200);
    }

    private static void letOfNoName() {
        due("let(-1, 0, false)", new Desk().let(-1, 0, false), 0);
        due("let(0, -1, false)", new Desk().let(0, -1, false), 0);
        for (int name : NO_NAMES) {
            due("let(" + name + ", 0, false)", new Desk().let(name, 0, false), 0);
            due("let(0, " + name + ", false)", new Desk().let(0, name, false), 0);
            due("let(" + name + ", 999, true)", new Desk().let(name, 999, true), 0);
            due("let(999, " + name + ", true)", new Desk().let(999, name, true), 0);
            due("let of twice " + name, new Desk().let(name, name, true), 0);
        }
        due("let(0, 999, false)", new Desk().let(0, 999, false), 1);
        due("let(999, 0, true)", new Desk().let(999, 0, true), 1);
        due("let(0, 0, false)", new Desk().let(0, 0, false), 1);
        due("let(999, 999, true)", new Desk().let(999, 999, true), 1);
    }

    private static void letGivesTheMeaning() {
        Desk x = new Desk().defined(0, 1, 2, false);
        x.mean(999, 8, MIN, false);
        x.let(1, 999, false);
        dueMeaning("an int", x, 1, 8, MIN);
        x.let(1, 0, false);
        dueMeaning("a row", x, 1, 3, 2);
        x.defined(0, 5, 3, false);
        dueRow("the row it was given", x, 1, 1, 2);
        x.define(2, false);
        x.let(1, 2, false);
        dueMeaning("an empty row", x, 1, 3, 0);
        x.let(0, 500, false);
        dueMeaning("a name that was never assigned", x, 0, 0, 0);
        x.let(999, 999, false);
        dueMeaning("its own", x, 999, 8, MIN);
    }

    private static void shapeTakesTheDraft() {
        for (int howMany : new int[] {0, 1, 200}) {
            Desk x = new Desk().drafted(1, howMany);
            due("how many it has", x.shape(false), howMany);
            due("the draft is empty then", x.count(1), 0);
            x.drafted(-9, 2);
            dueRow("the row stays as it is", x, -1, 1, howMany);
        }
        Desk x = new Desk().shaped(1, 2, false);
        due("shape of the empty draft", x.shape(false), 0);
        dueRow("an empty shape", x, -1, 0, 0);
    }

    private static void getOfNoCell() {
        for (int cell : NO_CELLS) {
            due("get(" + cell + ")", new Desk().get(cell), THROWS);
            Desk x = new Desk().defined(0, 1, 1, true).shaped(1, 1, true);
            x.mean(999, 8, 8, true);
            due("get(" + cell + ") of a used one", x.get(cell), THROWS);
        }
        due("get(0)", new Desk().get(0), 0);
        due("get(2365)", new Desk().get(2365), 0);
    }

    private static void aboutKindAndValue() {
        Desk x = new Desk();
        x.mean(0, 8, MIN, false);
        dueMeaning("an int", x, 0, 8, MIN);
        x.define(0, false);
        dueMeaning("an empty row", x, 0, 3, 0);
        x.defined(999, 77, 1, false);
        dueMeaning("a row of one", x, 999, 3, 1);
        x.defined(999, 77, 200, false);
        dueMeaning("a row of 200", x, 999, 3, 200);
    }

    private static void aboutOfNoName() {
        for (int name : NO_NAMES) {
            for (int what = -1; what <= 2; what++) {
                due("about(" + name + ", " + what + ")", new Desk().about(name, what), THROWS);
            }
        }
        Desk x = new Desk().shaped(1, 1, true);
        due("about(-1, 0)", x.about(-1, 0), THROWS);
        due("about(-1, 1)", x.about(-1, 1), THROWS);
    }

    private static void aboutOfNoWhat() {
        for (int what : NO_WHATS_OF_NAMES) {
            Desk x = new Desk().defined(0, 1, 4, false);
            due("about(0, " + what + ") of a row", x.about(0, what), THROWS);
            due("about(999, " + what + ")", x.about(999, what), THROWS);
        }
    }

    private static void numberOfAName() {
        Desk x = new Desk().defined(0, 10, 3, false).defined(1, 20, 2, false).shaped(30, 4, false);
        due("the first", x.number(0, 0), 10);
        due("the last", x.number(0, 2), 12);
        for (int k : new int[] {-2, 3, 4, 200, 256, 65536, MIN, MIN + 1, MAX}) {
            due("number(0, " + k + ")", x.number(0, k), THROWS);
        }
        due("behind the next row's last", x.number(1, 2), THROWS);
        due("k = -1 belongs to the shape alone", x.number(0, -1), THROWS);
        x.define(2, false);
        due("an empty row's first", x.number(2, 0), THROWS);
        x.drafted(40, 1);
        due("an empty row's first behind a draft", x.number(2, 0), THROWS);
    }

    private static void numberOfNoName() {
        for (int name : NO_NAMES) {
            for (int k = -1; k <= 1; k++) {
                Desk x = new Desk().defined(0, 10, 3, true).shaped(30, 3, true);
                due("number(" + name + ", " + k + ")", x.number(name, k), THROWS);
            }
        }
    }

    private static void numberOfAnotherKind() {
        for (int kind = 0; kind <= 8; kind++) {
            if (kind != 3) {
                Desk x = new Desk().defined(0, 10, 3, false).defined(1, 20, 3, false);
                x.mean(0, kind, 1, false);
                for (int k = -1; k <= 1; k++) {
                    due("number(0, " + k + ") of kind " + kind, x.number(0, k), THROWS);
                }
            }
        }
        Desk x = new Desk().opened(1).defined(0, 10, 1, false);
        due("in the group", x.number(0, 0), 10);
        x.close();
        due("behind the group", x.number(0, 0), THROWS);
        due("a name that was never assigned", x.number(999, 0), THROWS);
    }

    private static void numberOfTheShape() {
        Desk x = new Desk();
        due("k = -1 of an empty shape", x.number(-1, -1), 0);
        due("an empty shape's first", x.number(-1, 0), THROWS);
        x.shaped(30, 2, false).defined(0, 10, 3, false);
        due("the first", x.number(-1, 0), 30);
        due("the last", x.number(-1, 1), 31);
        due("k = -1", x.number(-1, -1), 2);
        for (int k : new int[] {-2, -3, 2, 3, 200, 256, 65536, MIN, MIN + 1, MAX}) {
            due("number(-1, " + k + ")", x.number(-1, k), THROWS);
        }
        x.shaped(50, 200, false);
        due("k = -1 of a full one", x.number(-1, -1), 200);
        due("the last of a full one", x.number(-1, 199), 249);
        due("none behind it", x.number(-1, 200), THROWS);
    }

    private static void countOfNoWhat() {
        for (int what : NO_COUNTS) {
            due("count(" + what + ")", new Desk().count(what), -1);
            Desk x = new Desk().defined(0, 1, 3, false).drafted(1, 2).opened(4);
            due("count(" + what + ") of a used one", x.count(what), -1);
        }
    }

    private static void countsOfEmptyAndFull() {
        Desk x = new Desk();
        for (int what = 0; what <= 2; what++) {
            due("count(" + what + ") at first", x.count(what), 0);
        }
        x.opened(200).drafted(1, 200);
        due("groups, all open", x.count(0), 200);
        due("numbers, a full draft", x.count(1), 200);
        due("a draft is no row", x.count(2), 0);
        x.define(0, false);
        due("groups, still", x.count(0), 200);
        due("numbers, an empty draft", x.count(1), 0);
        due("a full row", x.count(2), 200);
    }

    private static void eachRowOnce() {
        Desk x = new Desk().defined(0, 1, 3, false).defined(1, 1, 3, false);
        due("two rows of the same numbers", x.count(2), 6);
        for (int name = 2; name < 400; name++) {
            x.let(name, name % 2, name % 3 == 0);
        }
        due("two rows of 400 names", x.count(2), 6);
        x.open();
        x.let(0, 1, false);
        due("now and again", x.count(2), 6);
        x.define(5, true);
        due("an empty row", x.count(2), 6);
    }

    private static void test(String text, Runnable... cases) {
        sentence = text;
        for (Runnable one : cases) {
            try {
                one.run();
            } catch (RuntimeException e) {
                wrong++;
                System.out.println(sentence);
                System.out.println("    threw " + e);
            }
        }
    }

    private static void terms() {
        test("An object is used for at most 512 calls after it has been made",
                BoundaryTest::lastCall);
        test("CELLS 0 .. 2365 have ints, 0 at first.",
                BoundaryTest::cellsAtFirst, BoundaryTest::everyCellHasItsOwnInt,
                BoundaryTest::cellsHaveInts);
        test("NAMES 0 .. 999 have a MEANING, a KIND 0 .. 8 (0 at first) and a value: an int (0 at first)",
                BoundaryTest::namesAtFirst, BoundaryTest::everyNameHasItsOwnMeaning,
                BoundaryTest::valuesAreInts);
        test("or, for kind 3, a ROW of 0 to 200 numbers",
                BoundaryTest::rowsOfNames, BoundaryTest::everyNameHasItsOwnRow);
        test("as the SHAPE has (an empty one at first).",
                BoundaryTest::rowsOfTheShape);
        test("The DRAFT has at most 200 numbers.",
                BoundaryTest::draftHasAtMost200);
        test("Up to 200 GROUPS are open, one in another.",
                BoundaryTest::groupsStandOneInAnother);
        test("What is assigned without GLOBAL is, when the innermost group closes, what it was when that was opened",
                BoundaryTest::undoneToWhatItWasWhenOpened, BoundaryTest::withNoGroupOpenNothingIsUndone);
        test("or what was last assigned with GLOBAL since.",
                BoundaryTest::undoneToTheLastGlobalSince, BoundaryTest::globalBeforeTheGroup);
        test("What is assigned with GLOBAL is so in all groups.",
                BoundaryTest::globalIsSoInAllGroups);
        test("A row that was drafted is told by the names that mean it, now or again when groups close",
                BoundaryTest::toldNow, BoundaryTest::toldAgainWhenGroupsClose,
                BoundaryTest::notToldAgainWithinOneGroup, BoundaryTest::notToldAgainBehindGlobal);
        test("by a name that was given the meaning of another one, too.",
                BoundaryTest::toldByAnotherName);
        test("It is KEPT as long as any name does (the shape does not count).",
                BoundaryTest::theShapeDoesNotCount);
        test("The constants: `NONE = -1`: None.",
                BoundaryTest::none);
    }

    private static void promises() {
        test("No group is open, nothing is drafted.",
                BoundaryTest::newObject);
        test("A group is opened: true; false if 200 are open.",
                BoundaryTest::openUpTo200);
        test("The innermost group closes: true; false if none is open.",
                BoundaryTest::closeDownToNone, BoundaryTest::theInnermostGroupCloses);
        test("A cell gets a value: true; false if there is no such cell.",
                BoundaryTest::setOfNoCell);
        test("A name gets a kind other than 3 and a value: true; false if there is no such name or the kind is not so.",
                BoundaryTest::meanOfNoName, BoundaryTest::meanOfNoKind);
        test("A number joins the draft: true; false if it is full.",
                BoundaryTest::draftUntilFull, BoundaryTest::groupsLeaveTheDraftAlone);
        test("A name gets kind 3 and the draft as its row, which is empty then: how many numbers it has.",
                BoundaryTest::defineTakesTheDraft);
        test("IndexOutOfBoundsException if there is no such name (the draft stays).",
                BoundaryTest::defineOfNoName);
        test("A name gets the meaning of another one: true; false if there is no such name.",
                BoundaryTest::letOfNoName, BoundaryTest::letGivesTheMeaning);
        test("The shape gets the draft as its row, which is empty then: how many numbers it has.",
                BoundaryTest::shapeTakesTheDraft);
        test("A cell's value. IndexOutOfBoundsException if there is no such cell.",
                BoundaryTest::getOfNoCell);
        test("Of a name: what 0 its kind, 1 its value (of kind 3 how many numbers its row has).",
                BoundaryTest::aboutKindAndValue);
        test("IndexOutOfBoundsException if there is no such name or what.",
                BoundaryTest::aboutOfNoName, BoundaryTest::aboutOfNoWhat);
        test("Number k of the row of a name of kind 3 or, with name -1, of the shape; for k = -1 how many the shape has.",
                BoundaryTest::numberOfAName, BoundaryTest::numberOfTheShape);
        test("IndexOutOfBoundsException if there is none such.",
                BoundaryTest::numberOfNoName, BoundaryTest::numberOfAnotherKind);
        test("what 0: groups open, 1: numbers drafted, 2: numbers of all rows that are KEPT, each row once",
                BoundaryTest::countsOfEmptyAndFull, BoundaryTest::eachRowOnce);
        test("NONE for another what.",
                BoundaryTest::countOfNoWhat);
    }

    public static void main(String[] args) {
        terms();
        promises();
        System.out.println(wrong == 0 ? "all boundary cases are as due" : wrong + " answers are not as due");
        if (wrong != 0) {
            System.exit(1);
        }
    }
}
