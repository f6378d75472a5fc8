import java.util.ArrayList;
import java.util.HashMap;
import java.util.List;
import java.util.Map;
import java.util.function.Function;

/**
 * Each call that is refused, with false or with an exception, or that only asks, changes nothing:
 * all that can be told of a desk is the same with the call and without it, now and when groups close.
 */
public final class RefusedTest {
    private static final int MIN = Integer.MIN_VALUE;
    private static final int MAX = Integer.MAX_VALUE;
    private static final int[] NO_CELLS = {-1, -2366, 2366, 3366, 65536, MIN, MAX};
    private static final int[] NO_NAMES = {-1, -2, -2366, 1000, 1001, 65536, MIN, MAX};
    private static final int[] NO_KINDS = {-1, 3, 9, 256, 65537, MIN, MAX};
    private static final int[] NO_WHATS = {-1, 3, 256, 65536, MIN, MAX};
    /** Names that the runs below use, so that they may have rows. */
    private static final int[] USED_NAMES = {0, 1, 2, 3, 999};
    private static final String THROWS = "throws";

    private static int wrong = 0;

    /** Calls on a desk; the answer of the last of them. */
    private interface Calls extends Function<GroupDesk, Object> {
    }

    private static Object answerOf(Calls calls, GroupDesk x) {
        try {
            return calls.apply(x);
        } catch (RuntimeException e) {
            // The machine's own exceptions are classes below the document's one.
            return e.getClass() == IndexOutOfBoundsException.class ? THROWS : e.toString();
        }
    }

    /** Rows, meanings, cells and a shape in three groups, each with something to bring again. */
    private static Object used(GroupDesk x) {
        for (int level = 0; level <= 3; level++) {
            x.set(0, level + 10, false);
            x.set(2365, level + 20, level == 2);
            x.mean(0, level + 4, level + 30, false);
            x.mean(2, 8, level + 40, level == 1);
            draft(x, 100 * level, level + 1);
            x.define(1, false);
            x.let(3, 1, level == 2);
            draft(x, 1000 * level, level + 2);
            x.define(999, level == 1);
            draft(x, 10000 * level, level + 3);
            x.shape(false);
            if (level < 3) {
                x.open();
            }
        }
        draft(x, 7, 5);
        return true;
    }

    private static Object withEmptyDraft(GroupDesk x) {
        used(x);
        return x.shape(false);
    }

    private static Object withFullDraft(GroupDesk x) {
        used(x);
        draft(x, 50, 195);
        return true;
    }

    /** With few other calls, for opening and closing 200 groups takes most of the 512. */
    private static Object withAllGroupsOpen(GroupDesk x) {
        x.set(0, 10, false);
        draft(x, 5, 2);
        x.define(1, false);
        draft(x, 7, 1);
        for (int group = 1; group <= 200; group++) {
            x.open();
            if (group == 1 || group == 200) {
                x.set(0, group, false);
                x.mean(1, 7, group, false);
            }
        }
        return true;
    }

    private static Object withNoGroupOpen(GroupDesk x) {
        used(x);
        for (int i = 0; i < 3; i++) {
            x.close();
        }
        return true;
    }

    private static Object made(GroupDesk x) {
        return true;
    }

    private static void draft(GroupDesk x, int first, int howMany) {
        for (int i = 0; i < howMany; i++) {
            x.draft(first + i);
        }
    }

    /** A desk to begin with, and what is told of it without a refused call. */
    private static final class Start {
        final Calls calls;
        /** How many groups to close before all is told. */
        final int[] closings;
        private final Map<Integer, List<String>> known = new HashMap<>();

        Start(Calls calls, int... closings) {
            this.calls = calls;
            this.closings = closings;
        }

        List<String> toldWithout(int closes) {
            return known.computeIfAbsent(closes, c -> told(calls, x -> true, c));
        }
    }

    private static final Start MADE = new Start(RefusedTest::made, 0);
    private static final Start USED = new Start(RefusedTest::used, 0, 1, 2, 3);
    private static final Start EMPTY_DRAFT = new Start(RefusedTest::withEmptyDraft, 0, 1, 2, 3);
    private static final Start FULL_DRAFT = new Start(RefusedTest::withFullDraft, 0, 1, 2, 3);
    private static final Start ALL_OPEN = new Start(RefusedTest::withAllGroupsOpen, 0, 1, 2, 100, 199, 200);
    private static final Start NONE_OPEN = new Start(RefusedTest::withNoGroupOpen, 0);

    private static GroupDesk desk(Calls before, Calls refused, int closes) {
        GroupDesk x = new GroupDesk();
        before.apply(x);
        answerOf(refused, x);
        for (int i = 0; i < closes; i++) {
            x.close();
        }
        return x;
    }

    /** All that can be told, in parts from new desks, for one desk has not calls enough to tell it. */
    private static List<String> told(Calls before, Calls refused, int closes) {
        List<String> all = new ArrayList<>();
        for (int from = 0; from < 2366; from += 80) {
            GroupDesk x = desk(before, refused, closes);
            for (int cell = from; cell < Math.min(from + 80, 2366); cell++) {
                all.add("get(" + cell + ") " + x.get(cell));
            }
        }
        for (int from = 0; from < 1000; from += 40) {
            GroupDesk x = desk(before, refused, closes);
            for (int name = from; name < from + 40; name++) {
                all.add("about(" + name + ") " + x.about(name, 0) + " " + x.about(name, 1));
            }
        }
        for (int name : USED_NAMES) {
            GroupDesk x = desk(before, refused, closes);
            if (x.about(name, 0) == 3) {
                tellRow(all, x, name, x.about(name, 1));
            }
        }
        GroupDesk x = desk(before, refused, closes);
        tellRow(all, x, -1, x.number(-1, -1));
        GroupDesk y = desk(before, refused, closes);
        all.add("counts " + y.count(0) + " " + y.count(1) + " " + y.count(2));
        // The draft's own numbers are told by a row that is made of it.
        tellRow(all, y, -1, y.shape(true));
        return all;
    }

    private static void tellRow(List<String> all, GroupDesk x, int name, int howMany) {
        for (int k = 0; k < howMany; k++) {
            all.add("number(" + name + ", " + k + ") " + x.number(name, k));
        }
    }

    private static void changesNothing(String call, Start start, Object due, Calls refused) {
        GroupDesk x = new GroupDesk();
        start.calls.apply(x);
        Object got = answerOf(refused, x);
        if (!got.equals(due)) {
            wrong++;
            System.out.println(call + " answered " + got + ", due is " + due);
        }
        for (int closes : start.closings) {
            List<String> without = new ArrayList<>(start.toldWithout(closes));
            List<String> with = told(start.calls, refused, closes);
            if (!with.equals(without)) {
                wrong++;
                without.removeAll(with);
                System.out.println(call + ", and " + closes + " groups closed: it was " + without);
            }
        }
    }

    /** On a new desk, and on used ones with a draft that is empty, in between, and full. */
    private static void refused(String call, Object due, Calls refused) {
        changesNothing(call + " of a new desk", MADE, due, refused);
        changesNothing(call, USED, due, refused);
        changesNothing(call + " with an empty draft", EMPTY_DRAFT, due, refused);
        changesNothing(call + " with a full draft", FULL_DRAFT, due, refused);
    }

    private static void groups() {
        changesNothing("open() with 200 open", ALL_OPEN, false, x -> x.open());
        changesNothing("open() twice with 200 open", ALL_OPEN, false,
                x -> x.open() || x.open());
        changesNothing("close() with none open", NONE_OPEN, false, x -> x.close());
        changesNothing("close() twice with none open", NONE_OPEN, false,
                x -> x.close() || x.close());
        changesNothing("close() of a new desk", MADE, false, x -> x.close());
    }

    /** What was refused must not count as a group either: the next one that opens is the first. */
    private static void groupsOpenedLater() {
        Calls later = x -> x.open() && x.set(0, 99, false) && x.mean(1, 1, 1, false);
        Calls laterBehindClose = x -> !x.close() && x.open() && x.set(0, 99, false) && x.mean(1, 1, 1, false);
        for (int closes = 0; closes <= 1; closes++) {
            List<String> without = told(RefusedTest::withNoGroupOpen, later, closes);
            List<String> with = told(RefusedTest::withNoGroupOpen, laterBehindClose, closes);
            if (!with.equals(without)) {
                wrong++;
                System.out.println("close() with none open changed a group that was opened later");
            }
        }
    }

    private static void assignments() {
        for (boolean global : new boolean[] {false, true}) {
            for (int cell : NO_CELLS) {
                refused("set(" + cell + ", 5, " + global + ")", false, x -> x.set(cell, 5, global));
            }
            for (int name : NO_NAMES) {
                refused("mean(" + name + ", 1, 5, " + global + ")", false, x -> x.mean(name, 1, 5, global));
                refused("define(" + name + ", " + global + ")", THROWS, x -> x.define(name, global));
                refused("let(" + name + ", 1, " + global + ")", false, x -> x.let(name, 1, global));
                refused("let(1, " + name + ", " + global + ")", false, x -> x.let(1, name, global));
            }
            for (int kind : NO_KINDS) {
                refused("mean(0, " + kind + ", 5, " + global + ")", false, x -> x.mean(0, kind, 5, global));
                refused("mean(1, " + kind + ", 5, " + global + ")", false, x -> x.mean(1, kind, 5, global));
            }
        }
    }

    private static void drafts() {
        changesNothing("draft(5) of a full draft", FULL_DRAFT, false, x -> x.draft(5));
        changesNothing("draft(5) of a full draft, twice", FULL_DRAFT, false,
                x -> x.draft(5) || x.draft(6));
    }

    private static void wrongQuestions() {
        for (int cell : NO_CELLS) {
            refused("get(" + cell + ")", THROWS, x -> x.get(cell));
        }
        for (int name : NO_NAMES) {
            refused("about(" + name + ", 0)", THROWS, x -> x.about(name, 0));
            refused("about(" + name + ", 1)", THROWS, x -> x.about(name, 1));
            if (name != -1) {
                refused("number(" + name + ", 0)", THROWS, x -> x.number(name, 0));
            }
        }
        for (int what : NO_WHATS) {
            refused("about(1, " + what + ")", THROWS, x -> x.about(1, what));
            refused("count(" + what + ")", -1, x -> x.count(what));
        }
        for (int k : new int[] {-2, 200, MIN, MAX}) {
            refused("number(1, " + k + ")", THROWS, x -> x.number(1, k));
            refused("number(-1, " + k + ")", THROWS, x -> x.number(-1, k));
        }
        refused("number(0, 0), of no kind 3", THROWS, x -> x.number(0, 0));
    }

    /** Questions that have an answer change nothing either. */
    private static void questions() {
        changesNothing("get(0)", USED, 13, x -> x.get(0));
        changesNothing("about(0, 0)", USED, 7, x -> x.about(0, 0));
        changesNothing("about(1, 1)", USED, 4, x -> x.about(1, 1));
        changesNothing("number(1, 3)", USED, 303, x -> x.number(1, 3));
        changesNothing("number(-1, -1)", USED, 6, x -> x.number(-1, -1));
        changesNothing("count(0)", USED, 3, x -> x.count(0));
        changesNothing("count(1)", USED, 5, x -> x.count(1));
        changesNothing("count(2)", USED, 1 + 2 + 3 + 4 + 3 + 4 + 5, x -> x.count(2));
    }

    public static void main(String[] args) {
        groups();
        groupsOpenedLater();
        assignments();
        drafts();
        wrongQuestions();
        questions();
        System.out.println(wrong == 0 ? "all refused calls changed nothing" : wrong + " answers are not as due");
        if (wrong != 0) {
            System.exit(1);
        }
    }
}
