import java.util.ArrayList;
import java.util.HashSet;
import java.util.List;
import java.util.Set;

/** Every short run of opening, closing and assigning, with and without GLOBAL, and what is due in it. */
public final class SmallRunsTest {
    private static int wrong = 0;

    private static void due(String run, long got, long want) {
        if (got != want && wrong++ < 50) {
            System.out.println(run + " answered " + got + ", due is " + want);
        }
    }

    // ---- One place that is assigned, read again after every call

    private static final int PLACE_CALLS = 7;
    private static final String[] PLACES = {"cell", "int", "row", "let", "shape"};

    private static void assign(GroupDesk x, int place, int v, boolean global) {
        switch (place) {
            case 0: x.set(2365, v, global); break;
            case 1: x.mean(999, 8, v, global); break;
            case 2: draft(x, v); x.define(0, global); break;
            case 3: x.mean(5, 1, v, true); x.let(999, 5, global); break;
            default: draft(x, v); x.shape(global); break;
        }
    }

    private static void draft(GroupDesk x, int howMany) {
        for (int i = 0; i < howMany; i++) {
            x.draft(i);
        }
    }

    private static int read(GroupDesk x, int place) {
        switch (place) {
            case 0: return x.get(2365);
            case 1: return x.about(999, 1);
            case 2: return x.about(0, 1);
            case 3: return x.about(999, 1);
            default: return x.number(-1, -1);
        }
    }

    /** The values of a place by the document's words: one for no group, and one for each open group. */
    private static void assignDue(List<Integer> levels, int v, boolean global) {
        for (int i = global ? 0 : levels.size() - 1; i < levels.size(); i++) {
            levels.set(i, v);
        }
    }

    private static void placeRun(int place, int number) {
        GroupDesk x = new GroupDesk();
        List<Integer> levels = new ArrayList<>(List.of(0));
        StringBuilder run = new StringBuilder(PLACES[place]).append(':');
        int rest = number;
        for (int v = 1; v <= PLACE_CALLS; v++) {
            int call = rest % 4;
            rest /= 4;
            run.append(new String[] {" open", " close", " local ", " global "}[call]);
            if (call == 0) {
                due(run.toString(), x.open() ? 1 : 0, 1);
                levels.add(levels.get(levels.size() - 1));
            } else if (call == 1) {
                due(run.toString(), x.close() ? 1 : 0, levels.size() > 1 ? 1 : 0);
                if (levels.size() > 1) {
                    levels.remove(levels.size() - 1);
                }
            } else {
                run.append(v);
                assign(x, place, v, call == 3);
                assignDue(levels, v, call == 3);
            }
            due(run.toString(), read(x, place), levels.get(levels.size() - 1));
        }
        while (levels.size() > 1) {
            run.append(" close");
            due(run.toString(), x.close() ? 1 : 0, 1);
            levels.remove(levels.size() - 1);
            due(run.toString(), read(x, place), levels.get(levels.size() - 1));
        }
        due(run.append(" close").toString(), x.close() ? 1 : 0, 0);
    }

    // ---- Two names that tell rows, with the numbers that are kept counted after every call

    private static final int ROW_CALLS = 5;
    private static final String[] ROW_NAMES = {" open", " close", " define 0", " define 0 global", " let 1 0",
        " let 1 0 global", " let 0 1", " let 0 1 global", " mean 0", " mean 0 global", " shape"};

    /** The rows of names 0 and 1, told by their lengths: every row has another power of two; 0 is none. */
    private static void tellDue(List<int[]> levels, int name, int row, boolean global) {
        for (int i = global ? 0 : levels.size() - 1; i < levels.size(); i++) {
            levels.get(i)[name] = row;
        }
    }

    private static int keptDue(List<int[]> levels) {
        Set<Integer> rows = new HashSet<>();
        for (int[] level : levels) {
            rows.add(level[0]);
            rows.add(level[1]);
        }
        int sum = 0;
        for (int row : rows) {
            sum += row;
        }
        return sum;
    }

    private static void rowCall(GroupDesk x, List<int[]> levels, int call, int row) {
        int[] now = levels.get(levels.size() - 1);
        boolean global = call % 2 == 1;
        switch (call) {
            case 0:
                x.open();
                levels.add(now.clone());
                break;
            case 1:
                x.close();
                if (levels.size() > 1) {
                    levels.remove(levels.size() - 1);
                }
                break;
            case 2: case 3:
                draft(x, row);
                x.define(0, global);
                tellDue(levels, 0, row, global);
                break;
            case 4: case 5:
                x.let(1, 0, global);
                tellDue(levels, 1, now[0], global);
                break;
            case 6: case 7:
                x.let(0, 1, global);
                tellDue(levels, 0, now[1], global);
                break;
            case 8: case 9:
                // The value looks like a row's length, or its place, but it is an int.
                x.mean(0, 4, 1, global);
                tellDue(levels, 0, 0, global);
                break;
            default:
                draft(x, row);
                x.shape(false);
                break;
        }
    }

    private static void dueRows(String run, GroupDesk x, List<int[]> levels) {
        int[] now = levels.get(levels.size() - 1);
        due(run + " count(2)", x.count(2), keptDue(levels));
        for (int name = 0; name <= 1; name++) {
            if (now[name] != 0) {
                due(run + " about(" + name + ", 1)", x.about(name, 1), now[name]);
            }
        }
    }

    private static void rowRun(int number) {
        GroupDesk x = new GroupDesk();
        List<int[]> levels = new ArrayList<>();
        levels.add(new int[2]);
        StringBuilder run = new StringBuilder("rows:");
        int rest = number;
        // The first row is there before the run, so that each call of the run has something to undo.
        rowCall(x, levels, 2, 1);
        for (int i = 1; i <= ROW_CALLS; i++) {
            int call = rest % ROW_NAMES.length;
            rest /= ROW_NAMES.length;
            run.append(ROW_NAMES[call]);
            rowCall(x, levels, call, 1 << i);
            dueRows(run.toString(), x, levels);
        }
        while (levels.size() > 1) {
            run.append(" close");
            rowCall(x, levels, 1, 0);
            dueRows(run.toString(), x, levels);
        }
    }

    private static int power(int base, int exponent) {
        int p = 1;
        for (int i = 0; i < exponent; i++) {
            p *= base;
        }
        return p;
    }

    public static void main(String[] args) {
        for (int place = 0; place < PLACES.length; place++) {
            for (int number = 0; number < power(4, PLACE_CALLS); number++) {
                placeRun(place, number);
            }
        }
        for (int number = 0; number < power(ROW_NAMES.length, ROW_CALLS); number++) {
            rowRun(number);
        }
        System.out.println(wrong == 0 ? "all short runs are as due" : wrong + " answers are not as due");
        if (wrong != 0) {
            System.exit(1);
        }
    }
}
