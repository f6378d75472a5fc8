import java.lang.reflect.Constructor;
import java.lang.reflect.Field;
import java.lang.reflect.Member;
import java.lang.reflect.Method;
import java.lang.reflect.Modifier;
import java.util.Arrays;
import java.util.Set;
import java.util.TreeSet;

/** The face is the document's alone, 512 calls of any sort fit, and no call ever fails by itself. */
public final class LimitsTest {
    private static int wrong = 0;

    private static void due(String what, Object got, Object want) {
        if (!got.equals(want)) {
            wrong++;
            System.out.println(what + " is " + got + ", due is " + want);
        }
    }

    private static void face() {
        Set<String> want = new TreeSet<>(Arrays.asList(
                "public GroupDesk()",
                "public static final int GroupDesk.NONE",
                "public boolean GroupDesk.open()",
                "public boolean GroupDesk.close()",
                "public boolean GroupDesk.set(int,int,boolean)",
                "public boolean GroupDesk.mean(int,int,int,boolean)",
                "public boolean GroupDesk.draft(int)",
                "public int GroupDesk.define(int,boolean) throws java.lang.IndexOutOfBoundsException",
                "public boolean GroupDesk.let(int,int,boolean)",
                "public int GroupDesk.shape(boolean)",
                "public int GroupDesk.get(int) throws java.lang.IndexOutOfBoundsException",
                "public int GroupDesk.about(int,int) throws java.lang.IndexOutOfBoundsException",
                "public int GroupDesk.number(int,int) throws java.lang.IndexOutOfBoundsException",
                "public int GroupDesk.count(int)"));
        Set<String> got = new TreeSet<>();
        for (Constructor<?> c : GroupDesk.class.getDeclaredConstructors()) {
            addIfSeen(got, c, c.toString());
        }
        for (Field f : GroupDesk.class.getDeclaredFields()) {
            addIfSeen(got, f, f.toString());
        }
        for (Method m : GroupDesk.class.getDeclaredMethods()) {
            addIfSeen(got, m, m.toString());
        }
        due("the face", got, want);
        due("the class's modifiers", Modifier.toString(GroupDesk.class.getModifiers()), "public final");
    }

    private static void addIfSeen(Set<String> seen, Member m, String text) {
        if (!m.isSynthetic() && !Modifier.isPrivate(m.getModifiers())) {
            seen.add(text);
        }
    }

    /** One group, and every other call saves one place more. */
    private static void savedByEveryCall() {
        GroupDesk x = new GroupDesk();
        x.open();
        for (int i = 0; i < 507; i++) {
            x.set(i, i + 1, false);
        }
        due("the last cell", x.get(506), 507);
        x.close();
        due("the last cell, undone", x.get(506), 0);
        due("the first cell, undone", x.get(0), 0);
    }

    /** As many rows as 512 calls can make, and all of them told. */
    private static void rowsByEveryCall() {
        GroupDesk x = new GroupDesk();
        for (int i = 0; i < 255; i++) {
            x.draft(i);
            due("row " + i, x.define(i, false), 1);
        }
        due("kept", x.count(2), 255);
        due("the last row's number", x.number(254, 0), 254);
    }

    /** Empty rows cost no draft, so every call may make one. */
    private static void emptyRowsByEveryCall() {
        GroupDesk x = new GroupDesk();
        x.open();
        for (int i = 0; i < 506; i++) {
            due("empty row", x.define(i, false), 0);
        }
        x.draft(77);
        due("a row behind them", x.define(507, true), 1);
        due("kept", x.count(2), 1);
        x.close();
        due("its number", x.number(507, 0), 77);
    }

    /** As many numbers as 512 calls can draft, in the longest rows. */
    private static void numbersByEveryCall() {
        GroupDesk x = new GroupDesk();
        for (int i = 0; i < 507; i++) {
            due("draft " + i, x.draft(i), true);
            if (i % 200 == 199) {
                due("a full row", x.define(i / 200, false), 200);
            }
        }
        due("the rest", x.define(2, false), 107);
        due("kept", x.count(2), 507);
        due("the last number", x.number(2, 106), 506);
    }

    private static long seed = 1;

    private static int any() {
        seed = seed * 6364136223846793005L + 1442695040888963407L;
        int n = (int) (seed >>> 33);
        switch (n % 11) {
            case 0:
                return Integer.MIN_VALUE + (n / 11) % 3;
            case 1:
                return Integer.MAX_VALUE - (n / 11) % 3;
            case 2:
                return (n / 11) % 3000 - 100;
            default:
                return (n / 11) % 14 - 2;
        }
    }

    private static void call(GroupDesk x, int which) {
        boolean global = any() % 3 == 0;
        switch (which) {
            case 0: x.open(); break;
            case 1: x.close(); break;
            case 2: x.set(any(), any(), global); break;
            case 3: x.mean(any(), any(), any(), global); break;
            case 4: x.draft(any()); break;
            case 5: x.define(any(), global); break;
            case 6: x.let(any(), any(), global); break;
            case 7: x.shape(global); break;
            case 8: x.get(any()); break;
            case 9: x.about(any(), any()); break;
            case 10: x.number(any(), any()); break;
            default: x.count(any()); break;
        }
    }

    /** What calls behind the 512th answer is free, but the machine must not throw in them. */
    private static void farBeyondTheLastCall() {
        for (int closeShare = 0; closeShare < 3; closeShare++) {
            GroupDesk x = new GroupDesk();
            for (int i = 0; i < 200000; i++) {
                int which = Math.floorMod(any() / 7 + i, 12);
                if (which == 1 && i % 3 > closeShare) {
                    which = 2;
                }
                try {
                    call(x, which);
                } catch (RuntimeException e) {
                    due("the exception of call " + i, e.getClass(), IndexOutOfBoundsException.class);
                }
            }
        }
    }

    public static void main(String[] args) {
        face();
        savedByEveryCall();
        rowsByEveryCall();
        emptyRowsByEveryCall();
        numbersByEveryCall();
        farBeyondTheLastCall();
        System.out.println(wrong == 0 ? "all limits are as due" : wrong + " limits are not as due");
        if (wrong != 0) {
            System.exit(1);
        }
    }
}
