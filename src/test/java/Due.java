/** What the tests share: counting answers that are not as due, and feeding texts. */
final class Due {
    private static int wrong = 0;

    private Due() {
    }

    static void due(String what, long got, long want) {
        if (got != want) {
            wrong++;
            if (wrong <= 50) {
                System.out.println(what + " answered " + got + ", due is " + want);
            }
        }
    }

    static void due(String what, boolean got, boolean want) {
        due(what, got ? 1 : 0, want ? 1 : 0);
    }

    static int wrong() {
        return wrong;
    }

    static void finish(String test) {
        System.out.println(test + ": " + (wrong == 0 ? "all answers are as due" : wrong + " answers are not as due"));
        if (wrong != 0) {
            System.exit(1);
        }
    }

    /** Puts a text behind what is on the tape of x: how many bytes there are then. */
    static int feed(FairWheel x, String text) {
        int before = x.about(9);
        for (int i = 0; i < text.length(); i += 20) {
            int[] five = new int[5];
            for (int j = 0; j < 20; j++) {
                int sign = i + j < text.length() ? text.charAt(i + j) : ' ';
                five[j / 4] = five[j / 4] << 8 | sign;
            }
            x.feed(five[0], five[1], five[2], five[3], five[4]);
        }
        return x.end(before + text.length());
    }

    static int kernel(FairWheel x, String text) {
        x.end(0);
        due("end of " + text, feed(x, text), text.length());
        return x.kernel();
    }

    /** A new object with a kernel that has no fault. */
    static FairWheel of(String text) {
        FairWheel x = new FairWheel();
        int tasks = kernel(x, text);
        due("fault of " + text, x.fault(0), 0);
        due("tasks of " + text, tasks, x.about(0));
        return x;
    }

    /** Of a text on a new object: its fault and the fault's place, 0 and -1 if it has none. */
    static void fault(String text, int fault, int place) {
        FairWheel x = new FairWheel();
        int tasks = kernel(x, text);
        due("fault of '" + text + "'", x.fault(0), fault);
        due("its place in '" + text + "'", x.fault(1), place);
        due("kernel of '" + text + "'", tasks == -1, fault != 0);
    }

    static void good(String text) {
        fault(text, 0, -1);
    }

    static String blanks(int n) {
        return " ".repeat(n);
    }

    /** What is to be seen of a task by whats 0 on. */
    static void dueTask(String what, FairWheel x, int task, int... want) {
        for (int i = 0; i < want.length; i++) {
            due(what + " task(" + task + ", " + i + ")", x.task(task, i), want[i]);
        }
    }

    /** The choices of one processor in ticks 0 on: a digit each, '-' for none. */
    static String row(FairWheel x, int processor) {
        StringBuilder row = new StringBuilder();
        for (int tick = 0; tick < x.about(4); tick++) {
            int who = x.chosen(tick, processor);
            row.append(who < 0 ? "-" : Integer.toString(who));
        }
        return row.toString();
    }

    static void dueRow(String what, FairWheel x, int processor, String want) {
        String got = row(x, processor);
        if (!got.equals(want)) {
            System.out.println(what + ": row " + got + ", due is " + want);
            due(what, 1, 0);
        }
    }
}
