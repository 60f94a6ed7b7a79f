/** The boundary cases of what is asked, told, seen and kept: one test for each sentence that names one. */
public final class AskEdgeTest {
    private static final int[] NO_TASKS = {-1, 6, 7, 9, 10, 100, Integer.MIN_VALUE, Integer.MAX_VALUE};
    private static final int[] FAR = {Integer.MIN_VALUE, Integer.MIN_VALUE + 1, Integer.MAX_VALUE - 1, Integer.MAX_VALUE};
    private static final long ALL = (1L << 41) - 2;

    public static void main(String[] args) {
        soonWithin2000();
        soonAsIfAllWorked();
        soonOfNone();
        soonAtTheLastTick();
        loadOfNone();
        loadInLowestTerms();
        riskPrograms();
        riskRounds();
        riskAnswers();
        enoughTicks();
        enoughShares();
        enoughWithoutError();
        enoughOfNone();
        tellBounds();
        tellSixty();
        hush();
        checkWhatWasNot();
        checkTheFirst();
        sightBounds();
        sightTwenty();
        untell();
        later();
        laterThan100000();
        fitShares();
        fitTicks();
        fitAsToldAtFirst();
        fitAsKnown();
        fitOfNone();
        boxes();
        whatABoxKeeps();
        backOfNothing();
        about();
        Due.finish("AskEdgeTest");
    }

    /** a at VIRTUAL 2000 and a little, b from 1 on in steps of 1 and a thousandth. */
    private static FairWheel farBehind(int share) {
        FairWheel x = Due.of("task a fair share 1 work 99;task b fair share 999 sleep 5 work 99;");
        x.run(3);
        x.share(0, share);
        x.run(1);
        x.wake(1);
        return x;
    }

    /** "none within 2,000" */
    private static void soonWithin2000() {
        FairWheel x = farBehind(999);
        Due.due("virtual", x.task(0, 3), 2001);
        Due.due("soon", x.soon(0), 1999);
        x = farBehind(500);
        Due.due("virtual", x.task(0, 3), 2002);
        Due.due("the last that is", x.soon(0), 2000);
        x = farBehind(333);
        Due.due("virtual", x.task(0, 3), 2003);
        Due.due("the first that is not", x.soon(0), -1);
        Due.due("the other one", x.soon(1), 1);
        x = Due.of("task a idle share 1 work 1;task b fair share 1 work 1;");
        Due.due("never", x.soon(0), -1);
        Due.due("at once", x.soon(1), 1);
    }

    /** "if all READY ones worked without end, none else became READY (BUDGETS are refilled, all pay)" */
    private static void soonAsIfAllWorked() {
        FairWheel x = Due.of("cores 2;locks 1;bells 1;task a fair share 1 sleep 1;task b fair share 1 wait 0;"
                + "task c fair share 1 lock 9;task d fair share 1 work 1;task e fair share 1 ring 0;");
        int[] want = {1, 1, 2, 2, 3};
        for (int i = 0; i < 5; i++) {
            Due.due("in turn, whatever their ops", x.soon(i), want[i]);
        }
        x.run(1);
        int[] then = {-1, -1, 1, 1, 2};
        for (int i = 0; i < 5; i++) {
            Due.due("without who sleeps and waits", x.soon(i), then[i]);
        }
        x = Due.of("task a fair share 1 sleep 1 work 9;task i idle share 1 work 9;");
        x.run(1);
        Due.due("the sleeper does not come back", x.soon(1), 1);
        x = Due.of("task d deadline every 20 budget 19 share 1 work 9;task i idle share 1 work 9;");
        Due.due("ahead of tick 0, by its refill", x.soon(0), 1);
        Due.due("when the budget is spent", x.soon(1), 20);
        x.run(1);
        Due.due("when the budget is spent", x.soon(1), 19);
        x = Due.of("task d deadline every 20 budget 20 share 1 work 9;task i idle share 1 work 9;");
        Due.due("always refilled", x.soon(1), -1);
        x = Due.of("task s server every 2 budget 1 share 1 work 9;task f fair share 2 work 9;task g fair share 1 work 9;");
        Due.due("by budget", x.soon(0), 1);
        Due.due("by virtual", x.soon(1), 4);
        Due.due("by virtual", x.soon(2), 6);
        x.run(1);
        Due.due("spent: by virtual", x.soon(0), 1);
        Look.refused("soon", 1, y -> y.soon(0));
    }

    /** "NONE if none, it is not READY, or there is none such." */
    private static void soonOfNone() {
        FairWheel x = Look.busy();
        for (int task : NO_TASKS) {
            Due.due("soon of " + task, x.soon(task), -1);
        }
        Due.due("ready", x.soon(0), 1);
        Due.due("locked", x.soon(1), -1);
        Due.due("belled", x.soon(2), -1);
        Due.due("asleep", x.soon(3), -1);
        Due.due("ended", x.soon(5), -1);
        x.wake(3);
        Due.due("ready", x.soon(3), 1);
        x.kill(3);
        Due.due("ended", x.soon(3), -1);
    }

    /** "from now on": what the wheel itself may not run any more is counted all the same. */
    private static void soonAtTheLastTick() {
        FairWheel x = Due.of("task a fair share 1 work 9 wait 0 work 9;task d deadline every 3 budget 1 share 1 wait 0 work 9;bells 1;");
        for (int i = 0; i < 10; i++) {
            x.run(200);
        }
        x.wake(0);
        x.wake(1);
        Due.due("the last tick", x.about(4), 2000);
        // d has a budget of 1, and in 2001, 2004, .. again
        Due.due("d at once", x.soon(1), 1);
        Due.due("a in 2002", x.soon(0), 3);
        Due.due("a's nine in 2014", x.enough(0, 14), -1);
        Due.due("a's nine in 2014", x.enough(0, 15), 1);
        Due.due("nothing was done", x.about(4), 2000);
    }

    private static void load(String text, long upper, long lower) {
        FairWheel x = Due.of(text);
        Due.due("upper part of " + text, x.load(0), upper);
        Due.due("lower part of " + text, x.load(1), lower);
    }

    /** "LOAD: what BUDGETED TASKS that have not ENDED ask", "NONE for another part" */
    private static void loadOfNone() {
        load("", 0, 1);
        load("task a fair share 1 work 1;task b batch share 1 work 1;task c idle share 1 work 1;", 0, 1);
        load("task a deadline every 2 budget 1 share 1;", 0, 1);
        FairWheel x = Look.busy();
        Due.due("upper", x.load(0), 7);
        Due.due("lower", x.load(1), 10);
        for (int part : new int[] {-1, 2, 3, Integer.MIN_VALUE, Integer.MAX_VALUE}) {
            Due.due("part " + part, x.load(part), -1);
        }
        x.kill(1);
        Due.due("upper", x.load(0), 1);
        Due.due("lower", x.load(1), 5);
        x.kill(2);
        Due.due("upper", x.load(0), 0);
        Due.due("lower", x.load(1), 1);
        // one that ENDS by itself
        x = Due.of("task a server every 7 budget 2 share 1 work 1;");
        Due.due("ahead", x.load(0), 2);
        x.run(1);
        Due.due("ended", x.load(0), 0);
        Due.due("ended", x.load(1), 1);
    }

    /** "upper part (0), lower part (1), in lowest terms" */
    private static void loadInLowestTerms() {
        String d = " deadline every ";
        String end = " share 1 work 1;";
        load("task a" + d + "20 budget 1" + end, 1, 20);
        load("task a" + d + "20 budget 20" + end, 1, 1);
        load("task a" + d + "1 budget 99" + end, 99, 1);
        load("task a" + d + "18 budget 12" + end, 2, 3);
        load("task a" + d + "6 budget 1" + end + "task b" + d + "3 budget 1" + end, 1, 2);
        load("task a" + d + "6 budget 3" + end + "task b server every 2 budget 1" + end, 1, 1);
        StringBuilder ten = new StringBuilder();
        for (int i = 0; i < 10; i++) {
            ten.append("task ").append((char) ('a' + i)).append(" server every 1 budget 99").append(end);
        }
        load(ten.toString(), 990, 1);
        // ten whose everies have the largest number in common that they can have: 20 .. 11
        StringBuilder wide = new StringBuilder();
        long lower = 232792560L;
        long upper = 0;
        for (int i = 0; i < 10; i++) {
            wide.append("task ").append((char) ('a' + i)).append(d).append(20 - i).append(" budget 1").append(end);
            upper += lower / (20 - i);
        }
        long common = java.math.BigInteger.valueOf(upper).gcd(java.math.BigInteger.valueOf(lower)).longValue();
        load(wide.toString(), upper / common, lower / common);
    }

    private static void risk(int locks, String programs, int... want) {
        StringBuilder text = new StringBuilder("locks " + locks + ";");
        String[] each = programs.split("/");
        for (int i = 0; i < each.length; i++) {
            text.append("task ").append((char) ('a' + i)).append(" fair share 1 ").append(each[i]).append(";");
        }
        FairWheel x = Due.of(text.toString().replace("L", "lock ").replace("U", "unlock "));
        String what = "risk of " + locks + " locks, " + programs;
        Due.due(what, x.risk(0), want.length);
        for (int i = 0; i < want.length; i++) {
            Due.due(what + ", " + i, x.risk(i + 1), want[i]);
        }
        Due.due(what + ", beyond", x.risk(want.length + 1), -1);
    }

    /** "(one that it has already, a lock that there is not: no more of that program; unlock of one that it has not: nothing)" */
    private static void riskPrograms() {
        risk(3, "L0 L1/L1 L0", 0, 1);
        risk(3, "L0 L0 L1/L1 L0");
        risk(3, "L0 L1 L0/L1 L0", 0, 1);
        risk(3, "L0 L3 L1/L1 L0");
        risk(4, "L0 L3 L1/L1 L0", 0, 1);
        risk(3, "L0 L99 L1/L1 L0");
        risk(3, "L0 U1 L1/L1 U2 L0", 0, 1);
        risk(3, "L0 U3 L1/L1 U99 L0", 0, 1);
        risk(3, "U0 L0 L1/U1 L1 L0", 0, 1);
        risk(3, "L0 U0 L1/L1 L0");
        risk(3, "L0 U0 L0 L1/L1 L0", 0, 1);
        risk(3, "L0 work 9 sleep 9 wait 99 ring 99 L1/L1 L0", 0, 1);
        risk(3, "L1 work 1 sleep 1 wait 1 ring 1 L0/L0 L1", 0, 1);
        risk(1, "L0 L1/L1 L0");
        risk(0, "L0 L1/L1 L0");
        risk(3, "L0 L1 U0 U1 L1 L0", 0, 1);
    }

    /** "The least lock that is BEHIND itself by some chain; its fewest locks round .., the first by numbers." */
    private static void riskRounds() {
        risk(6, "L0 L1/L1 L2/L2 L3/L3 L4/L4 L5/L5 L0", 0, 1, 2, 3, 4, 5);
        risk(6, "L0 L5/L5 L4/L4 L3/L3 L2/L2 L1/L1 L0", 0, 5, 4, 3, 2, 1);
        risk(6, "L0 L1/L1 L2/L2 L3/L3 L4/L4 L5");
        risk(6, "L4 L5/L5 L4", 4, 5);
        risk(6, "L4 L5/L5 L4/L3 L2/L2 L3", 2, 3);
        risk(6, "L0 L1/L1 L2/L2 L1/L5 L0", 1, 2);
        risk(6, "L0 L1/L1 L2/L2 L0/L0 L5/L5 L0", 0, 5);
        risk(6, "L0 L1/L0 L2/L1 L3/L2 L3/L3 L0", 0, 1, 3);
        risk(6, "L0 L2/L0 L3/L3 L1/L1 L0/L2 L5/L5 L0", 0, 2, 5);
        risk(6, "L0 L1/L1 L5/L1 L4/L4 L0/L5 L0", 0, 1, 4);
        risk(6, "L0 L1/L1 L0/L0 L2/L2 L0", 0, 1);
        risk(6, "L0");
        risk(6, "work 1");
    }

    /** "what 0: how many locks (0 if none), i + 1: the i-th of these (.. NONE if it has not so many); -2 for what below 0" */
    private static void riskAnswers() {
        FairWheel x = Due.of("locks 2;task a fair share 1 lock 0 lock 1;task b fair share 1 lock 1 lock 0;");
        int[] want = {2, 0, 1, -1, -1, -1, -1, -1, -1};
        for (int what = 0; what < want.length; what++) {
            Due.due("risk " + what, x.risk(what), want[what]);
        }
        for (int what : FAR) {
            Due.due("risk " + what, x.risk(what), what < 0 ? -2 : -1);
        }
        Due.due("risk -1", x.risk(-1), -2);
        x.kill(0);
        x.kill(1);
        Due.due("the programs stay", x.risk(0), 2);
        Due.kernel(x, "locks 2;task a fair share 1 lock 0 lock 1;");
        Due.due("another kernel has none", x.risk(0), 0);
        Due.due("another kernel has none", x.risk(1), -1);
        Due.kernel(x, "locks 2;task a fair share 1 lock 1 lock 0;");
        Due.due("nor by what an earlier one had", x.risk(0), 0);
        x = new FairWheel();
        Due.due("none", x.risk(0), 0);
        Due.due("none", x.risk(1), -1);
        Due.due("below", x.risk(-1), -2);
        Look.refused("risk", 0, y -> y.risk(0));
    }

    /** "within n TICKS (1 .. 100)" */
    private static void enoughTicks() {
        FairWheel x = Due.of("task a fair share 1 work 1;task b idle share 1 work 99 work 99;");
        for (int n : new int[] {0, -1, 101, 102, 200, Integer.MIN_VALUE, Integer.MAX_VALUE}) {
            Due.due("n " + n, x.enough(0, n), -1);
        }
        Due.due("the least n", x.enough(0, 1), 1);
        Due.due("the most n", x.enough(0, 100), 1);
        x = Due.of("task a fair share 1 work 99 work 1;task b fair share 1;");
        Due.due("one too few", x.enough(0, 99), -1);
        Due.due("just so", x.enough(0, 100), 1);
        x = Due.of("task a fair share 1 work 99 work 2;");
        Due.due("one too many", x.enough(0, 100), -1);
        x.run(1);
        Due.due("from now on", x.enough(0, 100), 1);
        Due.due("from now on", x.enough(0, 99), -1);
        // it ENDS as its sleep is over, in the tick in which none is chosen
        x = Due.of("task a fair share 1 sleep 3;");
        Due.due("asleep", x.enough(0, 4), -1);
        Due.due("awake", x.enough(0, 5), 1);
    }

    /** "the least share (1 .. 60)" */
    private static void enoughShares() {
        // a's seventh tick is the eighth if six have cost it no more than b's one, 100
        FairWheel x = Due.of("task a fair share 1 work 7;task b fair share 10 work 99;");
        Due.due("the last that is tried", x.enough(0, 8), 60);
        x.share(0, 59);
        x.run(8);
        Due.due("59 is not enough", x.task(0, 0), 0);
        x = Due.of("task a fair share 60 work 7;task b fair share 10 work 99;");
        x.run(8);
        Due.due("60 is enough", x.task(0, 0), 4);
        // a's third is the fourth if two have cost it no more than b's one, 32
        x = Due.of("task a fair share 61 work 3;task b fair share 31 work 99;");
        Due.due("the first that is not", x.enough(0, 4), -1);
        x.run(4);
        Due.due("though 61 is enough", x.task(0, 0), 4);
        x = Due.of("task a fair share 999 work 3;task b idle share 1 work 99;");
        Due.due("the first", x.enough(0, 3), 1);
        Look.refused("enough", 1, y -> y.enough(0, 100));
    }

    /** "it has ENDED without ERROR" */
    private static void enoughWithoutError() {
        FairWheel x = Due.of("task a fair share 1 lock 0;task b fair share 1 work 1 unlock 0;");
        Due.due("error", x.enough(0, 100), -1);
        Due.due("error", x.enough(1, 100), -1);
        // by a small share a comes too late to close a ring
        x = Due.of("locks 2;task a fair share 1 lock 0 lock 1;task b fair share 1 lock 1 lock 0;");
        Due.due("a waits for b, who errs", x.enough(0, 100), 1);
        Due.due("b errs, but by a share of 2 it is a that errs", x.enough(1, 100), 2);
        x = Due.of("bells 1;task a fair share 1 wait 0;");
        Due.due("it never ends", x.enough(0, 100), -1);
    }

    /** "NONE if none is, one can't be, or the TASK ENDED." */
    private static void enoughOfNone() {
        FairWheel x = Look.busy();
        for (int task : NO_TASKS) {
            Due.due("enough of " + task, x.enough(task, 50), -1);
        }
        Due.due("ended", x.enough(5, 50), -1);
        Due.due("alive", x.enough(4, 60), 1);
        x.kill(4);
        Due.due("ended", x.enough(4, 60), -1);
        Due.due("asleep", x.enough(3, 60), 1);
        Due.due("belled for ever", x.enough(2, 100), -1);
    }

    /** "(TICK 0 .. 1999, PROCESSOR 0 .. 3, TASK 0 .. 9, NONE: none) ..; NONE, doing nothing, if one can't be" */
    private static void tellBounds() {
        for (int tick : new int[] {-1, 2000, 2001, Integer.MIN_VALUE, Integer.MAX_VALUE}) {
            Look.refused("tell of tick " + tick, -1, x -> x.tell(tick, 0, 0));
        }
        for (int processor : new int[] {-1, 4, 5, Integer.MIN_VALUE, Integer.MAX_VALUE}) {
            Look.refused("tell of processor " + processor, -1, x -> x.tell(0, processor, 0));
        }
        for (int task : new int[] {-2, 10, 11, Integer.MIN_VALUE, Integer.MAX_VALUE}) {
            Look.refused("tell of task " + task, -1, x -> x.tell(0, 0, task));
        }
        FairWheel x = new FairWheel();
        Due.due("the first tick", x.tell(0, 0, 0), 1);
        Due.due("the last tick", x.tell(1999, 0, 0), 2);
        Due.due("the last processor", x.tell(0, 3, 0), 3);
        Due.due("the last task", x.tell(0, 0, 9), 4);
        Due.due("none", x.tell(0, 0, -1), 5);
        Due.due("all the last", x.tell(1999, 3, 9), 6);
        Due.due("told", x.about(6), 6);
    }

    /** "60 at most", "or there are 60" */
    private static void tellSixty() {
        FairWheel x = Due.of("task a fair share 1 work 99;");
        x.run(60);
        for (int i = 0; i < 60; i++) {
            Due.due("told", x.tell(i, 0, 0), i + 1);
        }
        Due.due("all were so", x.check(), -1);
        Due.due("full", x.tell(0, 0, 1), -1);
        Due.due("full", x.tell(0, 0, 1), -1);
        Due.due("sixty", x.about(6), 60);
        Due.due("nothing was done", x.check(), -1);
        Due.due("sixty", x.hush(), 60);
        Due.due("room again", x.tell(0, 0, 1), 1);
        Due.due("what was told is forgotten", x.check(), 0);
    }

    /** "CHOICES TOLD are none: how many there were." */
    private static void hush() {
        FairWheel x = Look.busy();
        Due.due("check", x.check(), 2);
        Due.due("three", x.hush(), 3);
        Due.due("none", x.about(6), 0);
        Due.due("all were so", x.check(), -1);
        Due.due("none", x.hush(), 0);
        Due.due("sights stay", x.about(7), 2);
        Due.due("a new one is the first", x.tell(0, 0, 0), 1);
        Due.due("a new one is the first", x.check(), 0);
    }

    /** "(a TICK that was not yet, a PROCESSOR that there is not: not so); NONE if all were" */
    private static void checkWhatWasNot() {
        FairWheel x = Due.of("cores 2;task a fair share 1 work 3;");
        Due.due("none", x.check(), -1);
        x.tell(0, 0, 0);
        x.tell(2, 1, -1);
        Due.due("not yet", x.check(), 0);
        x.run(2);
        Due.due("not yet", x.check(), 1);
        x.run(1);
        Due.due("all were", x.check(), -1);
        x.image(0);
        x.tell(2, 2, -1);
        Due.due("no such processor", x.check(), 2);
        x.hush();
        x.tell(2, 3, 0);
        Due.due("no such processor", x.check(), 0);
        x.hush();
        x.tell(3, 0, -1);
        Due.due("not yet, even if none", x.check(), 0);
        x.run(1);
        Due.due("none was chosen", x.check(), -1);
        x.back(0);
        Due.due("not yet again", x.check(), 0);
        x.hush();
        x.tell(2, 0, 9);
        Due.due("a task that there is not", x.check(), 0);
        x.hush();
        x.tell(2, 0, -1);
        Due.due("there was one", x.check(), 0);
        x.hush();
        x.tell(2, 1, 0);
        Due.due("there was none", x.check(), 0);
        x = new FairWheel();
        for (int i = 0; i < 10; i++) {
            x.run(200);
        }
        x.tell(1999, 0, -1);
        Due.due("the last tick", x.check(), -1);
    }

    /** "The first of them that was not so" */
    private static void checkTheFirst() {
        FairWheel x = Due.of("task a fair share 1 work 9;");
        x.run(5);
        x.tell(4, 0, 0);
        x.tell(3, 0, 1);
        x.tell(0, 0, 1);
        Due.due("by their telling, not by ticks", x.check(), 1);
        x.hush();
        x.tell(4, 0, 1);
        Due.due("the first is 0", x.check(), 0);
        x.hush();
        for (int i = 0; i < 59; i++) {
            x.tell(0, 0, 0);
        }
        x.tell(0, 0, 1);
        Due.due("the last is 59", x.check(), 59);
    }

    /** "in a TICK (0 .. 99)", "NONE, doing nothing, if one can't be" */
    private static void sightBounds() {
        for (int tick : new int[] {-1, 100, 101, Integer.MIN_VALUE, Integer.MAX_VALUE}) {
            Look.refused("sight of tick " + tick, -1, x -> x.sight(tick, 0, true));
        }
        for (int task : NO_TASKS) {
            Look.refused("sight of task " + task, -1, x -> x.sight(0, task, true));
        }
        FairWheel x = Look.busy();
        Due.due("the first tick", x.sight(0, 0, false), 2);
        Due.due("the last tick", x.sight(99, 0, false), 3);
        Due.due("the last task, though it ended", x.sight(0, 5, false), 4);
        Due.due("five", x.about(7), 5);
    }

    /** "SIGHTS, 20 at most", "or there are 20" */
    private static void sightTwenty() {
        FairWheel x = Due.of("task a fair share 1 work 99;task b idle share 1 work 9;");
        for (int i = 0; i < 20; i++) {
            Due.due("its number", x.sight(i, 0, true), i);
        }
        Due.due("full", x.sight(0, 0, false), -1);
        Due.due("twenty", x.about(7), 20);
        Due.due("nothing was done", x.fits(0, 0), ALL);
        Due.due("the last", x.untell(19), true);
        Due.due("no 21st", x.untell(20), false);
        Due.due("untold ones still are", x.sight(0, 0, false), -1);
        Due.due("untold ones still are", x.about(7), 20);
        x.end(0);
        Due.kernel(x, "task a fair share 1 work 99;");
        Due.due("a new kernel has none", x.about(7), 0);
        Due.due("its first", x.sight(0, 0, true), 0);
    }

    /** "It is UNTOLD: true; false if it is so already, or there is none such." */
    private static void untell() {
        for (int sight : new int[] {-1, 2, 3, 19, 20, 21, Integer.MIN_VALUE, Integer.MAX_VALUE}) {
            Look.refused("untell " + sight, true, x -> x.untell(sight) ? 1 : 0);
        }
        Look.refused("untell what is untold", true, x -> x.untell(0) ? 1 : 0);
        FairWheel x = Look.busy();
        Due.due("told", x.untell(1), true);
        Due.due("not again", x.untell(1), false);
        x.later(1);
        Due.due("not later either", x.untell(1), false);
        Due.due("its time is the first", x.fits(4, 5), ALL);
        x = new FairWheel();
        Due.due("none", x.untell(0), false);
        // UNTOLD at TIME 0 is so already, too
        x = Due.of("task a fair share 1 work 1;");
        x.sight(0, 0, false);
        Due.due("told", x.fits(0, 0), 0);
        Due.due("at time 0", x.untell(0), true);
        Due.due("not again", x.untell(0), false);
        Due.due("untold", x.fits(0, 0), ALL);
    }

    /** "So much later (0 .. 1000): the TIME; NONE, doing nothing, for another number" */
    private static void later() {
        for (int by : new int[] {-1, 1001, 1002, 100000, -1000, Integer.MIN_VALUE, Integer.MAX_VALUE}) {
            Look.refused("later by " + by, -1, x -> x.later(by));
        }
        Look.refused("later by 0", 5, x -> x.later(0));
        FairWheel x = new FairWheel();
        Due.due("0 at first", x.about(8), 0);
        Due.due("by 0", x.later(0), 0);
        Due.due("by 1", x.later(1), 1);
        Due.due("by 1000", x.later(1000), 1001);
        Due.due("the time", x.about(8), 1001);
    }

    /** "or if it would be above 100,000" */
    private static void laterThan100000() {
        FairWheel x = new FairWheel();
        for (int i = 1; i <= 99; i++) {
            x.later(1000);
        }
        Due.due("99,001", x.later(1), 99001);
        Due.due("100,001", x.later(1000), -1);
        Due.due("nothing was done", x.about(8), 99001);
        Due.due("100,000", x.later(999), 100000);
        Due.due("by 0", x.later(0), 100000);
        Due.due("100,001", x.later(1), -1);
        Due.due("nothing was done", x.about(8), 100000);
        Due.kernel(x, "task a fair share 1 work 1;");
        x.sight(0, 0, false);
        Due.due("told then", x.fits(0, 100000), 0);
        Due.due("not before", x.fits(0, 99999), ALL);
    }

    /** "its shares 1 .. 40 by which all that count are so", "(bit 0 is never set)" */
    private static void fitShares() {
        FairWheel x = Due.of("task a fair share 1 work 7;task b fair share 10 work 99;");
        Due.due("without sights", x.fits(0, 0), ALL);
        // a is chosen in tick n + 1 again if n have cost it no more than b's one, 100
        x.sight(2, 0, true);
        Due.due("from 10 on", x.fits(0, 0), ALL & -(1L << 10));
        x.sight(3, 0, true);
        Due.due("from 20 on", x.fits(0, 0), ALL & -(1L << 20));
        x.untell(1);
        x.sight(3, 0, false);
        Due.due("10 to 19", x.fits(0, 0), (1L << 20) - (1L << 10));
        x.untell(2);
        x.sight(3, 0, true);
        x.sight(4, 0, true);
        x.sight(5, 0, true);
        Due.due("the last alone", x.fits(0, 0), 1L << 40);
        x.untell(5);
        x.sight(5, 0, false);
        Due.due("all but the last", x.fits(0, 0), (1L << 40) - (1L << 30));
        // the first alone: a's one has cost it more than b's, 501
        x = Due.of("task a fair share 1 work 7;task b fair share 2 work 99;");
        x.sight(2, 0, false);
        Due.due("the first alone", x.fits(0, 0), 2);
        x.sight(0, 0, false);
        Due.due("none", x.fits(0, 0), 0);
    }

    /** The first and the last TICK of a SIGHT count, and whoever it is about. */
    private static void fitTicks() {
        FairWheel x = Due.of("task a fair share 1 work 99;task b idle share 1 work 99;");
        x.sight(0, 0, false);
        Due.due("the first tick", x.fits(0, 0), 0);
        x.untell(0);
        x.sight(98, 0, true);
        x.sight(99, 0, false);
        Due.due("the last tick", x.fits(0, 0), ALL);
        x.sight(99, 1, true);
        Due.due("the last tick", x.fits(0, 0), ALL);
        x.sight(99, 1, false);
        Due.due("both can't be", x.fits(0, 0), 0);
        Due.due("nor for the other", x.fits(1, 0), 0);
        x = Due.of("cores 4;task a fair share 1 work 9;task b fair share 1 work 9;task c fair share 1 work 9;task d fair share 1 work 9;");
        for (int task = 0; task < 4; task++) {
            x.sight(0, task, true);
        }
        Due.due("on any processor", x.fits(3, 0), ALL);
    }

    /** "in a KERNEL as told at first, without ACTS" */
    private static void fitAsToldAtFirst() {
        FairWheel x = Due.of("task a fair share 1 work 7;task b fair share 10 work 99;");
        for (int tick = 2; tick <= 5; tick++) {
            x.sight(tick, 0, true);
        }
        x.share(1, 999);
        x.run(50);
        x.kill(0);
        x.kill(1);
        Due.due("as told at first", x.fits(0, 0), 1L << 40);
        x = Due.of("task a fair share 2 work 9;task b fair share 1 work 9;");
        x.sight(3, 0, true);
        x.kill(1);
        x.run(9);
        Due.due("of one that ended", x.fits(1, 0), 2 + 8 + 16);
        Look.refused("fits", ALL, y -> y.fits(0, 0));
    }

    /** "those count that were TOLD at k or before, not UNTOLD at k or before", "UNTOLD at a later one or the same" */
    private static void fitAsKnown() {
        FairWheel x = Due.of("task a fair share 1 work 9;");
        x.later(10);
        x.sight(0, 0, false);
        x.later(10);
        x.untell(0);
        Due.due("one before", x.fits(0, 9), ALL);
        Due.due("told then", x.fits(0, 10), 0);
        Due.due("known", x.fits(0, 19), 0);
        Due.due("untold then", x.fits(0, 20), ALL);
        Due.due("later", x.fits(0, 21), ALL);
        for (int k : FAR) {
            Due.due("far", x.fits(0, k), ALL);
        }
        x.sight(0, 0, false);
        Due.due("told again", x.fits(0, 20), 0);
        Due.due("before", x.fits(0, 19), 0);
        Due.due("before", x.fits(0, 0), ALL);
        Due.due("not before time", x.fits(0, -1), ALL);
        Due.due("on and on", x.fits(0, Integer.MAX_VALUE), 0);
        x.untell(1);
        Due.due("untold at the same time never counts", x.fits(0, 20), ALL);
        Due.due("untold at the same time never counts", x.fits(0, 21), ALL);
        x = Due.of("task a fair share 1 work 9;");
        x.sight(0, 0, false);
        Due.due("told at time 0", x.fits(0, 0), 0);
        Due.due("not before time", x.fits(0, -1), ALL);
    }

    /** "NONE if there is none such" */
    private static void fitOfNone() {
        FairWheel x = Look.busy();
        for (int task : NO_TASKS) {
            Due.due("fits of " + task, x.fits(task, 5), -1);
        }
        Due.due("fits of the last", x.fits(5, 5), ALL);
        Due.due("fits of none", new FairWheel().fits(0, 0), -1);
    }

    /** "kept in a BOX 0 .. 2: the TICK; NONE if there is none such" */
    private static void boxes() {
        for (int box : new int[] {-1, 3, 4, Integer.MIN_VALUE, Integer.MAX_VALUE}) {
            Look.refused("image " + box, -1, x -> x.image(box));
        }
        FairWheel x = Due.of("task a fair share 1 work 9;");
        for (int box = 0; box < 3; box++) {
            Due.due("image", x.image(box), box);
            x.run(1);
        }
        for (int box = 2; box >= 0; box--) {
            Due.due("back", x.back(box), box);
            Due.due("work left", x.task(0, 2), 9 - box);
        }
        Due.due("kept on", x.back(2), 2);
        Due.due("anew", x.image(0), 2);
        Due.due("back", x.back(0), 2);
        Due.due("another one stays", x.back(1), 1);
        x = new FairWheel();
        for (int i = 0; i < 10; i++) {
            x.run(200);
        }
        Due.due("the last tick", x.image(2), 2000);
        Due.due("the last tick", x.back(2), 2000);
        Due.due("its rows", x.chosen(1999, 0), -1);
        Due.due("beyond", x.run(1), -1);
    }

    /** "TASKS, locks, bells, the TICK and ROWS", "All is as it was kept" */
    private static void whatABoxKeeps() {
        FairWheel x = Look.busy();
        FairWheel twin = Look.busy();
        x.image(0);
        x.share(0, 9);
        x.kill(1);
        x.wake(2);
        x.wake(3);
        x.run(40);
        Due.due("back", x.back(0), 7);
        twin.image(0);
        Look.same("as it was kept", x, twin);
        x.run(3);
        twin.run(3);
        Look.same("and it goes on so", x, twin);
        // rows of another past come back
        x = Due.of("task a fair share 1 work 9;task b fair share 1 work 9;");
        x.run(4);
        x.image(0);
        Due.dueRow("in turn", x, 0, "0101");
        Due.kernel(x, "task a fair share 1 work 9;task b fair share 1 work 9;");
        x.image(0);
        x.run(4);
        x.image(1);
        x.back(0);
        x.share(0, 9);
        x.run(5);
        Due.dueRow("by another share", x, 0, "01000");
        Due.due("back", x.back(1), 4);
        Due.dueRow("in turn", x, 0, "0101");
        x.tell(0, 0, 0);
        x.sight(1, 1, true);
        x.later(4);
        x.back(0);
        Due.due("choices are no part of it", x.about(6), 1);
        Due.due("sights are no part of it", x.about(7), 1);
        Due.due("the time is no part of it", x.about(8), 4);
        keptWhatIsCounted();
        // a ring is a task's own
        x = Due.of("locks 2;task a fair share 1 lock 0 lock 1;task b fair share 1 lock 1 lock 0;");
        x.run(3);
        x.image(0);
        x.run(1);
        Due.due("a ring", x.ring(1, 1), 0);
        x.image(1);
        x.back(0);
        Due.due("no ring yet", x.ring(1, 0), -1);
        x.back(1);
        Due.due("a ring again", x.ring(1, 1), 0);
        // another ring of the same task comes between: who was in it is kept, not only how many
        x = Due.of("locks 3;task a fair share 1 lock 0 lock 2;task b fair share 1 lock 0 lock 2;"
                + "task c fair share 1 lock 2 sleep 5 lock 0;");
        x.image(1);
        x.run(12);
        Due.due("a ring with a", x.ring(2, 1), 0);
        x.image(0);
        x.back(1);
        x.kill(0);
        x.run(12);
        Due.due("a ring with b", x.ring(2, 1), 1);
        x.back(0);
        Due.due("a ring with a again", x.ring(2, 1), 0);
        Due.due("itself", x.ring(2, 0), 2);
        Due.due("each once", x.ring(2, 2), -1);
    }

    /** How often it MISSED and how long it has WAITED on end are as they were, too. */
    private static void keptWhatIsCounted() {
        FairWheel x = Due.of("task a server every 2 budget 2 share 1 work 99;task b deadline every 3 budget 2 share 1 work 99;"
                + "task c idle share 1 work 9;");
        x.image(1);
        x.run(4);
        x.image(0);
        String before = Look.all(x);
        Due.due("b missed", x.task(1, 10), 1);
        Due.due("c waited on end", x.task(2, 12), 4);
        x.run(9);
        Due.due("b missed more", x.task(1, 10) > 1, true);
        x.back(1);
        Due.due("none missed", x.task(1, 10), 0);
        x.kill(0);
        x.kill(1);
        x.run(3);
        Due.due("c was chosen", x.task(2, 2), 6);
        x.back(0);
        Due.due("as it was", Look.all(x).equals(before), true);
        x.run(1);
        Due.due("on end with what was", x.task(2, 12), 5);
        x.back(1);
        x.run(1);
        Due.due("on end from the beginning", x.task(2, 12), 1);
    }

    /** "NONE, doing nothing, if nothing was" */
    private static void backOfNothing() {
        for (int box : new int[] {0, 2, -1, 3, Integer.MIN_VALUE, Integer.MAX_VALUE}) {
            Look.refused("back " + box, -1, x -> x.back(box));
        }
        FairWheel x = new FairWheel();
        Due.due("nothing was", x.back(0), -1);
        Due.due("kept", x.image(0), 0);
        Due.due("an empty kernel was", x.back(0), 0);
        x.kernel();
        Due.due("nothing is any more", x.back(0), -1);
        x.image(0);
        Due.kernel(x, "?");
        Due.due("a fault leaves it", x.back(0), 0);
    }

    /** "NONE for another what" */
    private static void about() {
        FairWheel x = Look.busy();
        int[] want = {6, 2, 2, 1, 7, 5, 3, 2, 5, Look.TAPE.length(), 11};
        for (int what = 0; what < want.length; what++) {
            Due.due("about " + what, x.about(what), want[what]);
        }
        for (int what : new int[] {-1, -2, 11, 12, Integer.MIN_VALUE, Integer.MAX_VALUE}) {
            Due.due("about " + what, x.about(what), -1);
        }
    }
}
