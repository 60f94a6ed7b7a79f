/** The boundary cases of ticks, tasks, places, locks, errors, rings and acts: one test for each sentence that names one. */
public final class WheelEdgeTest {
    private static final int[] NO_TASKS = {-1, 6, 7, 9, 10, 100, Integer.MIN_VALUE, Integer.MAX_VALUE};

    public static void main(String[] args) {
        withoutAnOpAtHand();
        endsAsSoonAsItsLastIsDone();
        budgetsAreRefilled();
        missed();
        sleepsTillATick();
        processorsChoose();
        workOfN();
        aLockThatNobodyHolds();
        bells();
        ownPlaces();
        whoIsChosenPays();
        waitedAndLongest();
        placeThroughAChain();
        deadlineWithoutBudget();
        aLockIsLetGo();
        locksAndBellsThatThereAreNot();
        unlockOfOneNotHeld();
        lockOfOneHeld();
        rings();
        whoEndsLetsGoAll();
        run();
        runBeyond2000();
        chosen();
        taskAnswers();
        place();
        holderAndWaits();
        ringAnswers();
        share();
        kill();
        wake();
        aFullHouse();
        Due.finish("WheelEdgeTest");
    }

    /** "Without an OP at hand it ENDS at once (at first ..)" */
    private static void withoutAnOpAtHand() {
        FairWheel x = Due.of("task a fair share 1;task b server every 1 budget 1 share 1;task c fair share 1 work 1;");
        Due.dueTask("no op", x, 0, 4, 0, 0, 0, 0, 1, 0, 0, 0, -1, 0, 0, 0);
        Due.due("one is left", x.about(5), 1);
        x.run(2);
        Due.dueRow("only c", x, 0, "2-");
        Due.dueTask("it had no budget", x, 1, 4, 0, 0, 0, 0, 1, 0, 0, 0, -1, 0, 0, 0);
        Due.due("it is ended", x.kill(0), false);
        Due.due("all ended", x.about(5), 0);
    }

    /** "(.. as soon as its last one is done)" */
    private static void endsAsSoonAsItsLastIsDone() {
        for (String op : new String[] {"work 1", "lock 0", "ring 0"}) {
            FairWheel x = Due.of("locks 1;bells 1;task a fair share 1 " + op + ";");
            x.run(1);
            Due.dueTask(op, x, 0, 4, 1, 0, 1000, 0, 1, 0, 0, 0, -1);
            Due.due("none is left", x.about(5), 0);
        }
        FairWheel x = Due.of("locks 1;task a fair share 1 lock 0 unlock 0;");
        x.run(2);
        Due.dueTask("unlock", x, 0, 4, 2, 0, 2000);
        x = Due.of("bells 1;cores 2;task a fair share 1 wait 0;task b fair share 1 work 1 ring 0;");
        x.run(1);
        Due.dueTask("it waits", x, 0, 2, 0);
        x.run(1);
        Due.dueTask("rung for", x, 0, 4, 1, 0, 1000);
        x = Due.of("task a fair share 1 sleep 1;");
        x.run(2);
        Due.dueTask("it sleeps", x, 0, 3, 0);
        x.run(1);
        Due.dueTask("slept", x, 0, 4, 1, 0, 1000);
        Due.dueRow("it was not chosen again", x, 0, "0--");
    }

    /** "in a TICK that is a multiple of its every", "BUDGET is budget, DEADLINE the TICK and every" */
    private static void budgetsAreRefilled() {
        FairWheel x = Due.of("task a deadline every 20 budget 3 share 1 work 9;task b server every 1 budget 1 share 1 sleep 99;");
        Due.dueTask("ahead of the first tick", x, 0, 0, 0, 9, 0, 0, 1, 0, 0);
        x.run(1);
        Due.due("deadline of tick 0", x.task(0, 7), 20);
        Due.due("deadline of tick 0", x.task(1, 7), 1);
        x.run(19);
        Due.due("spent", x.task(0, 6), 0);
        Due.due("deadline", x.task(0, 7), 20);
        Due.due("who sleeps has its budget, too", x.task(1, 6), 1);
        Due.due("who sleeps has its deadline, too", x.task(1, 7), 20);
        x.run(1);
        Due.due("refilled in tick 20", x.task(0, 6), 2);
        Due.due("deadline", x.task(0, 7), 40);
        Due.dueRow("rows", x, 0, "1000----------------0");
        x = Due.of("task a deadline every 3 budget 9 share 1 work 2;");
        x.run(4);
        Due.dueTask("who ended has no more", x, 0, 4, 1, 0, 0, 0, 1, 7, 3, 0, -1, 0);
        x = Due.of("task a deadline every 2 budget 9 share 1 work 9;");
        x.run(1);
        x.kill(0);
        x.run(9);
        Due.dueTask("who was ended has no more", x, 0, 4, 0, 8, 0, 0, 1, 8, 2, 0, -1, 0);
        x = Due.of("task a deadline every 1 budget 99 share 1 work 99;");
        x.run(50);
        Due.due("it is no more than budget", x.task(0, 6), 98);
        Due.due("deadline", x.task(0, 7), 50);
    }

    /** "if it is READY, has BUDGET and this is not TICK 0, it MISSED once more" */
    private static void missed() {
        FairWheel x = Due.of("task a deadline every 1 budget 1 share 1 work 9;");
        x.run(5);
        Due.due("without budget", x.task(0, 10), 0);
        x = Due.of("task a deadline every 1 budget 2 share 1 work 9;");
        x.run(1);
        Due.due("not tick 0", x.task(0, 10), 0);
        x.run(1);
        Due.due("with a budget of 1", x.task(0, 10), 1);
        x.run(3);
        Due.due("each time", x.task(0, 10), 4);
        x = Due.of("cores 2;locks 1;bells 1;task a deadline every 2 budget 2 share 1 wait 0;"
                + "task b server every 2 budget 2 share 1 sleep 9;task h idle share 1 lock 0 work 99;"
                + "task c server every 2 budget 4 share 1 sleep 1 lock 0;");
        x.run(9);
        Due.due("belled", x.task(0, 10), 0);
        Due.due("asleep", x.task(1, 10), 0);
        Due.due("locked", x.task(3, 0), 1);
        Due.due("locked", x.task(3, 10), 0);
        Due.due("refilled all the same", x.task(0, 6), 2);
        Due.due("deadline", x.task(0, 7), 10);
        x.run(1);
        Due.due("still asleep", x.task(1, 0), 3);
        x.run(1);
        Due.due("awake behind the refill", x.task(1, 0), 4);
        Due.due("not missed", x.task(1, 10), 0);
    }

    /** "it SLEEPS till the TICK N + 1 behind this one", "Who SLEEPS till this TICK is READY" */
    private static void sleepsTillATick() {
        FairWheel x = Due.of("task a fair share 1 sleep 1 sleep 99 work 1;");
        x.run(1);
        Due.due("till", x.task(0, 9), 2);
        x.run(1);
        Due.due("one tick ahead", x.task(0, 0), 3);
        x.run(1);
        Due.due("chosen in that tick, and asleep again", x.task(0, 9), 102);
        Due.due("its next op", x.task(0, 1), 1);
        x.run(99);
        Due.due("one tick ahead", x.about(4), 102);
        Due.due("asleep", x.task(0, 0), 3);
        Due.due("none was chosen", x.chosen(101, 0), -1);
        x.run(1);
        Due.due("chosen in that tick", x.chosen(102, 0), 0);
        Due.due("ended", x.task(0, 0), 4);
        Due.due("it never waited", x.task(0, 11), 0);
    }

    /** "each the foremost of the READY TASKS that none ahead of it has chosen (none, if there is none)" */
    private static void processorsChoose() {
        String five = "task a idle share 1 work 3;task b batch share 1 work 3;task c fair share 1 work 3;"
                + "task d server every 20 budget 9 share 1 work 3;task e fair share 1 work 3;";
        String[][] want = {{"333"}, {"333", "242"}, {"333", "222", "444"}, {"333", "222", "444", "111"}};
        for (int cores = 1; cores <= 4; cores++) {
            FairWheel x = Due.of("cores " + cores + ";" + five);
            x.run(3);
            for (int p = 0; p < cores; p++) {
                Due.dueRow("processor " + p + " of " + cores, x, p, want[cores - 1][p]);
            }
            Due.due("no such processor", x.chosen(0, cores), -1);
            Due.due("who was not chosen did nothing", x.task(0, 2), 3);
        }
        FairWheel x = Due.of("cores 4;" + five);
        x.run(7);
        Due.dueRow("as fewer are left", x, 0, "333000-");
        Due.dueRow("none, if there is none", x, 1, "222----");
        x = Due.of("cores 4;task a fair share 1 work 1;");
        x.run(2);
        Due.dueRow("one of four", x, 0, "0-");
        Due.dueRow("none for the second", x, 1, "--");
        Due.dueRow("none for the last", x, 3, "--");
    }

    /** "work N: one of N (behind the last one the OP is done)" */
    private static void workOfN() {
        FairWheel x = Due.of("task a fair share 1 work 1 work 99 work 2;");
        Due.dueTask("at first", x, 0, 0, 0, 1);
        x.run(1);
        Due.dueTask("one is done at once", x, 0, 0, 1, 99);
        x.run(98);
        Due.dueTask("one is left", x, 0, 0, 1, 1);
        x.run(1);
        Due.dueTask("done behind the last", x, 0, 0, 2, 2);
        x.run(1);
        Due.dueTask("one of two", x, 0, 0, 2, 1);
        x.run(1);
        Due.dueTask("all done", x, 0, 4, 3, 0);
    }

    /** "lock N: if nobody holds it, it does, done; else it is LOCKED (done as it gets it)." "unlock N: it is let go, done." */
    private static void aLockThatNobodyHolds() {
        FairWheel x = Due.of("cores 2;locks 6;task a fair share 1 lock 5 work 1 unlock 5 work 9;"
                + "task b fair share 1 lock 5 work 9;task c idle share 1 work 1 work 1 unlock 5;");
        Due.due("nobody", x.holder(5), -1);
        x.run(1);
        Due.due("the first processor's", x.holder(5), 0);
        Due.dueTask("done", x, 0, 0, 1, 1);
        Due.dueTask("locked", x, 1, 1, 0, 0, 1000, 0, 1, 0, 0, 0, 5);
        x.run(2);
        Due.due("let go in tick 2", x.holder(5), 1);
        Due.dueTask("its unlock is done", x, 0, 0, 3, 9);
        Due.dueTask("its lock is done, and it is not chosen yet", x, 1, 0, 1, 9, 1000, 0, 1, 0, 0, 0, -1);
        Due.due("none waits", x.waits(5), 0);
        x.run(1);
        Due.due("it works in the next", x.task(1, 2), 8);
    }

    /** "ring N: all that are BELLED for that bell are READY .. (their wait done), then it is done" */
    private static void bells() {
        FairWheel x = Due.of("cores 4;bells 4;task a fair share 1 ring 3 work 2 ring 3 ring 2 work 9;"
                + "task b fair share 1 wait 3 work 9;task c fair share 1 wait 3;task d fair share 1 wait 2 work 9;");
        x.run(1);
        Due.dueTask("with none belled it is done", x, 0, 0, 1, 2);
        Due.dueTask("a bell is not kept", x, 1, 2, 0, 0, 1000, 0, 1, 0, 0, 0, 3);
        x.run(3);
        Due.dueTask("b is ready", x, 1, 0, 1, 9, 1000, 0, 1, 0, 0, 0, -1);
        Due.dueTask("c has ended", x, 2, 4, 1);
        Due.dueTask("d waits for another", x, 3, 2, 0, 0, 1000, 0, 1, 0, 0, 0, 2);
        x.run(1);
        Due.dueTask("d is ready", x, 3, 0, 1, 9);
        Due.dueTask("a's rings are done", x, 0, 0, 4, 9);
        // nine wait for one bell
        StringBuilder text = new StringBuilder("bells 1;cores 4;task r idle share 1 sleep 9 ring 0;");
        for (int i = 0; i < 9; i++) {
            text.append("task ").append((char) ('a' + i)).append(" fair share 1 wait 0 work 1;");
        }
        x = Due.of(text.toString());
        x.run(12);
        Due.due("all wait", x.task(9, 0), 2);
        x.run(1);
        for (int i = 1; i <= 9; i++) {
            Due.dueTask("all are ready", x, i, 0, 1, 1);
        }
        Due.due("who rang has ended", x.task(0, 0), 4);
    }

    /** "of those with BUDGET by DEADLINE; behind those fair and server, then batch, then idle by VIRTUAL; .. of like ones by number" */
    private static void ownPlaces() {
        FairWheel x = Due.of("task a deadline every 9 budget 1 share 1 work 1;task b server every 8 budget 1 share 1 work 1;"
                + "task c deadline every 8 budget 1 share 1 work 1;");
        x.run(3);
        Due.dueRow("by deadline, like ones by number", x, 0, "120");
        x = Due.of("task a fair share 4 work 3;task b server every 9 budget 1 share 4 work 4;task c fair share 4 work 3;");
        x.run(10);
        Due.dueRow("fair and server by virtual, like ones by number", x, 0, "1012012012");
        x = Due.of("task i idle share 999 work 2;task b batch share 999 work 2;task f fair share 1 work 9;"
                + "task d deadline every 2 budget 1 share 1 work 2;");
        x.run(15);
        Due.dueRow("kinds, whatever the virtual", x, 0, "323222222221100");
        x = Due.of("task a batch share 2 work 3;task b batch share 1 work 3;task c idle share 1 work 2;task d idle share 2 work 2;");
        x.run(10);
        Due.dueRow("batch and idle by virtual", x, 0, "0100112332");
        x = Due.of("task a fair share 1 work 9;task s server every 3 budget 1 share 1 sleep 6 work 3;");
        x.run(12);
        Due.dueRow("a server's virtual is 0 at first", x, 0, "100000011100");
    }

    /** "Then each that was chosen pays .. (ENDED ones, too)" */
    private static void whoIsChosenPays() {
        FairWheel x = Due.of("cores 3;task a fair share 999 work 1;task b server every 9 budget 1 share 3 work 3;"
                + "task c deadline every 9 budget 9 share 3 work 1;task d idle share 1 work 9;");
        x.run(1);
        Due.dueTask("ended ones pay, too", x, 0, 4, 1, 0, 1, 1);
        Due.dueTask("by budget alone", x, 1, 0, 0, 2, 0, 0, 3, 0, 9);
        Due.dueTask("ended ones pay by budget, too", x, 2, 4, 1, 0, 0, 0, 3, 8, 9);
        Due.dueTask("who was not chosen pays nothing", x, 3, 0, 0, 9, 0, 0);
        x.run(1);
        Due.dueTask("a server without budget by virtual", x, 1, 0, 0, 1, 333, 1, 3, 0, 9);
        x = Due.of("task a fair share 999 work 99 work 99 work 99 work 99 work 99 work 99 work 99 work 99 work 99 work 99 work 99;");
        for (int i = 0; i < 5; i++) {
            x.run(199);
        }
        x.run(3);
        Due.due("virtual of 998", x.task(0, 3), 998);
        Due.due("rest of 998", x.task(0, 4), 998);
        x.run(1);
        Due.due("virtual of 999", x.task(0, 3), 1000);
        Due.due("rest of 999", x.task(0, 4), 0);
        x = Due.of("task a fair share 1 work 9;");
        x.run(2);
        Due.due("the least share", x.task(0, 3), 2000);
        Due.due("nothing is left", x.task(0, 4), 0);
        // who errs pays, too
        x = Due.of("task a fair share 8 lock 0;task b server every 5 budget 5 share 1 unlock 3;");
        x.run(2);
        Due.dueTask("erred", x, 0, 4, 0, 0, 125, 0, 8, 0, 0, 1);
        Due.dueTask("erred", x, 1, 4, 0, 0, 0, 0, 1, 4, 5, 1);
    }

    /** "Each READY TASK (as PROCESSORS choose) that is not chosen has WAITED a TICK more; LONGEST is the most it WAITED on end." */
    private static void waitedAndLongest() {
        FairWheel x = Due.of("task a fair share 1 work 9;task b fair share 1 work 9;task c fair share 1 work 9;task d idle share 1 sleep 1;");
        x.run(1);
        Due.due("chosen", x.task(0, 11), 0);
        Due.due("not chosen", x.task(1, 11), 1);
        Due.due("on end", x.task(1, 12), 1);
        x.run(7);
        Due.dueRow("in turn", x, 0, "01201201");
        int[] waited = {5, 5, 6, 8};
        int[] longest = {2, 2, 2, 8};
        for (int i = 0; i < 4; i++) {
            Due.due("waited", x.task(i, 11), waited[i]);
            Due.due("longest", x.task(i, 12), longest[i]);
        }
        x = Due.of("locks 1;bells 1;cores 2;task a fair share 1 lock 0 work 5;task b fair share 1 lock 0;task c fair share 1 wait 0;");
        x.run(4);
        Due.due("locked ones do not wait so", x.task(1, 11), 0);
        Due.due("belled ones do not wait so", x.task(2, 11), 1);
        x = Due.of("task a deadline every 5 budget 2 share 1 work 9;");
        x.run(9);
        Due.due("ready without budget", x.task(0, 11), 5);
        Due.due("on end", x.task(0, 12), 3);
        x.run(1);
        Due.due("ready without budget", x.task(0, 11), 6);
        Due.due("not on end", x.task(0, 12), 3);
    }

    /** "of all that are LOCKED for a lock that it holds, and of all that are for locks that these hold, and so on" */
    private static void placeThroughAChain() {
        StringBuilder text = new StringBuilder("locks 6;task a idle share 1 lock 0 work 50;");
        for (int i = 1; i <= 5; i++) {
            text.append("task ").append((char) ('a' + i)).append(" idle share 1 lock ").append(i).append(" lock ")
                    .append(i - 1).append(" work 9;");
        }
        text.append("task h deadline every 20 budget 9 share 1 sleep 11 lock 5 work 1;task n fair share 1 sleep 13 work 99;");
        FairWheel x = Due.of(text.toString());
        x.run(12);
        for (int i = 0; i <= 7; i++) {
            Due.due("its own", x.place(i), i);
        }
        x.run(6);
        for (int i = 1; i <= 5; i++) {
            Due.due("locked", x.task(i, 9), i - 1);
            Due.due("holds", x.holder(i), i);
        }
        Due.due("locked", x.task(6, 9), 5);
        for (int i = 0; i <= 6; i++) {
            Due.due("through all", x.place(i), 6);
        }
        Due.due("its own", x.place(7), 7);
        x.run(1);
        Due.due("ahead of the fair one", x.chosen(18, 0), 0);
        Due.due("cut in the middle", x.kill(3), true);
        Due.due("c is not lent to any more", x.place(2), 2);
        Due.due("e holds on", x.place(4), 6);
        Due.due("e has its lock", x.holder(3), 4);
        Due.due("e is ready", x.task(4, 0), 0);
        x.run(1);
        Due.due("the chain that is left", x.chosen(19, 0), 4);
        Due.due("two lend: the foremost", twoLend(), 3);
    }

    private static int twoLend() {
        FairWheel x = Due.of("cores 4;locks 2;task a idle share 1 lock 0 lock 1 work 9;task b batch share 1 work 2 lock 0;"
                + "task c fair share 1 work 2 lock 1;task d server every 20 budget 9 share 1 work 2 lock 1;");
        x.run(3);
        Due.due("b", x.waits(0), 2);
        Due.due("c and d", x.waits(1), 12);
        return x.place(0);
    }

    /** "One whose PLACE is that of a deadline TASK without BUDGET is not chosen." */
    private static void deadlineWithoutBudget() {
        FairWheel x = Due.of("task a deadline every 4 budget 1 share 1 work 9;");
        x.run(9);
        Due.dueRow("alone", x, 0, "0---0---0");
        x = Due.of("cores 2;locks 1;task a deadline every 20 budget 2 share 1 lock 0 work 2 unlock 0 work 9;"
                + "task b deadline every 20 budget 2 share 1 work 1 lock 0 work 9;task f fair share 1 sleep 5 lock 0 work 9;");
        x.run(6);
        Due.dueRow("both without budget", x, 0, "002---");
        Due.dueRow("both without budget", x, 1, "11----");
        Due.due("lent by one that has none either", x.place(0), 0);
        x.run(6);
        Due.dueRow("lent by a fair one", x, 0, "002-----2002");
        Due.due("it pays nothing", x.task(0, 3) + x.task(0, 6), 0);
        Due.due("then the fair one holds it, ahead of b", x.holder(0), 2);
        Due.due("b waits on", x.waits(0), 2);
    }

    /** "A lock that is let go is held by the foremost of those LOCKED for it ..; by nobody, if there is none." */
    private static void aLockIsLetGo() {
        String text = "cores 4;locks 1;task a fair share 1 lock 0 work 5 unlock 0 work 9;task b idle share 1 sleep 1 lock 0 work 9;"
                + "task c deadline every 20 budget 2 share 1 sleep 1 lock 0 work 9;task d batch share 1 sleep 1 lock 0 work 9;";
        FairWheel x = Due.of(text);
        x.run(6);
        Due.due("all wait", x.waits(0), 14);
        x.run(1);
        Due.due("batch is ahead of idle and of a deadline one without budget", x.holder(0), 3);
        Due.due("two wait", x.waits(0), 6);
        x.kill(3);
        Due.due("idle", x.holder(0), 1);
        x.kill(1);
        Due.due("the last one, if only it has no budget", x.holder(0), 2);
        Due.due("it is ready", x.task(2, 0), 0);
        Due.due("it has its own place", x.place(2), 2);
        x.kill(2);
        Due.due("nobody", x.holder(0), -1);
        x = Due.of(text.replace("budget 2", "budget 3"));
        x.run(7);
        Due.due("by deadline ahead of all", x.holder(0), 2);
        x = Due.of("cores 3;locks 1;task a fair share 1 lock 0 work 3;task b fair share 9 work 1 lock 0 work 9;"
                + "task c fair share 99 work 1 lock 0 work 9;");
        x.run(4);
        Due.due("by virtual", x.holder(0), 2);
        x = Due.of("cores 3;locks 1;task a fair share 1 lock 0 work 3;task b fair share 9 work 1 lock 0 work 9;"
                + "task c fair share 9 work 1 lock 0 work 9;");
        x.run(4);
        Due.due("like ones by number", x.holder(0), 1);
    }

    private static void error(String text, int runs, int error) {
        FairWheel x = Due.of(text);
        x.run(runs - 1);
        Due.due("not yet by " + text, x.task(0, 8), 0);
        Due.due("alive by " + text, x.about(5), 1);
        x.run(1);
        Due.dueTask("by " + text, x, 0, error == 0 ? x.task(0, 0) : 4);
        Due.due("error of " + text, x.task(0, 8), error);
        if (error > 0) {
            Due.due("at its op by " + text, x.task(0, 1), runs - 1);
            Due.due("none is alive by " + text, x.about(5), 0);
        }
    }

    /** "1 a lock or bell that there is not" */
    private static void locksAndBellsThatThereAreNot() {
        for (int locks = 0; locks <= 6; locks++) {
            String task = "locks " + locks + ";bells 4;task a fair share 1 ";
            error(task + "lock " + locks + ";", 1, 1);
            error(task + "unlock " + locks + ";", 1, 1);
            error(task + "lock 99;", 1, 1);
            error(task + "unlock 99;", 1, 1);
            if (locks > 0) {
                error(task + "lock " + (locks - 1) + " work 1;", 1, 0);
                error(task + "unlock " + (locks - 1) + ";", 1, 2);
            }
        }
        for (int bells = 0; bells <= 4; bells++) {
            String task = "locks 6;bells " + bells + ";task a fair share 1 ";
            error(task + "wait " + bells + ";", 1, 1);
            error(task + "ring " + bells + ";", 1, 1);
            error(task + "wait 99;", 1, 1);
            error(task + "ring 99;", 1, 1);
            if (bells > 0) {
                error(task + "wait " + (bells - 1) + ";", 1, 0);
                error(task + "ring " + (bells - 1) + " work 1;", 1, 0);
            }
        }
    }

    /** "2 unlock of one that it does not hold" */
    private static void unlockOfOneNotHeld() {
        error("locks 2;task a fair share 1 unlock 0;", 1, 2);
        error("locks 2;task a fair share 1 lock 0 unlock 1;", 2, 2);
        error("locks 2;task a fair share 1 lock 0 unlock 0 unlock 0;", 3, 2);
        error("locks 2;task a fair share 1 lock 1 unlock 1 work 1;", 2, 0);
        FairWheel x = Due.of("cores 2;locks 1;task a fair share 1 work 1 unlock 0;task b fair share 1 lock 0 work 9;");
        x.run(2);
        Due.due("one that another holds", x.task(0, 8), 2);
        Due.due("who holds it on", x.holder(0), 1);
    }

    /** "3 lock of one that it holds" */
    private static void lockOfOneHeld() {
        error("locks 1;task a fair share 1 lock 0 lock 0;", 2, 3);
        error("locks 1;task a fair share 1 lock 0 unlock 0 lock 0 work 1;", 3, 0);
        FairWheel x = Due.of("cores 2;locks 2;task a fair share 1 lock 0 lock 1 work 1 lock 0;task b fair share 1 work 1 lock 0 work 9;");
        x.run(4);
        Due.due("even if others wait for it", x.task(0, 8), 3);
        Due.due("no ring", x.ring(0, 0), -1);
        Due.due("b has it", x.holder(0), 1);
        Due.due("let go", x.holder(1), -1);
    }

    private static FairWheel ringOf(int size, int cores) {
        StringBuilder text = new StringBuilder("cores " + cores + ";locks 6;");
        for (int i = 0; i < size; i++) {
            text.append("task ").append((char) ('a' + i)).append(" fair share 1 lock ").append(i).append(" lock ")
                    .append((i + 1) % size).append(" work 9;");
        }
        FairWheel x = Due.of(text.toString());
        x.run(2 * size - 1);
        Due.due("all but one wait", x.task(0, 0) + x.task(size - 2, 0) + x.task(size - 1, 0), 2);
        Due.due("no ring yet", x.ring(size - 1, 0), -1);
        x.run(1);
        return x;
    }

    /** "4 a lock for which it would wait, if that is held by it through others that wait (a RING ..)" */
    private static void rings() {
        for (int size = 2; size <= 6; size++) {
            FairWheel x = ringOf(size, 1);
            Due.dueTask("the last one errs", x, size - 1, 4, 1, 0, 2000, 0, 1, 0, 0, 4, -1);
            Due.due("itself", x.ring(size - 1, 0), size - 1);
            for (int i = 1; i < size; i++) {
                Due.due("the holder of that lock, and so on", x.ring(size - 1, i), i - 1);
            }
            Due.due("each once", x.ring(size - 1, size), -1);
            Due.due("its lock goes on", x.holder(size - 1), size - 2);
            Due.due("who has no ring", x.ring(0, 0), -1);
        }
        // a chain that does not come back is none
        FairWheel x = Due.of("locks 3;cores 4;task a fair share 1 lock 0 work 9;task b fair share 1 lock 1 lock 0;"
                + "task c fair share 1 lock 2 work 1 lock 1;task d fair share 1 work 2 work 1 lock 2;");
        x.run(4);
        Due.due("b", x.task(1, 9), 0);
        Due.due("c", x.task(2, 9), 1);
        Due.due("d", x.task(3, 9), 2);
        Due.due("no error", x.task(1, 8) + x.task(2, 8) + x.task(3, 8), 0);
        // a ring that others wait for without being in it
        x = Due.of("locks 3;cores 4;task w fair share 1 work 1 lock 0;task a fair share 1 lock 0 lock 1;"
                + "task b fair share 1 lock 1 work 2 lock 0 work 5;");
        x.run(4);
        Due.due("b errs", x.task(2, 8), 4);
        Due.due("w is not in it", x.ring(2, 1), 1);
        Due.due("two", x.ring(2, 2), -1);
        Due.due("a had lock 1 and ended, w had lock 0 and ended", x.about(5), 0);
    }

    /** "Who ENDS lets go all locks that he holds, by number." */
    private static void whoEndsLetsGoAll() {
        String six = "cores 2;locks 6;task a fair share 1 lock 5 lock 4 lock 3 lock 2 lock 1 lock 0 ";
        for (String last : new String[] {"work 1", "lock 6", "lock 3", "unlock 9", "wait 0", "sleep 1"}) {
            FairWheel x = Due.of(six + last + ";task b fair share 1 work 2 lock 3 work 9;");
            x.run(6);
            for (int lock = 0; lock < 6; lock++) {
                Due.due("held", x.holder(lock), 0);
            }
            x.run(last.equals("sleep 1") ? 3 : 1);
            Due.due("ended by " + last, x.task(0, 0), 4);
            for (int lock = 0; lock < 6; lock++) {
                Due.due("let go by " + last, x.holder(lock), lock == 3 ? 1 : -1);
            }
        }
    }

    /** "So many TICKS (0 .. 200): the TICK then; NONE, doing nothing, for another number" */
    private static void run() {
        for (int ticks : new int[] {-1, 201, 202, 2000, 2001, -200, Integer.MIN_VALUE, Integer.MAX_VALUE}) {
            Look.refused("run " + ticks, -1, x -> x.run(ticks));
        }
        Look.refused("run 0", 7, x -> x.run(0));
        FairWheel x = Look.busy();
        FairWheel twin = Look.busy();
        Due.due("200 at once", x.run(200), 207);
        for (int i = 0; i < 200; i++) {
            twin.run(1);
        }
        Due.due("200 one by one", twin.about(4), 207);
        for (int task = 0; task < 6; task++) {
            for (int what = 0; what <= 12; what++) {
                Due.due("the same", x.task(task, what), twin.task(task, what));
            }
        }
    }

    /** "or beyond 2,000" */
    private static void runBeyond2000() {
        FairWheel x = Due.of("task a fair share 1 work 99 sleep 99 work 99;task b idle share 1 sleep 99 sleep 99 work 9;");
        for (int i = 1; i <= 9; i++) {
            x.run(200);
        }
        Due.due("1801", x.run(1), 1801);
        Due.due("2001", x.run(200), -1);
        Due.due("nothing was done", x.about(4), 1801);
        Due.due("2000", x.run(199), 2000);
        Due.due("none", x.run(0), 2000);
        for (int ticks : new int[] {1, 2, 200, 201, -1, Integer.MAX_VALUE}) {
            Due.due("beyond", x.run(ticks), -1);
        }
        Due.due("nothing was done", x.about(4), 2000);
        Due.due("the last row", x.chosen(1999, 0), -1);
        Due.due("no row behind it", x.chosen(2000, 0), -1);
        x = Due.of("task a server every 20 budget 2 share 3 work 9 wait 0;bells 1;");
        for (int i = 0; i < 10; i++) {
            x.run(200);
        }
        Due.due("the last refill", x.task(0, 7), 2000);
        x.wake(0);
        Due.due("ended", x.about(5), 0);
    }

    /** "Whom a PROCESSOR chose in a TICK that was; NONE if none, or one can't be." */
    private static void chosen() {
        FairWheel x = Look.busy();
        Due.due("the first tick", x.chosen(0, 0), 1);
        Due.due("the last tick", x.chosen(6, 0), 0);
        Due.due("its last processor", x.chosen(6, 1), 4);
        for (int tick : new int[] {-1, 7, 8, 1999, 2000, Integer.MIN_VALUE, Integer.MAX_VALUE}) {
            Due.due("tick " + tick, x.chosen(tick, 0), -1);
        }
        for (int processor : new int[] {-1, 2, 3, 4, 5, 8, 32, Integer.MIN_VALUE, Integer.MAX_VALUE}) {
            Due.due("processor " + processor, x.chosen(6, processor), -1);
        }
        x.back(1);
        Due.due("the last tick then", x.chosen(2, 0), 3);
        Due.due("not yet again", x.chosen(3, 0), -1);
        StringBuilder ten = new StringBuilder("cores 4;");
        for (int i = 0; i < 10; i++) {
            ten.append("task ").append((char) ('a' + i)).append(i == 9 ? " fair" : " idle").append(" share 1 work 99;");
        }
        x = Due.of(ten.toString());
        x.run(1);
        Due.due("the last task", x.chosen(0, 0), 9);
        Due.due("the last processor", x.chosen(0, 3), 2);
    }

    /** "(0 on; how many it has if none is)", "(0 of another OP)", "(0, 0 of other kinds, and ahead of the first TICK)", "(NONE)", "-2 if there is none such, or for another what" */
    private static void taskAnswers() {
        FairWheel x = Look.busy();
        for (int task : NO_TASKS) {
            for (int what = -1; what <= 13; what++) {
                Due.due("task " + task, x.task(task, what), -2);
            }
        }
        for (int what : new int[] {-1, -2, 13, 14, Integer.MIN_VALUE, Integer.MAX_VALUE}) {
            for (int task = 0; task < 6; task++) {
                Due.due("what " + what, x.task(task, what), -2);
            }
        }
        Due.dueTask("ready", x, 0, 0, 1, 35, 3000, 0, 2, 0, 0, 0, -1, 0, 1, 1, -2);
        Due.dueTask("locked", x, 1, 1, 2, 0, 0, 0, 1, 1, 8, 0, 0, 0, 2, 2, -2);
        Due.dueTask("belled", x, 2, 2, 0, 0, 0, 0, 3, 1, 10, 0, 0, 0, 0, 0, -2);
        Due.dueTask("asleep", x, 3, 3, 0, 0, 142, 6, 7, 0, 0, 0, 33, 0, 2, 2, -2);
        Due.dueTask("ended", x, 5, 4, 0, 0, 0, 0, 1, 0, 0, 0, -1, 0, 0, 0, -2);
        x = Due.of(Look.BUSY);
        for (int task = 0; task < 6; task++) {
            Due.due("no budget ahead of the first tick", x.task(task, 6), 0);
            Due.due("no deadline ahead of the first tick", x.task(task, 7), 0);
        }
        x.run(1);
        Due.due("budget then", x.task(1, 6) + x.task(2, 6), 1);
        Due.due("deadline then", x.task(1, 7) + x.task(2, 7), 9);
    }

    /** "Whose OWN PLACE a TASK's PLACE is; NONE if there is none such, or it ENDED." */
    private static void place() {
        FairWheel x = Look.busy();
        for (int task : NO_TASKS) {
            Due.due("place of " + task, x.place(task), -1);
        }
        Due.due("lent by who is locked", x.place(0), 1);
        Due.due("its own", x.place(1), 1);
        Due.due("belled", x.place(2), 2);
        Due.due("asleep", x.place(3), 3);
        Due.due("ended", x.place(5), -1);
        x.kill(1);
        Due.due("none lends any more", x.place(0), 0);
        Due.due("ended", x.place(1), -1);
    }

    /** "NONE if nobody does, or there is none such", "as bits; NONE if there is none such" */
    private static void holderAndWaits() {
        FairWheel x = Look.busy();
        for (int lock : new int[] {-1, 2, 3, 5, 6, 31, 32, Integer.MIN_VALUE, Integer.MAX_VALUE}) {
            Due.due("holder of " + lock, x.holder(lock), -1);
            Due.due("waits of " + lock, x.waits(lock), -1);
        }
        Due.due("a holder", x.holder(0), 0);
        Due.due("a holder", x.holder(1), 1);
        Due.due("one waits", x.waits(0), 2);
        Due.due("none waits", x.waits(1), 0);
        StringBuilder text = new StringBuilder("locks 6;cores 4;");
        for (int i = 0; i < 10; i++) {
            text.append("task ").append((char) ('a' + i)).append(" fair share 1 lock 5 work 99;");
        }
        x = Due.of(text.toString());
        Due.due("nobody", x.holder(5), -1);
        Due.due("none waits", x.waits(5), 0);
        x.run(4);
        Due.due("the first", x.holder(5), 0);
        Due.due("all the others", x.waits(5), 1022);
        Due.due("another lock", x.waits(4), 0);
        x = Due.of("task a fair share 1 work 1;");
        Due.due("without locks", x.holder(0) + x.waits(0), -2);
    }

    /** "(0: itself; each once); NONE if there is none such" */
    private static void ringAnswers() {
        FairWheel x = ringOf(3, 1);
        for (int i : new int[] {-1, 3, 4, 9, 10, 11, Integer.MIN_VALUE, Integer.MAX_VALUE}) {
            Due.due("ring " + i, x.ring(2, i), -1);
        }
        for (int task : new int[] {-1, 3, 9, 10, Integer.MIN_VALUE, Integer.MAX_VALUE}) {
            Due.due("ring of " + task, x.ring(task, 0), -1);
        }
        Due.due("one that goes on", x.ring(0, 0), -1);
        x.kill(0);
        Due.due("one that was ended", x.ring(0, 0), -1);
        Due.due("the ring stays", x.ring(2, 1), 0);
        x = Due.of("locks 1;task a fair share 1 lock 0 lock 0;task b fair share 1 lock 9;");
        x.run(4);
        Due.due("other errors have none", x.ring(0, 0) + x.ring(1, 0), -2);
    }

    /** "(1 .. 999): what it was; NONE, doing nothing, if one can't be, or the TASK ENDED" */
    private static void share() {
        for (int share : new int[] {0, -1, 1000, 1001, Integer.MIN_VALUE, Integer.MAX_VALUE}) {
            Look.refused("share " + share, -1, x -> x.share(0, share));
        }
        for (int task : NO_TASKS) {
            Look.refused("share of " + task, -1, x -> x.share(task, 5));
        }
        Look.refused("share of one that ended", -1, x -> x.share(5, 5));
        Look.refused("the same share", 2, x -> x.share(0, 2));
        FairWheel x = Look.busy();
        Due.due("the least", x.share(3, 1), 7);
        Due.due("the most", x.share(3, 999), 1);
        Due.due("it is so", x.task(3, 5), 999);
        Due.due("virtual stays", x.task(3, 3), 142);
        Due.due("rest stays", x.task(3, 4), 6);
        for (int task = 0; task < 5; task++) {
            Due.due("of any that has not ended", x.share(task, 10), task == 3 ? 999 : task == 0 ? 2 : task == 1 ? 1 : task == 2 ? 3 : 4);
        }
        x.run(1);
        Due.due("from the next tick on", x.task(0, 3), 3100);
        // a rest above the new share is paid with the next tick
        x = Due.of("task a fair share 999 work 9;");
        x.run(5);
        Due.due("rest", x.task(0, 4), 5);
        x.share(0, 2);
        x.run(1);
        Due.due("virtual", x.task(0, 3), 5 + 502);
        Due.due("rest", x.task(0, 4), 1);
    }

    /** "A TASK is ENDED (its ERROR stays 0): true; false if it is, or there is none such." */
    private static void kill() {
        for (int task : NO_TASKS) {
            Look.refused("kill " + task, true, x -> x.kill(task) ? 1 : 0);
        }
        Look.refused("kill one that ended", true, x -> x.kill(5) ? 1 : 0);
        for (int task = 0; task < 5; task++) {
            FairWheel x = Look.busy();
            int op = x.task(task, 1);
            Due.due("kill " + task, x.kill(task), true);
            Due.due("ended", x.task(task, 0), 4);
            Due.due("no error", x.task(task, 8), 0);
            Due.due("its op stays", x.task(task, 1), op);
            Due.due("waits for nothing", x.task(task, 9), -1);
            Due.due("four are left", x.about(5), 4);
            Due.due("not again", x.kill(task), false);
            Due.due("no wake", x.wake(task), false);
            x.run(200);
            Due.due("it stays ended", x.task(task, 0), 4);
            Due.due("it was not chosen again", x.task(task, 1), op);
        }
        FairWheel x = Look.busy();
        x.kill(0);
        Due.due("its lock goes on", x.holder(0), 1);
        Due.due("who had it is ready", x.task(1, 0), 0);
        x.kill(1);
        Due.due("nobody's", x.holder(0) + x.holder(1), -2);
        x.kill(2);
        x.kill(3);
        x.kill(4);
        Due.due("none is left", x.about(5), 0);
        Due.due("it runs on", x.run(1), 8);
        Due.due("none is chosen", x.chosen(7, 0), -1);
    }

    /** "A TASK is WOKEN: true; false if it does not SLEEP and is not BELLED, or there is none such." */
    private static void wake() {
        for (int task : NO_TASKS) {
            Look.refused("wake " + task, true, x -> x.wake(task) ? 1 : 0);
        }
        Look.refused("wake one that is ready", true, x -> x.wake(0) ? 1 : 0);
        Look.refused("wake one that is locked", true, x -> x.wake(1) ? 1 : 0);
        Look.refused("wake one that is ready", true, x -> x.wake(4) ? 1 : 0);
        Look.refused("wake one that ended", true, x -> x.wake(5) ? 1 : 0);
        FairWheel x = Look.busy();
        Due.due("belled", x.wake(2), true);
        Due.dueTask("its wait is done", x, 2, 0, 1, 2, 0, 0, 3, 1, 10, 0, -1);
        Due.due("asleep", x.wake(3), true);
        Due.dueTask("its sleep is done", x, 3, 0, 1, 3, 142, 6, 7, 0, 0, 0, -1);
        Due.due("not again", x.wake(2) || x.wake(3), false);
        x.run(30);
        Due.due("not woken once more in its tick", x.task(3, 1), 2);
        // the last op: it ends, and its lock goes on
        x = Due.of("cores 2;locks 1;task a fair share 1 lock 0 sleep 9;task b fair share 1 work 1 lock 0 work 1;");
        x.run(2);
        Due.due("b waits", x.waits(0), 2);
        Due.due("woken", x.wake(0), true);
        Due.due("ended", x.task(0, 0), 4);
        Due.due("b has it", x.holder(0), 1);
    }

    /** Ten tasks and six locks, the first and the last of each: none is beyond them. */
    private static void aFullHouse() {
        StringBuilder text = new StringBuilder("cores 4;locks 6;bells 4;task a fair share 1 work 1 lock 5 work 9;");
        for (int i = 1; i < 9; i++) {
            text.append("task ").append((char) ('a' + i)).append(" idle share 1 wait 3;");
        }
        FairWheel x = Due.of(text + "task z batch share 1 lock 5 lock 0 work 9;");
        x.run(3);
        Due.due("the last task holds the last lock", x.holder(5), 9);
        Due.due("the first waits", x.waits(5), 1);
        Due.due("the first lends to the last", x.place(9), 0);
        Due.due("the first lock", x.holder(0), 9);
        for (int lock : new int[] {-1, 6, 7}) {
            Due.due("no lock", x.holder(lock), -1);
            Due.due("no lock", x.waits(lock), -1);
        }
        for (int task : new int[] {-1, 10, 11}) {
            Due.due("no task", x.task(task, 0), -2);
            Due.due("no place", x.place(task), -1);
            Due.due("no ring", x.ring(task, 0), -1);
            Due.due("no share", x.share(task, 1), -1);
            Due.due("no kill", x.kill(task), false);
            Due.due("no wake", x.wake(task), false);
            Due.due("no soon", x.soon(task), -1);
            Due.due("no enough", x.enough(task, 9), -1);
            Due.due("no sight", x.sight(0, task, true), -1);
            Due.due("no fit", x.fits(task, 0), -1);
        }
        Due.due("the last is alive", x.soon(9), 1);
        Due.due("the last is alive", x.enough(9, 9), 1);
        Due.due("the last has a share", x.share(9, 5), 1);
        Due.due("the last is seen", x.sight(0, 9, true), 0);
        Due.due("the last fits", x.fits(9, 0), (1L << 41) - 2);
        Due.due("the last is ended", x.kill(9), true);
        Due.due("the first has its lock", x.holder(5), 0);
        Due.due("the first is ended", x.kill(0), true);
        Due.due("nobody's", x.holder(5), -1);
        // a ring of the first with the last
        text = new StringBuilder("locks 6;task a idle share 1 lock 5 lock 0;");
        for (int i = 1; i < 9; i++) {
            text.append("task ").append((char) ('a' + i)).append(" fair share 1;");
        }
        x = Due.of(text + "task z fair share 1 lock 0 sleep 1 lock 5;");
        x.run(4);
        Due.due("the last waits", x.waits(5), 512);
        Due.due("the first has its place", x.place(0), 9);
        x.run(1);
        Due.due("the first errs", x.task(0, 8), 4);
        Due.due("itself", x.ring(0, 0), 0);
        Due.due("the last", x.ring(0, 1), 9);
        Due.due("each once", x.ring(0, 2), -1);
    }
}
