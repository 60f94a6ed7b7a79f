/** Promises 6 to 15: ticks, choices, tasks, places, locks, errors, rings and acts. */
public final class WheelTest {
    public static void main(String[] args) {
        run();
        chosen();
        kinds();
        budgets();
        missed();
        restAndShare();
        lentThroughAChain();
        lentToOneWithoutBudget();
        heirs();
        endsAtOnce();
        errors();
        ringOfThree();
        bells();
        sleepers();
        kill();
        wake();
        whatIsNot();
        Due.finish("WheelTest");
    }

    private static void run() {
        FairWheel x = Due.of("task a fair share 1 work 99;");
        Due.due("run 0", x.run(0), 0);
        Due.due("run below 0", x.run(-1), -1);
        Due.due("run 201", x.run(201), -1);
        Due.due("run most", x.run(Integer.MAX_VALUE), -1);
        Due.due("run least", x.run(Integer.MIN_VALUE), -1);
        Due.due("nothing was done", x.about(4), 0);
        for (int i = 1; i < 10; i++) {
            Due.due("run 200", x.run(200), 200 * i);
        }
        Due.due("run 199", x.run(199), 1999);
        Due.due("beyond", x.run(2), -1);
        Due.due("nothing was done", x.about(4), 1999);
        Due.due("the last", x.run(1), 2000);
        Due.due("beyond", x.run(1), -1);
        Due.due("none", x.run(0), 2000);
        Due.due("the last row", x.chosen(1999, 0), -1);
        Due.due("beyond rows", x.chosen(2000, 0), -1);
        Due.due("its work", x.chosen(98, 0), 0);
        Due.due("behind its work", x.chosen(99, 0), -1);
    }

    private static void chosen() {
        FairWheel x = Due.of("cores 2;task a fair share 1 work 9;");
        x.run(2);
        Due.due("chosen", x.chosen(1, 0), 0);
        Due.due("none is left", x.chosen(1, 1), -1);
        Due.due("no such processor", x.chosen(1, 2), -1);
        Due.due("no such processor", x.chosen(1, -1), -1);
        Due.due("a tick that was not", x.chosen(2, 0), -1);
        Due.due("a tick that can't be", x.chosen(-1, 0), -1);
        Due.due("a tick that can't be", x.chosen(Integer.MAX_VALUE, 0), -1);
    }

    private static void kinds() {
        String tasks = "task i idle share 9 work 2;task b batch share 1 work 2;task f fair share 1 work 2;";
        FairWheel x = Due.of(tasks);
        x.run(7);
        Due.dueRow("by kinds", x, 0, "221100-");
        x = Due.of("cores 2;" + tasks);
        x.run(4);
        Due.dueRow("first of two", x, 0, "2200");
        Due.dueRow("second of two", x, 1, "11--");
        x = Due.of("task a fair share 2 work 3;task b fair share 1 work 3;");
        x.run(6);
        Due.dueRow("by virtual time", x, 0, "010011");
    }

    private static void budgets() {
        FairWheel x = Due.of("task d deadline every 4 budget 2 share 1 work 5;"
                + "task s server every 5 budget 1 share 2 work 6;task f fair share 1 work 9;");
        Due.dueTask("ahead of all", x, 0, 0, 0, 5, 0, 0, 1, 0, 0, 0, -1, 0, 0, 0, -2);
        Due.dueTask("ahead of all", x, 1, 0, 0, 6, 0, 0, 2, 0, 0, 0, -1, 0, 0, 0, -2);
        x.run(13);
        Due.dueRow("budgets", x, 0, "0011001201112");
        Due.dueTask("budgets", x, 0, 4, 1, 0, 0, 0, 1, 1, 12, 0, -1, 0, 4, 2, -2);
        Due.dueTask("budgets", x, 1, 4, 1, 0, 1500, 0, 2, 0, 15, 0, -1, 0, 6, 2, -2);
        Due.dueTask("budgets", x, 2, 0, 0, 7, 2000, 0, 1, 0, 0, 0, -1, 0, 11, 7, -2);
    }

    private static void missed() {
        FairWheel x = Due.of("task a deadline every 2 budget 2 share 1 work 9;"
                + "task b deadline every 3 budget 3 share 1 work 9;");
        x.run(4);
        Due.dueTask("missed", x, 0, 0, 0, 6, 0, 0, 1, 1, 4, 0, -1, 0);
        Due.dueTask("missed", x, 1, 0, 0, 8, 0, 0, 1, 3, 6, 0, -1, 1);
        x.run(8);
        Due.dueRow("missed", x, 0, "001000001001");
        Due.due("a missed", x.task(0, 10), 2);
        Due.due("b missed", x.task(1, 10), 3);
        // one that sleeps as its budget is refilled has not missed
        x = Due.of("task a deadline every 2 budget 2 share 1 sleep 1 work 9;");
        x.run(3);
        Due.due("slept", x.task(0, 10), 0);
        Due.due("paid once", x.task(0, 6), 1);
        Due.due("its deadline", x.task(0, 7), 4);
    }

    private static void restAndShare() {
        FairWheel x = Due.of("task a fair share 3 work 99;");
        x.run(1);
        Due.due("virtual", x.task(0, 3), 333);
        Due.due("rest", x.task(0, 4), 1);
        x.run(2);
        Due.due("virtual", x.task(0, 3), 1000);
        Due.due("rest", x.task(0, 4), 0);
        Due.due("share", x.share(0, 7), 3);
        Due.due("virtual stays", x.task(0, 3), 1000);
        x.run(1);
        Due.due("virtual", x.task(0, 3), 1142);
        Due.due("rest", x.task(0, 4), 6);
        Due.due("share", x.share(0, 1), 7);
        Due.due("rest stays", x.task(0, 4), 6);
        x.run(1);
        Due.due("virtual", x.task(0, 3), 2148);
        Due.due("rest", x.task(0, 4), 0);
        Due.due("share 0", x.share(0, 0), -1);
        Due.due("share 1000", x.share(0, 1000), -1);
        Due.due("share of none", x.share(1, 5), -1);
        Due.due("share of none", x.share(-1, 5), -1);
        Due.due("share stays", x.task(0, 5), 1);
        Due.due("share 999", x.share(0, 999), 1);
        Due.due("share now", x.task(0, 5), 999);
        x.kill(0);
        Due.due("share of one that ended", x.share(0, 5), -1);
        Due.due("share stays", x.task(0, 5), 999);
    }

    private static void lentThroughAChain() {
        FairWheel x = Due.of("locks 2;task low idle share 1 lock 0 work 3 unlock 0;"
                + "task mid batch share 1 sleep 1 lock 1 lock 0 work 1;task high fair share 1 sleep 4 lock 1 work 1;"
                + "task noise fair share 1 sleep 6 work 9;");
        x.run(5);
        Due.due("its own", x.place(1), 1);
        Due.due("one that sleeps has a place", x.place(2), 2);
        x.run(2);
        Due.due("lent to the one", x.place(1), 2);
        Due.due("lent on", x.place(0), 2);
        Due.due("its own", x.place(2), 2);
        Due.due("waits", x.waits(0), 2);
        Due.due("waits", x.waits(1), 4);
        Due.due("holder", x.holder(0), 0);
        Due.due("holder", x.holder(1), 1);
        Due.due("its lock", x.task(1, 9), 0);
        Due.due("its phase", x.task(1, 0), 1);
        Due.due("its op", x.task(1, 1), 2);
        x.run(8);
        Due.dueRow("chain", x, 0, "231012103000123");
        Due.dueTask("chain", x, 0, 4, 3, 0, 5000, 0, 1);
        Due.dueTask("chain", x, 1, 4, 4, 0, 4000, 0, 1);
        Due.dueTask("chain", x, 2, 4, 3, 0, 3000, 0, 1);
        Due.due("none ended has a place", x.place(2), -1);
        Due.due("holder", x.holder(0), -1);
        Due.due("holder", x.holder(1), -1);
    }

    private static void lentToOneWithoutBudget() {
        FairWheel x = Due.of("locks 1;task d deadline every 10 budget 2 share 1 lock 0 work 3 unlock 0;"
                + "task f fair share 1 sleep 3 lock 0;");
        x.run(7);
        Due.due("lent", x.place(0), 1);
        x.run(3);
        Due.dueRow("lent", x, 0, "001---1000");
        Due.dueTask("lent", x, 0, 4, 3, 0, 0, 0, 1, 0, 10, 0, -1, 0, 5, 5);
        Due.due("both ended", x.about(5), 0);
        Due.due("nobody holds it", x.holder(0), -1);
    }

    /** A lock goes on by places as they are then: h lends its own to b in the very tick in which a lets go. */
    private static void heirs() {
        String others = "task c fair share 1 work 1 lock 0 work 1;task b batch share 1 lock 1 lock 0 work 1;"
                + "task h deadline every 20 budget 19 share 1 work 5 lock 1 work 1;";
        String[] firsts = {"task a fair share 1 lock 0 work 4 unlock 0 work 9;", "task a fair share 1 lock 0 work 5;"};
        for (String first : firsts) {
            FairWheel x = Due.of("cores 4;locks 2;" + first + others);
            x.run(5);
            Due.due("c and b wait", x.waits(0), 6);
            Due.due("b has its own place", x.place(2), 2);
            x.run(1);
            Due.due("h waits", x.waits(1), 8);
            Due.due("b is ahead by h", x.holder(0), 2);
            Due.due("c waits on", x.waits(0), 2);
            Due.due("b has h's place", x.place(2), 3);
        }
    }

    private static void endsAtOnce() {
        FairWheel x = Due.of("cores 4;locks 3;task a fair share 1 lock 0 lock 1 sleep 99;"
                + "task b fair share 1 lock 2 work 2 lock 0;task c fair share 1 sleep 1 work 2 lock 2;"
                + "task d fair share 1 work 4 lock 0 work 1;");
        x.run(5);
        Due.dueRow("first", x, 0, "00222");
        Due.dueRow("second", x, 1, "11013");
        Due.due("waits", x.waits(0), 10);
        Due.due("waits", x.waits(1), 0);
        Due.due("waits", x.waits(2), 4);
        Due.due("place", x.place(0), 0);
        Due.due("place", x.place(1), 1);
        Due.due("kill", x.kill(0), true);
        Due.dueTask("killed", x, 0, 4, 2, 0, 3000, 0, 1, 0, 0, 0, -1);
        Due.dueTask("had it as its last", x, 1, 4, 3, 0, 4000, 0, 1, 0, 0, 0, -1);
        Due.dueTask("had it by that", x, 2, 4, 3, 0, 4000, 0, 1, 0, 0, 0, -1);
        Due.dueTask("holds it now", x, 3, 0, 2, 1, 5000, 0, 1, 0, 0, 0, -1);
        Due.due("holder", x.holder(0), 3);
        Due.due("holder", x.holder(1), -1);
        Due.due("holder", x.holder(2), -1);
        Due.due("left", x.about(5), 1);
    }

    private static void error(String text, int error, int op) {
        FairWheel x = Due.of(text);
        x.run(9);
        Due.due("phase by " + text, x.task(0, 0), 4);
        Due.due("error of " + text, x.task(0, 8), error);
        Due.due("op of " + text, x.task(0, 1), op);
        Due.due("waits for by " + text, x.task(0, 9), -1);
        Due.due("paid by " + text, x.task(0, 3), 1000 * (op + 1));
        Due.due("holder by " + text, x.holder(0), -1);
        Due.due("no ring by " + text, x.ring(0, 0), -1);
    }

    private static void errors() {
        error("task a fair share 1 lock 0 work 1;", 1, 0);
        error("locks 1;task a fair share 1 lock 0 lock 1;", 1, 1);
        error("locks 6;task a fair share 1 work 1 lock 6 work 1;", 1, 1);
        error("task a fair share 1 unlock 0;", 1, 0);
        error("locks 1;task a fair share 1 lock 0 unlock 1;", 1, 1);
        error("task a fair share 1 wait 0;", 1, 0);
        error("bells 4;task a fair share 1 wait 4;", 1, 0);
        error("bells 1;task a fair share 1 ring 0 ring 1;", 1, 1);
        error("locks 1;task a fair share 1 unlock 0;", 2, 0);
        error("locks 1;task a fair share 1 lock 0 unlock 0 unlock 0;", 2, 2);
        error("locks 1;task a fair share 1 lock 0 lock 0;", 3, 1);
        FairWheel x = Due.of("cores 2;locks 1;task a fair share 1 lock 0 work 9;task b fair share 1 work 1 unlock 0;");
        x.run(2);
        Due.due("held by another", x.task(1, 8), 2);
        Due.due("still held", x.holder(0), 0);
        Due.due("no error yet", x.task(0, 8), 0);
    }

    private static void ringOfThree() {
        FairWheel x = Due.of("cores 3;locks 3;task a fair share 1 lock 0 lock 1;task b fair share 1 lock 1 lock 2;"
                + "task c fair share 1 lock 2 lock 0;");
        x.run(2);
        Due.due("error", x.task(2, 8), 4);
        Due.due("at its op", x.task(2, 1), 1);
        int[] want = {2, 0, 1, -1};
        for (int i = 0; i < want.length; i++) {
            Due.due("ring " + i, x.ring(2, i), want[i]);
        }
        Due.due("ring below 0", x.ring(2, -1), -1);
        Due.due("ring of one without", x.ring(0, 0), -1);
        Due.due("ring of none", x.ring(3, 0), -1);
        Due.due("ring of none", x.ring(-1, 0), -1);
        Due.due("b had it, and ended", x.task(1, 1), 2);
        Due.due("a had it, and ended", x.task(0, 1), 2);
        Due.due("a has no error", x.task(0, 8), 0);
        Due.due("all ended", x.about(5), 0);
        Due.due("all paid", x.task(2, 3), 2000);
        for (int i = 0; i < 3; i++) {
            Due.due("holder", x.holder(i), -1);
        }
    }

    private static void bells() {
        FairWheel x = Due.of("cores 2;bells 2;task w fair share 1 wait 0 work 1;task r fair share 1 ring 0;");
        x.run(1);
        Due.due("woken in the same tick", x.task(0, 0), 0);
        Due.due("its wait is done", x.task(0, 1), 1);
        x = Due.of("cores 2;bells 2;task r fair share 1 ring 0 ring 1;task w fair share 1 wait 0 work 1;"
                + "task v fair share 1 wait 0;task u fair share 1 wait 1;");
        x.run(1);
        Due.due("rung too soon", x.task(1, 0), 2);
        Due.due("its bell", x.task(1, 9), 0);
        x.run(4);
        Due.due("v waits on", x.task(2, 0), 2);
        Due.due("u was rung for, its last op done", x.task(3, 0), 4);
        Due.dueRow("bells", x, 0, "020--");
        Due.dueRow("bells", x, 1, "13---");
        x = Due.of("cores 3;bells 2;task r fair share 1 work 2 ring 1;task w fair share 1 wait 0;"
                + "task v fair share 1 wait 1;task u fair share 1 wait 1 work 5;");
        x.run(3);
        Due.due("another bell", x.task(1, 0), 2);
        Due.due("its last op", x.task(2, 0), 4);
        Due.due("woken", x.task(3, 0), 0);
        Due.due("ended", x.task(0, 0), 4);
        Due.due("none waited for long", x.task(3, 12), 1);
    }

    private static void sleepers() {
        FairWheel x = Due.of("task a fair share 1 sleep 1 work 1;");
        x.run(1);
        Due.dueTask("sleeps", x, 0, 3, 0, 0, 1000, 0, 1, 0, 0, 0, 2);
        x.run(2);
        Due.dueRow("sleeps", x, 0, "0-0");
        // a sleeper's end lets go its lock ahead of the choice
        x = Due.of("cores 2;locks 1;task a fair share 1 lock 0 sleep 2;task b fair share 1 work 1 lock 0 work 1;");
        x.run(3);
        Due.due("locked", x.task(1, 0), 1);
        x.run(2);
        Due.dueRow("sleeper's lock", x, 0, "00--1");
        Due.dueRow("sleeper's lock", x, 1, "11---");
        Due.due("all ended", x.about(5), 0);
    }

    private static void kill() {
        FairWheel x = Due.of("locks 1;task a fair share 1 lock 0 work 9;task b fair share 1 lock 0 work 9;"
                + "task c batch share 1 lock 0;");
        x.run(4);
        Due.due("b waits", x.waits(0), 2);
        Due.due("kill none", x.kill(3), false);
        Due.due("kill none", x.kill(-1), false);
        Due.due("kill one that waits", x.kill(1), true);
        Due.due("nobody waits", x.waits(0), 0);
        Due.due("op at hand stays", x.task(1, 1), 0);
        Due.due("waits for none", x.task(1, 9), -1);
        Due.due("again", x.kill(1), false);
        Due.due("work is left", x.task(0, 2), 7);
        Due.due("kill the holder", x.kill(0), true);
        Due.due("error", x.task(0, 8), 0);
        Due.due("work stays", x.task(0, 2), 7);
        Due.due("nobody holds it", x.holder(0), -1);
        x.run(1);
        Due.due("c had it and ended", x.task(2, 0), 4);
    }

    private static void wake() {
        FairWheel x = Due.of("cores 4;bells 1;locks 1;task a fair share 1 sleep 9 work 1;task b fair share 1 wait 0;"
                + "task c fair share 1 lock 0 work 9;task d fair share 1 lock 0;");
        x.run(1);
        Due.due("sleeper", x.wake(0), true);
        Due.dueTask("woken", x, 0, 0, 1, 1);
        Due.due("not again", x.wake(0), false);
        Due.due("belled", x.wake(1), true);
        Due.due("its last op", x.task(1, 0), 4);
        Due.due("ended", x.wake(1), false);
        Due.due("ready", x.wake(2), false);
        Due.due("locked", x.task(3, 0), 1);
        Due.due("locked", x.wake(3), false);
        Due.due("none", x.wake(4), false);
        Due.due("none", x.wake(-1), false);
        x.run(1);
        Due.due("it ran", x.task(0, 0), 4);
    }

    private static void whatIsNot() {
        FairWheel x = Due.of("locks 2;task a fair share 1 work 1;");
        Due.due("task", x.task(1, 0), -2);
        Due.due("task", x.task(-1, 0), -2);
        Due.due("what", x.task(0, 13), -2);
        Due.due("what", x.task(0, -1), -2);
        Due.due("place", x.place(1), -1);
        Due.due("place", x.place(-1), -1);
        Due.due("holder", x.holder(2), -1);
        Due.due("holder", x.holder(-1), -1);
        Due.due("waits", x.waits(2), -1);
        Due.due("waits", x.waits(-1), -1);
        Due.due("waits", x.waits(1), 0);
        Due.due("NONE", FairWheel.NONE, -1);
    }
}
