/** Promises 16 to 29: what is asked, told, seen, kept and gone back to. */
public final class AskTest {
    public static void main(String[] args) {
        soon();
        soonAtItsLimit();
        soonByLocks();
        load();
        risk();
        enough();
        choices();
        sights();
        time();
        fits();
        fitsInTwoTimes();
        images();
        about();
        Due.finish("AskTest");
    }

    private static void soon() {
        FairWheel x = Due.of("task a fair share 1 work 1;task b fair share 3 work 9;task c batch share 1 work 9;");
        Due.due("soon", x.soon(0), 1);
        Due.due("soon", x.soon(1), 2);
        Due.due("work without end", x.soon(2), -1);
        Due.due("none", x.soon(3), -1);
        Due.due("none", x.soon(-1), -1);
        x = Due.of("cores 2;task a fair share 1 work 9;task b fair share 3 work 9;task c batch share 1 sleep 9 work 9;");
        Due.due("soon", x.soon(2), -1);
        x.kill(0);
        Due.due("soon", x.soon(2), 1);
        x.run(1);
        Due.due("asleep", x.soon(2), -1);
        Due.due("ended", x.soon(0), -1);
        x = Due.of("task a fair share 1 work 9;task b fair share 3 work 9;");
        x.run(1);
        Due.due("soon", x.soon(1), 1);
        Due.due("soon", x.soon(0), 4);
        Due.due("nothing was done", x.about(4), 1);
        Due.due("nothing was done", x.task(1, 3), 0);
        Due.due("nothing was done", x.task(1, 11), 1);
        x = Due.of("task d deadline every 5 budget 1 share 1 work 9;task f fair share 1 work 9;");
        Due.due("budget is refilled", x.soon(0), 1);
        x.run(1);
        Due.due("budget is refilled", x.soon(0), 5);
        x.run(2);
        Due.due("budget is refilled", x.soon(0), 3);
    }

    private static void soonAtItsLimit() {
        String text = "task a fair share 1 work 99;task b fair share 999 sleep 5 work 99;";
        for (int share = 333; share <= 500; share += 167) {
            FairWheel x = Due.of(text);
            x.run(3);
            Due.due("virtual", x.task(0, 3), 2000);
            x.share(0, share);
            x.run(1);
            Due.due("virtual", x.task(0, 3), share == 500 ? 2002 : 2003);
            x.wake(1);
            Due.due("soon", x.soon(1), 1);
            Due.due("soon within 2,000", x.soon(0), share == 500 ? 2000 : -1);
        }
    }

    private static void soonByLocks() {
        FairWheel x = Due.of("locks 1;task a idle share 1 lock 0 work 99;"
                + "task s server every 6 budget 1 share 1 sleep 3 lock 0;task f fair share 999 sleep 2 work 99;");
        x.run(5);
        Due.dueRow("rows", x, 0, "12001");
        Due.due("s waits", x.waits(0), 2);
        Due.due("f is ahead of s", x.soon(2), 1);
        Due.due("s has budget again at tick 6, and lends it", x.soon(0), 2);
        Due.due("locked", x.soon(1), -1);
        x.run(1);
        Due.due("who waits pays nothing", x.soon(2), -1);
        x = Due.of("locks 1;cores 2;task a idle share 1 lock 0 work 99;task h fair share 1 sleep 1 lock 0;"
                + "task b batch share 1 sleep 2 work 99;task c batch share 1 sleep 3 work 99;");
        x.run(6);
        Due.dueRow("rows", x, 0, "131000");
        Due.due("h waits for a", x.waits(0), 2);
        Due.due("a has h's place without end", x.soon(0), 1);
        Due.due("b", x.soon(2), 2);
        Due.due("c", x.soon(3), 1);
        x.kill(1);
        Due.due("a has its own place", x.soon(0), -1);
    }

    private static void load() {
        FairWheel x = Due.of("task a deadline every 6 budget 2 share 1 work 9;task b server every 4 budget 1 share 1 work 9;"
                + "task c fair share 1 work 9;task d server every 20 budget 99 share 1;");
        Due.due("upper", x.load(0), 7);
        Due.due("lower", x.load(1), 12);
        Due.due("another part", x.load(2), -1);
        Due.due("another part", x.load(-1), -1);
        x.kill(0);
        Due.due("upper", x.load(0), 1);
        Due.due("lower", x.load(1), 4);
        x.kill(1);
        Due.due("upper", x.load(0), 0);
        Due.due("lower", x.load(1), 1);
        StringBuilder text = new StringBuilder();
        int[] every = {20, 19, 18, 17, 16, 15, 14, 13, 11, 7};
        for (int i = 0; i < every.length; i++) {
            text.append("task ").append((char) ('a' + i)).append(" server every ").append(every[i])
                    .append(" budget 99 share 1 work 1;");
        }
        x = Due.of(text.toString());
        long lower = 232792560L;
        long upper = 0;
        for (int e : every) {
            upper += 99 * (lower / e);
        }
        long common = java.math.BigInteger.valueOf(upper).gcd(java.math.BigInteger.valueOf(lower)).longValue();
        Due.due("upper", x.load(0), upper / common);
        Due.due("lower", x.load(1), lower / common);
    }

    private static void risk(String programs, int... want) {
        StringBuilder text = new StringBuilder("locks 5;");
        String[] each = programs.split("/");
        for (int i = 0; i < each.length; i++) {
            text.append("task ").append((char) ('a' + i)).append(" fair share 1 ").append(each[i]).append(";");
        }
        FairWheel x = Due.of(text.toString().replace("L", "lock ").replace("U", "unlock "));
        x.kill(0);
        Due.due("risk of " + programs, x.risk(0), want.length);
        for (int i = 0; i < want.length; i++) {
            Due.due("risk " + i + " of " + programs, x.risk(i + 1), want[i]);
        }
        Due.due("risk beyond", x.risk(want.length + 1), -1);
        Due.due("risk far beyond", x.risk(Integer.MAX_VALUE), -1);
        Due.due("risk below", x.risk(-1), -2);
        Due.due("risk lowest", x.risk(Integer.MIN_VALUE), -2);
    }

    private static void risk() {
        risk("L0 L1/L0 L1");
        risk("L0 L1/L1 L0", 0, 1);
        risk("L3 L4/L4 L3", 3, 4);
        risk("L0 L1 L0 L2/L2 L0");
        risk("L0 L5 L1/L1 L0");
        risk("L0 U1 L1/L1 U9 L0", 0, 1);
        risk("L0 U0 L1/L1 L0");
        risk("L0 work 1 L1/L1 wait 9 ring 9 L2/L2 sleep 1 L0", 0, 1, 2);
        risk("L0 L1 L3/L0 L2 U0 L3/L3 L0", 0, 3);
        risk("L0 L1 U0 L3/L0 L2 U0 L3/L3 L0", 0, 1, 3);
        risk("L0 L2 U0 L3/L0 L1 U0 L4/L4 L0/L3 L0", 0, 1, 4);
        risk("L0 L1/L1 L2/L2 L1", 1, 2);
        risk("L4 L3/L3 L2/L2 L1/L1 L0/L0 L4", 0, 4, 3, 2, 1);
        risk("L0 U0 L0 L1/L1 L0", 0, 1);
        FairWheel x = Due.of("locks 1;task a fair share 1 lock 0 lock 1;task b fair share 1 lock 1 lock 0;");
        Due.due("locks that there are not", x.risk(0), 0);
    }

    private static void enough() {
        FairWheel x = Due.of("task a fair share 9 work 3;task b fair share 1 work 99;task c fair share 1 work 1 unlock 0;"
                + "task d fair share 1;");
        x.kill(2);
        Due.due("too few", x.enough(0, 3), -1);
        Due.due("4", x.enough(0, 4), 2);
        Due.due("5", x.enough(0, 5), 1);
        Due.due("n 0", x.enough(0, 0), -1);
        Due.due("n 100", x.enough(0, 100), 1);
        Due.due("n 101", x.enough(0, 101), -1);
        Due.due("ended", x.enough(3, 9), -1);
        Due.due("none", x.enough(4, 9), -1);
        Due.due("none", x.enough(-1, 9), -1);
        Due.due("nothing was done", x.about(4), 0);
        Due.due("nothing was done", x.task(0, 5), 9);
        x.run(2);
        Due.due("from now on", x.enough(0, 2), 2);
        Due.due("from now on", x.enough(0, 3), 1);
        x = Due.of("task a fair share 1 work 1 unlock 0;");
        Due.due("error", x.enough(0, 9), -1);
        x = Due.of("task d deadline every 2 budget 1 share 5 work 3;");
        Due.due("by budget", x.enough(0, 4), -1);
        Due.due("by budget", x.enough(0, 5), 1);
        x = Due.of("task a fair share 1 work 50;task b fair share 1 work 50;");
        x.share(1, 999);
        x.run(1);
        Due.due("b is ahead by any share", x.enough(0, 98), -1);
        Due.due("b has ended", x.enough(0, 99), 1);
        // a runs in tick 2 if it has not paid more than b in tick 1: 1000 / 59 is 16, 1000 / 63 is 15
        x = Due.of("task a fair share 1 work 2;task b fair share 62 work 99;");
        Due.due("59 shares", x.enough(0, 3), 59);
        x.share(1, 63);
        Due.due("63 would do", x.enough(0, 3), -1);
    }

    private static void choices() {
        FairWheel x = Due.of("cores 2;task a fair share 1 work 2;task b fair share 1 work 1;");
        Due.due("none", x.check(), -1);
        Due.due("tick below", x.tell(-1, 0, 0), -1);
        Due.due("tick above", x.tell(2000, 0, 0), -1);
        Due.due("processor below", x.tell(0, -1, 0), -1);
        Due.due("processor above", x.tell(0, 4, 0), -1);
        Due.due("task below", x.tell(0, 0, -2), -1);
        Due.due("task above", x.tell(0, 0, 10), -1);
        Due.due("none told", x.about(6), 0);
        Due.due("told", x.tell(0, 0, 0), 1);
        Due.due("not yet", x.check(), 0);
        x.run(2);
        Due.due("so", x.check(), -1);
        Due.due("told", x.tell(0, 1, 1), 2);
        Due.due("told", x.tell(1, 1, -1), 3);
        Due.due("so", x.check(), -1);
        Due.due("told", x.tell(1, 2, -1), 4);
        Due.due("no such processor", x.check(), 3);
        Due.due("told", x.tell(1, 0, 1), 5);
        Due.due("the first", x.check(), 3);
        Due.due("hush", x.hush(), 5);
        Due.due("hush", x.hush(), 0);
        for (int i = 1; i <= 60; i++) {
            Due.due("told", x.tell(i == 60 ? 1999 : 0, i == 60 ? 3 : 0, i == 60 ? 9 : 0), i);
        }
        Due.due("full", x.tell(0, 0, 0), -1);
        Due.due("sixty", x.about(6), 60);
        Due.due("the last", x.check(), 59);
        x.run(1);
        Due.due("hush", x.hush(), 60);
        x.tell(2, 0, -1);
        Due.due("none was chosen", x.check(), -1);
        x.tell(3, 0, -1);
        Due.due("none yet", x.check(), 1);
    }

    private static void sights() {
        FairWheel x = Due.of("task a fair share 1 work 2;task b fair share 1 work 1;");
        Due.due("tick", x.sight(-1, 0, true), -1);
        Due.due("tick", x.sight(100, 0, true), -1);
        Due.due("task", x.sight(0, -1, true), -1);
        Due.due("task", x.sight(0, 2, true), -1);
        Due.due("none", x.about(7), 0);
        Due.due("untell none", x.untell(0), false);
        for (int i = 0; i < 20; i++) {
            Due.due("number", x.sight(i == 19 ? 99 : 0, i % 2, false), i);
        }
        Due.due("full", x.sight(0, 0, true), -1);
        Due.due("untell", x.untell(19), true);
        Due.due("again", x.untell(19), false);
        Due.due("untell none", x.untell(20), false);
        Due.due("untell none", x.untell(-1), false);
        Due.due("still full", x.sight(0, 0, true), -1);
        Due.due("twenty", x.about(7), 20);
    }

    private static void time() {
        FairWheel x = new FairWheel();
        Due.due("none", x.later(0), 0);
        Due.due("below", x.later(-1), -1);
        Due.due("above", x.later(1001), -1);
        Due.due("far", x.later(Integer.MAX_VALUE), -1);
        for (int i = 1; i < 100; i++) {
            Due.due("later", x.later(1000), 1000 * i);
        }
        Due.due("later", x.later(999), 99999);
        Due.due("too late", x.later(2), -1);
        Due.due("stays", x.about(8), 99999);
        Due.due("last", x.later(1), 100000);
        Due.due("none", x.later(0), 100000);
        Due.due("beyond", x.later(1), -1);
    }

    private static final long ALL = (1L << 41) - 2;

    private static void fits() {
        FairWheel x = Due.of("task a fair share 2 work 3;task b fair share 1 work 3;task c idle share 1 work 9;");
        Due.due("all", x.fits(0, 0), ALL);
        Due.due("none", x.fits(3, 0), -1);
        Due.due("none", x.fits(-1, 0), -1);
        x.sight(3, 0, true);
        Due.due("a", x.fits(0, 0), ALL - 2);
        Due.due("b", x.fits(1, 0), 26);
        Due.due("c", x.fits(2, 0), ALL);
        // acts and ticks that were are nothing to it
        x.kill(0);
        x.share(1, 9);
        x.run(9);
        Due.due("a", x.fits(0, 0), ALL - 2);
        Due.due("b", x.fits(1, 0), 26);
        Due.due("nothing was done", x.task(1, 5), 9);
        Due.due("nothing was done", x.about(4), 9);
        x.sight(0, 1, true);
        Due.due("can't be", x.fits(0, 0), 0);
        // a ran at 0; at 1, 2, 3 b, b, a by b's share of 2 and a's of 1
        x = Due.of("task a fair share 1 work 99;task b fair share 2 work 99;");
        x.sight(2, 1, true);
        x.sight(3, 1, false);
        Due.due("b's shares", x.fits(1, 0), 4);
        x.sight(99, 1, false);
        long all = x.fits(1, 0);
        x.untell(2);
        x.sight(99, 1, true);
        Due.due("one or the other", all | x.fits(1, 0), 4);
        Due.due("not both", all & x.fits(1, 0), 0);
    }

    private static void fitsInTwoTimes() {
        FairWheel x = Due.of("task a fair share 2 work 3;task b fair share 1 work 3;");
        x.later(10);
        x.sight(3, 0, true);
        x.later(10);
        x.untell(0);
        x.sight(3, 0, false);
        x.later(10);
        Due.due("ahead", x.fits(0, 9), ALL);
        Due.due("far ahead", x.fits(0, Integer.MIN_VALUE), ALL);
        Due.due("told", x.fits(0, 10), ALL - 2);
        Due.due("told", x.fits(0, 19), ALL - 2);
        Due.due("untold", x.fits(0, 20), 2);
        Due.due("on and on", x.fits(0, Integer.MAX_VALUE), 2);
        x.sight(0, 0, false);
        x.untell(2);
        Due.due("told and untold at once", x.fits(0, 30), 2);
        x.untell(1);
        Due.due("all untold", x.fits(0, 30), ALL);
        Due.due("as known before", x.fits(0, 29), 2);
    }

    private static void images() {
        FairWheel x = Due.of("locks 2;cores 2;bells 1;task a fair share 2 lock 0 work 2 lock 1 work 3;"
                + "task b fair share 1 lock 1 lock 0;task s server every 3 budget 1 share 5 sleep 2 wait 0;");
        Due.due("box below", x.image(-1), -1);
        Due.due("box above", x.image(3), -1);
        Due.due("back below", x.back(-1), -1);
        Due.due("back above", x.back(3), -1);
        Due.due("nothing was kept", x.back(0), -1);
        Due.due("kept", x.image(0), 0);
        x.run(3);
        Due.due("kept", x.image(1), 3);
        String before = all(x);
        x.run(5);
        String then = all(x);
        Due.due("kept", x.image(2), 8);
        Due.due("back", x.back(1), 3);
        same("as it was kept", all(x), before);
        x.run(5);
        same("the same again", all(x), then);
        Due.due("back", x.back(0), 0);
        x.share(0, 7);
        x.kill(1);
        x.run(4);
        Due.due("forward", x.back(2), 8);
        same("as it was kept", all(x), then);
        Due.due("kept anew", x.image(1), 8);
        x.back(0);
        Due.due("kept anew", x.back(1), 8);
        same("as it was kept", all(x), then);
        // what is no task, lock, bell, tick or row is not kept
        x.tell(0, 0, 0);
        x.sight(0, 0, true);
        x.later(7);
        x.back(0);
        Due.due("choices stay", x.about(6), 1);
        Due.due("sights stay", x.about(7), 1);
        Due.due("time stays", x.about(8), 7);
        Due.due("a row that was not yet", x.check(), 0);
    }

    private static void same(String what, String got, String want) {
        if (!got.equals(want)) {
            System.out.println(what + ": " + got + ", due is " + want);
            Due.due(what, 1, 0);
        }
    }

    private static String all(FairWheel x) {
        StringBuilder all = new StringBuilder();
        all.append(x.about(4)).append(' ').append(Due.row(x, 0)).append(' ').append(Due.row(x, 1));
        for (int task = 0; task < x.about(0); task++) {
            for (int what = 0; what < 13; what++) {
                all.append(' ').append(x.task(task, what));
            }
            all.append(' ').append(x.place(task)).append(' ').append(x.ring(task, 0)).append(x.ring(task, 1));
        }
        for (int lock = 0; lock < x.about(2); lock++) {
            all.append(' ').append(x.holder(lock)).append(' ').append(x.waits(lock));
        }
        return all.toString();
    }

    private static void about() {
        FairWheel x = Due.of("cores 3;locks 4;bells 2;task a fair share 1 work 1 work 1;task b idle share 1;");
        x.run(1);
        x.tell(0, 0, 0);
        x.tell(0, 0, 0);
        x.sight(0, 0, true);
        x.later(33);
        x.feed(0, 0, 0, 0, 0);
        int[] want = {2, 3, 4, 2, 1, 1, 2, 1, 33, 20, 2};
        for (int what = 0; what < want.length; what++) {
            Due.due("about " + what, x.about(what), want[what]);
        }
        Due.due("about below", x.about(-1), -1);
        Due.due("about above", x.about(11), -1);
        Due.due("about highest", x.about(Integer.MAX_VALUE), -1);
    }
}
