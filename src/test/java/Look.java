import java.util.function.ToLongFunction;

/** All that can be seen of an object, as a text, so that a refused call can be shown to have done nothing. */
final class Look {
    /** Every kind of task and, after seven ticks, every state is in it; one lock is waited for. */
    static final String BUSY = "cores 2;locks 2;bells 1;task a fair share 2 lock 0 work 40;"
            + "task b deadline every 4 budget 2 share 1 lock 1 work 1 lock 0 work 1;"
            + "task c server every 5 budget 1 share 3 wait 0 work 2;task d fair share 7 sleep 30 work 3;"
            + "task e batch share 4 work 50;task f idle share 1;";
    /** What waits on the busy object's tape. */
    static final String TAPE = "cores 3;task z fair share 5 work 7;";

    private Look() {
    }

    /** An object with something of everything: told choices, sights told and untold, a time, boxes, a tape. */
    static FairWheel busy() {
        FairWheel x = Due.of(BUSY);
        x.run(3);
        x.image(1);
        x.run(4);
        x.tell(0, 0, 1);
        x.tell(6, 1, 4);
        x.tell(9, 0, 0);
        x.sight(2, 0, true);
        x.later(3);
        x.sight(4, 4, false);
        x.untell(0);
        x.later(2);
        Due.feed(x, TAPE);
        return x;
    }

    static String all(FairWheel x) {
        StringBuilder all = new StringBuilder();
        for (int what = 0; what <= 10; what++) {
            all.append(x.about(what)).append(' ');
        }
        int cores = x.about(1);
        for (int tick = 0; tick < x.about(4); tick++) {
            for (int processor = 0; processor < cores; processor++) {
                all.append(x.chosen(tick, processor)).append(processor == cores - 1 ? " " : ",");
            }
        }
        for (int task = 0; task < x.about(0); task++) {
            all.append("\n task").append(task);
            for (int what = 0; what <= 12; what++) {
                all.append(' ').append(x.task(task, what));
            }
            all.append(" place ").append(x.place(task)).append(" ring ").append(x.ring(task, 0));
            all.append(" soon ").append(x.soon(task)).append(" enough ").append(x.enough(task, 60));
            all.append(" fits ").append(x.fits(task, x.about(8)));
        }
        for (int lock = 0; lock < x.about(2); lock++) {
            all.append("\n lock").append(lock).append(' ').append(x.holder(lock)).append(' ').append(x.waits(lock));
        }
        all.append("\n load ").append(x.load(0)).append('/').append(x.load(1)).append(" risk ").append(x.risk(0));
        all.append(" check ").append(x.check());
        return all.toString();
    }

    static void same(String what, FairWheel x, FairWheel twin) {
        String got = all(x);
        String want = all(twin);
        if (!got.equals(want)) {
            System.out.println(what + ": seen is\n" + got + "\ndue is\n" + want);
            Due.due(what, 1, 0);
        }
    }

    /** A call that is refused: it answers as due, and nothing that can be seen at once or later tells of it. */
    static void refused(String what, long want, ToLongFunction<FairWheel> call) {
        FairWheel x = busy();
        FairWheel twin = busy();
        Due.due(what, call.applyAsLong(x), want);
        same(what + " did something", x, twin);
        Due.due(what + ", a run then", x.run(2), twin.run(2));
        same(what + " did something that is seen later", x, twin);
        Due.due(what + ", its fault", x.fault(0), twin.fault(0));
        Due.due(what + ", back then", x.back(1), twin.back(1));
        Due.due(what + ", no other box", x.back(0) + x.back(2), -2);
        Due.due(what + ", known before", x.fits(0, 2), twin.fits(0, 2));
        Due.due(what + ", the tape then", x.kernel(), twin.kernel());
        Due.due(what + ", its processors", x.about(1), 3);
        Due.due(what + ", its work", x.task(0, 2), 7);
    }

    static void refused(String what, boolean isRefused, ToLongFunction<FairWheel> call) {
        refused(what, isRefused ? 0 : 1, call);
    }
}
