/** Promises 1 to 5: a new object, the tape, the kernel's text and its faults. */
public final class TextTest {
    public static void main(String[] args) {
        newObject();
        feed();
        end();
        kernelTaken();
        kernelRefused();
        faults();
        limits();
        Due.finish("TextTest");
    }

    private static void newObject() {
        FairWheel x = new FairWheel();
        int[] want = {0, 1, 0, 0, 0, 0, 0, 0, 0, 0, 0, -1};
        for (int what = 0; what < want.length; what++) {
            Due.due("about " + what + " of a new object", x.about(what), want[what]);
        }
        Due.due("fault of none", x.fault(0), 0);
        Due.due("place of none", x.fault(1), -1);
        Due.due("back of none", x.back(0), -1);
        Due.due("load of none", x.load(0), 0);
        Due.due("load of none", x.load(1), 1);
        Due.due("risk of none", x.risk(0), 0);
        Due.due("check of none", x.check(), -1);
    }

    private static void feed() {
        FairWheel x = new FairWheel();
        for (int i = 1; i <= 85; i++) {
            Due.due("feed " + i, x.feed(0x20202020, 0x20202020, 0x20202020, 0x20202020, 0x20202020), 20 * i);
        }
        Due.due("feed of a full tape", x.feed(0, 0, 0, 0, 0), -1);
        Due.due("bytes", x.about(9), 1700);
        Due.due("end", x.end(1681), 1681);
        Due.due("feed of 1701", x.feed(0, 0, 0, 0, 0), -1);
        Due.due("bytes", x.about(9), 1681);
        Due.due("end", x.end(1680), 1680);
        Due.due("feed to the end", x.feed(0x20202020, 0x20202020, 0x20202020, 0x20202020, 0x20202020), 1700);
        Due.due("blanks alone", x.kernel(), 0);
        // each number's highest byte first, and a byte above 127 is no token
        Due.due("feed", x.feed(0x636f7265, 0x73313bff, 0x20202020, 0, -1), 20);
        Due.due("kernel", x.kernel(), -1);
        Due.due("fault", x.fault(0), 1);
        Due.due("its place", x.fault(1), 7);
    }

    private static void end() {
        FairWheel x = new FairWheel();
        Due.due("end 0 of none", x.end(0), 0);
        Due.due("end 1 of none", x.end(1), -1);
        Due.feed(x, "cores 2;bells 9");
        Due.due("end below 0", x.end(-1), -1);
        Due.due("end beyond", x.end(16), -1);
        Due.due("end lowest", x.end(Integer.MIN_VALUE), -1);
        Due.due("end highest", x.end(Integer.MAX_VALUE), -1);
        Due.due("all stays", x.about(9), 15);
        Due.due("end of all", x.end(15), 15);
        Due.due("end", x.end(8), 8);
        Due.due("bytes", x.about(9), 8);
        Due.due("kernel", x.kernel(), 0);
        Due.due("cores", x.about(1), 2);
    }

    private static void kernelTaken() {
        FairWheel x = Due.of("cores 3 ; locks 5 ; bells 2 ; task a fair share 7 work 2 lock 4 ; task b idle share 999 ;");
        Due.due("tape is empty", x.about(9), 0);
        int[] want = {2, 3, 5, 2, 0, 1, 0, 0, 0, 0, 2};
        for (int what = 0; what < want.length; what++) {
            Due.due("about " + what, x.about(what), want[what]);
        }
        x.run(3);
        x.tell(0, 0, 0);
        x.sight(0, 0, true);
        x.later(5);
        x.image(2);
        Due.due("kernel", Due.kernel(x, "task z batch share 2 work 9;"), 1);
        int[] then = {1, 1, 0, 0, 0, 1, 0, 0, 5, 0, 1};
        for (int what = 0; what < then.length; what++) {
            Due.due("about then " + what, x.about(what), then[what]);
        }
        Due.due("boxes are empty", x.back(2), -1);
        Due.due("no rows", x.chosen(0, 0), -1);
        Due.due("empty kernel", x.kernel(), 0);
        Due.due("no tasks", x.about(0), 0);
        Due.due("no such task", x.task(0, 0), -2);
    }

    private static void kernelRefused() {
        FairWheel x = Due.of("cores 2;locks 1;task a fair share 7 lock 0 work 5;");
        x.run(2);
        x.tell(0, 0, 0);
        x.sight(0, 0, true);
        x.image(1);
        Due.due("refused", Due.kernel(x, "cores 4;locks 6;task b idle share 1 work 1;task b"), -1);
        Due.due("fault", x.fault(0), 3);
        Due.due("place", x.fault(1), 48);
        Due.due("another what", x.fault(2), -1);
        Due.due("another what", x.fault(-1), -1);
        int[] want = {1, 2, 1, 0, 2, 1, 1, 1, 0, 49, 2};
        for (int what = 0; what < want.length; what++) {
            Due.due("about all that stays " + what, x.about(what), want[what]);
        }
        Due.due("it goes on", x.task(0, 2), 4);
        Due.due("holder stays", x.holder(0), 0);
        Due.due("box stays", x.back(1), 2);
        x.end(0);
        Due.due("taken", x.kernel(), 0);
        Due.due("no fault now", x.fault(0), 0);
        Due.due("no place now", x.fault(1), -1);
    }

    private static void faults() {
        Due.fault("", 0, -1);
        Due.fault(" \n ", 0, -1);
        Due.fault("cores1;locks0;bells0;taskless", 2, 21);
        Due.fault("cores", 2, 5);
        Due.fault("cores  ", 2, 7);
        Due.fault("cores 1", 2, 7);
        Due.fault("cores 1\n", 2, 8);
        Due.fault("cores;", 2, 5);
        Due.fault("cores x;", 2, 6);
        Due.fault("cores 1 1;", 2, 8);
        Due.fault("cores 1;cores 1;", 2, 8);
        Due.fault("locks 1;cores 1;locks x", 2, 16);
        Due.fault("bells 1;bells 9;", 2, 8);
        Due.fault("cores 0;", 4, 6);
        Due.fault("cores 5;", 4, 6);
        Due.fault("cores 9999 x", 4, 6);
        Due.fault("cores 0004;", 0, -1);
        Due.fault("locks 7;", 4, 6);
        Due.fault("locks 0;bells 0;", 0, -1);
        Due.fault("locks 6;bells 4;cores 4;", 0, -1);
        Due.fault("bells 5;", 4, 6);
        Due.fault(";", 2, 0);
        Due.fault("7", 2, 0);
        Due.fault("fair", 2, 0);
        Due.fault("work 1;", 2, 0);
        Due.fault("name", 2, 0);
        Due.fault("Cores 1;", 1, 0);
        Due.fault("cores\t1;", 1, 5);
        Due.fault("cores\r1;", 1, 5);
        Due.fault("cores -1;", 1, 6);
        Due.fault("cores 12345;", 1, 6);
        Due.fault("cores 00001;", 1, 6);
        Due.fault("cores 1a;", 1, 6);
        Due.fault("cores 5a;", 1, 6);
        Due.fault("cores 1A;", 1, 7);
        Due.fault("abcdefgh", 2, 0);
        Due.fault("abcdefghi", 1, 0);
        Due.fault("task", 2, 4);
        Due.fault("task;", 2, 4);
        Due.fault("task 1", 2, 5);
        Due.fault("task task fair share 1;", 2, 5);
        Due.fault("task sleep fair share 1;", 2, 5);
        Due.fault("task deadline fair share 1;", 2, 5);
        Due.fault("task abcdefgh fair share 1;", 0, -1);
        Due.fault("task abcdefghi fair share 1;", 1, 5);
        Due.fault("task a1 fair share 1;", 2, 6);
        Due.fault("task a", 2, 6);
        Due.fault("task a share 1;", 2, 7);
        Due.fault("task a b share 1;", 2, 7);
        Due.fault("task a fair 1;", 2, 12);
        Due.fault("task a fair share;", 2, 17);
        Due.fault("task a fair share 0;", 4, 18);
        Due.fault("task a fair share 1000;", 4, 18);
        Due.fault("task a fair share 999;", 0, -1);
        Due.fault("task a fair every 1 budget 1 share 1;", 2, 12);
        Due.fault("task a deadline share 1;", 2, 16);
        Due.fault("task a deadline every 0 budget 1 share 1;", 4, 22);
        Due.fault("task a server every 21 budget 1 share 1;", 4, 20);
        Due.fault("task a server every 20 share 1;", 2, 23);
        Due.fault("task a server every 20 budget 0 share 1;", 4, 30);
        Due.fault("task a server every 20 budget 100 share 1;", 4, 30);
        Due.fault("task a server every 20 budget 99 share 1;", 0, -1);
        Due.fault("task a deadline every1budget 9 share 1;", 1, 21);
        Due.fault("task a deadline every1 budget9 share1work1;", 1, 36);
        Due.fault("task a deadline every1 budget9 share1 work1;", 0, -1);
        Due.fault("task a fair share 1 work;", 2, 24);
        Due.fault("task a fair share 1 work 0;", 4, 25);
        Due.fault("task a fair share 1 work 100;", 4, 25);
        Due.fault("task a fair share 1 sleep 0;", 4, 26);
        Due.fault("task a fair share 1 sleep 100;", 4, 26);
        Due.fault("task a fair share 1 lock 100;", 4, 25);
        Due.fault("task a fair share 1 unlock 100;", 4, 27);
        Due.fault("task a fair share 1 wait 100;", 4, 25);
        Due.fault("task a fair share 1 ring 100;", 4, 25);
        Due.fault("task a fair share 1 lock 99 unlock 99 wait 99 ring 99 lock 0 unlock 0 wait 0 ring 0 work 99 sleep 99;", 0, -1);
        Due.fault("task a fair share 1 work 1", 2, 26);
        Due.fault("task a fair share 1 work 1;;", 2, 27);
        Due.fault("task a fair share 1 work 1 share 1;", 2, 27);
        Due.fault("task a fair share 1 work 1 task b", 2, 27);
        Due.fault("task a fair share 1;task a fair share 1;", 3, 25);
        Due.fault("task a fair share 1;task ab fair share 1;task b fair share 1;", 0, -1);
        Due.fault("task abcdefgh fair share 1;task abcdefgh", 3, 32);
        Due.fault("task\na\nfair\nshare\n1\nwork\n1\n;\n", 0, -1);
        Due.fault("task a fair share 1;.", 1, 20);
    }

    private static void limits() {
        StringBuilder ten = new StringBuilder();
        for (int i = 0; i < 10; i++) {
            ten.append("task ").append((char) ('a' + i)).append(" fair share 1;");
        }
        Due.fault(ten.toString(), 0, -1);
        Due.fault(ten + "task", 2, 200);
        Due.fault(ten + "task a", 2, 200);
        Due.fault(ten + " cores 2;", 0, -1);
        StringBuilder ops = new StringBuilder("task a fair share 1");
        for (int i = 0; i < 50; i++) {
            ops.append(" lock 1");
        }
        ops.append(";task b fair share 1");
        for (int i = 0; i < 40; i++) {
            ops.append(" work 9");
        }
        Due.fault(ops + ";", 0, -1);
        Due.fault(ops + " work 0;", 2, ops.length() + 1);
        Due.fault(ops + ";task c fair share 1;", 0, -1);
        Due.fault(ops + ";task c fair share 1 work 1;", 2, ops.length() + 21);
        FairWheel x = Due.of(ops + ";");
        Due.due("ops", x.about(10), 90);
        StringBuilder full = new StringBuilder("cores 2;");
        while (full.length() < 1700) {
            full.append(' ');
        }
        Due.fault(full.toString(), 0, -1);
        Due.fault(full.substring(0, 1699) + "x", 2, 1699);
        Due.fault(full.substring(0, 1692) + "locks 1 ", 2, 1700);
    }
}
