/** The boundary cases of the tape and of a kernel's text: one test for each sentence that names one. */
public final class TextEdgeTest {
    private static final String[] WORDS = {"cores", "locks", "bells", "task", "fair", "batch", "idle", "deadline", "server",
        "every", "budget", "share", "work", "lock", "unlock", "wait", "ring", "sleep"};
    private static final int BLANKS = 0x20202020;

    public static void main(String[] args) {
        emptyAtFirst();
        aTextOf1700Bytes();
        feedTakesTwentyBytes();
        feedRefusesMoreThan1700();
        endTakesNoMoreThanThereIs();
        wordsOfEightLetters();
        numbersOfFourDigits();
        signsThatAreTokens();
        blanksPartOrNot();
        asLongAsCanBe();
        noLetterBehindANumber();
        wordsThatAreNoNames();
        wordsLetterByLetter();
        whereTokensStand();
        countsAndTheirBounds();
        onceEach();
        tenTasks();
        numbersOfATask();
        numbersOfOps();
        ninetyOps();
        placesAreBytesFromNothing();
        theFirstByItsPlace();
        atOnePlaceTheLeast();
        namesToldAlready();
        kernelTakesTheTape();
        allAtFirst();
        whatIsNotToldIsAsAtFirst();
        kernelClearsWhatWas();
        aFaultLeavesAll();
        faultOfTheLatest();
        Due.finish("TextEdgeTest");
    }

    /** "An empty KERNEL." "(empty at first)" */
    private static void emptyAtFirst() {
        FairWheel x = new FairWheel();
        Look.same("a new object and an empty text", x, emptied());
        Due.due("no task", x.task(0, 0), -2);
        Due.due("no lock", x.holder(0) + x.waits(0), -2);
        Due.due("no box", x.back(0), -1);
        Due.due("it runs", x.run(200), 200);
        Due.due("none was chosen", x.chosen(199, 0), -1);
        Due.due("one processor", x.about(1), 1);
        Due.due("no second processor", x.chosen(199, 1), -1);
        x.tell(199, 0, -1);
        Due.due("none was chosen", x.check(), -1);
        x.tell(199, 1, -1);
        Due.due("no second processor", x.check(), 1);
        Due.due("no sight", x.sight(0, 0, false), -1);
        Due.due("no fit", x.fits(0, 0), -1);
    }

    private static FairWheel emptied() {
        FairWheel x = new FairWheel();
        Due.due("an empty tape is a kernel", x.kernel(), 0);
        Due.due("without a fault", x.fault(0), 0);
        return x;
    }

    /** "A KERNEL is a text of at most 1,700 bytes" */
    private static void aTextOf1700Bytes() {
        String line = "task a fair share 1 work 9;";
        FairWheel x = Due.of(Due.blanks(1700 - line.length()) + line);
        Due.due("its last line counts", x.about(0), 1);
        Due.due("its last op counts", x.task(0, 2), 9);
        x = Due.of(Due.blanks(1692) + "cores 4;");
        Due.due("its last number counts", x.about(1), 4);
        Due.fault(Due.blanks(1699) + "x", 2, 1699);
        Due.fault(Due.blanks(1699) + "!", 1, 1699);
        Due.fault(Due.blanks(1693) + "cores 2", 2, 1700);
        Due.fault(Due.blanks(1693) + "cores 5", 4, 1699);
        Due.fault(Due.blanks(1694) + "task a", 2, 1700);
        Due.good(Due.blanks(1700));
    }

    /** "Twenty bytes come behind those on the TAPE, of each number the highest first: how many there are" */
    private static void feedTakesTwentyBytes() {
        FairWheel x = new FairWheel();
        Due.due("twenty", x.feed(0x636f7265, 0x73203334, 0x3b6c6f63, 0x6b732035, 0x3b62656c), 20);
        Due.due("forty", x.feed(0x6c732033, 0x3b202020, BLANKS, BLANKS, BLANKS), 40);
        Due.due("'cores 34;' can't be", x.kernel(), -1);
        Due.due("its fault", x.fault(0), 4);
        Due.due("its place", x.fault(1), 6);
        Due.due("end", x.end(0), 0);
        Due.due("twenty", x.feed(0x636f7265, 0x73203320, 0x3b6c6f63, 0x6b732035, 0x3b62656c), 20);
        Due.due("forty", x.feed(0x6c732034, 0x3b202020, BLANKS, BLANKS, BLANKS), 40);
        Due.due("taken", x.kernel(), 0);
        Due.due("cores", x.about(1), 3);
        Due.due("locks", x.about(2), 5);
        Due.due("bells", x.about(3), 4);
        // the same sign at each of the twenty places
        for (int at = 0; at < 20; at++) {
            int[] five = {BLANKS, BLANKS, BLANKS, BLANKS, BLANKS};
            int shift = 24 - 8 * (at % 4);
            five[at / 4] = five[at / 4] & ~(255 << shift) | 200 << shift;
            x.end(0);
            Due.due("fed", x.feed(five[0], five[1], five[2], five[3], five[4]), 20);
            Due.due("no token", x.kernel(), -1);
            Due.due("no token", x.fault(0), 1);
            Due.due("at its place", x.fault(1), at);
        }
    }

    /** "NONE, and nothing comes, if there would be more than 1,700." */
    private static void feedRefusesMoreThan1700() {
        for (int size = 1680; size <= 1700; size++) {
            FairWheel x = new FairWheel();
            String text = Due.blanks(size - 8) + "cores 4;";
            Due.due("size", Due.feed(x, text), size);
            Due.due("feed behind " + size, x.feed(-1, -1, -1, -1, -1), size == 1680 ? 1700 : -1);
            Due.due("bytes then", x.about(9), size == 1680 ? 1700 : size);
            Due.due("kernel then", x.kernel(), size == 1680 ? -1 : 0);
            Due.due("cores then", x.about(1), size == 1680 ? 1 : 4);
            Due.due("place then", x.fault(1), size == 1680 ? 1680 : -1);
        }
        FairWheel x = new FairWheel();
        Due.feed(x, Due.blanks(1700));
        Due.due("full", x.feed(0, 0, 0, 0, 0), -1);
        Due.due("end", x.end(1679), 1679);
        Due.due("room again", x.feed(0, 0, 0, 0, 0), 1699);
        Due.due("no room", x.feed(0, 0, 0, 0, 0), -1);
        Due.due("bytes", x.about(9), 1699);
    }

    /** "n; NONE, doing nothing, if it has not so many, or n is below 0." */
    private static void endTakesNoMoreThanThereIs() {
        int there = Look.TAPE.length();
        for (int n : new int[] {there + 1, there + 20, 1700, 1701, Integer.MAX_VALUE, -1, -there, Integer.MIN_VALUE}) {
            Look.refused("end " + n, -1, x -> x.end(n));
        }
        Look.refused("end of all", there, x -> x.end(there));
        FairWheel x = Look.busy();
        Due.due("one less", x.end(there - 1), there - 1);
        Due.due("bytes", x.about(9), there - 1);
        Due.due("what was behind is gone", x.end(there), -1);
        Due.due("the last sign is gone", x.kernel(), -1);
        Due.due("its place", x.fault(1), there - 1);
        Due.due("none", x.end(0), 0);
        Due.due("no bytes", x.about(9), 0);
        Due.due("not below none", x.end(-1), -1);
        Due.due("not above none", x.end(1), -1);
        Due.due("fed", Due.feed(x, "cores 2;"), 8);
        Due.due("only the new ones", x.kernel(), 0);
        Due.due("cores", x.about(1), 2);
        // what stood behind the end is no part of the text: no letter behind the N, no longer word, no more digits
        for (String text : new String[] {"cores 2x;", "cores 2;", "cores 25;", "cores 2;?"}) {
            x.end(0);
            Due.feed(x, text);
            x.end(7);
            Due.due("cut", x.kernel(), -1);
            Due.due("the end is missing", x.fault(0), 2);
            Due.due("at the end", x.fault(1), 7);
        }
        x.end(0);
        Due.feed(x, "taskabcdefgh");
        x.end(4);
        Due.due("cut", x.kernel(), -1);
        Due.due("at the end", x.fault(1), 4);
        x.end(0);
        Due.feed(x, "cores 3;work");
        x.end(8);
        Due.due("cut", x.kernel(), 0);
        Due.due("cores", x.about(1), 3);
    }

    /** "words (a .. z, 8 at most)" */
    private static void wordsOfEightLetters() {
        Due.good("task a fair share 1;task z fair share 1;task zzzzzzzz fair share 1;task aaaaaaaa fair share 1;");
        Due.fault("task aaaaaaaaa fair share 1;", 1, 5);
        Due.fault("task abcdefghijklmnopqrstuvwxyz fair share 1;", 1, 5);
        Due.fault("zzzzzzzz", 2, 0);
        Due.fault("zzzzzzzzz", 1, 0);
        Due.fault("task a deadline every 1 budget 1 share 1;task b deadlines every 1 budget 1 share 1;", 1, 48);
        Due.fault("task a `", 1, 7);
        Due.fault("task {", 1, 5);
        Due.fault("task @", 1, 5);
        Due.fault("task A", 1, 5);
        Due.fault("task Z", 1, 5);
        Due.fault("task [", 1, 5);
        Due.fault("task abcA fair share 1;", 1, 8);
    }

    /** "N (1 to 4 digits)" */
    private static void numbersOfFourDigits() {
        for (String one : new String[] {"1", "01", "001", "0001"}) {
            FairWheel x = Due.of("task a fair share " + one + " work 1;");
            Due.due("share of " + one, x.task(0, 5), 1);
        }
        Due.fault("task a fair share 00001;", 1, 18);
        Due.fault("task a fair share 99999;", 1, 18);
        Due.fault("task a fair share 9999;", 4, 18);
        Due.fault("task a fair share 00000000000000000000000000000001;", 1, 18);
        Due.fault("task a fair share 4294967297;", 1, 18);
        Due.good("task a fair share 0999 work 0099 lock 0000 wait 0099;");
        Due.fault("cores /", 1, 6);
        Due.fault("cores :", 1, 6);
        Due.fault("cores 1:", 1, 7);
    }

    /** "1 no TOKEN": every byte that begins none. */
    private static void signsThatAreTokens() {
        for (int sign = 0; sign < 256; sign++) {
            boolean isBlank = sign == 32 || sign == 10;
            boolean begins = sign == ';' || sign >= '0' && sign <= '9' || sign >= 'a' && sign <= 'z';
            String text = "cores 2;" + (char) sign;
            if (isBlank) {
                Due.good(text);
            } else {
                Due.fault(text, begins ? 2 : 1, 8);
            }
        }
    }

    /** "blanks (32, 10) part them or not" */
    private static void blanksPartOrNot() {
        Due.good("cores2;locks1;bells1;task\na\nfair\nshare2 lock0 unlock0;");
        Due.good(" \n cores \n 2 \n ; \n ");
        Due.good("task a server every1 budget1 share1 work1 sleep1;");
        Due.fault("taska fair share 1;", 2, 0);
        Due.fault("task afair share 1;", 2, 11);
        Due.fault("task a fairshare 1;", 1, 7);
        Due.fault("core s 1;", 2, 0);
        Due.fault("task a fair share 1 0;", 2, 20);
        for (int sign : new int[] {0, 9, 11, 12, 13, 31, 33, 127, 128, 160, 255}) {
            Due.fault("cores" + (char) sign + "2;", 1, 5);
        }
    }

    /** "each is as long as can be" */
    private static void asLongAsCanBe() {
        Due.fault("lock s 1;", 2, 0);
        Due.good("locks 1;");
        Due.good("task tasks fair share 1;");
        Due.good("task taska fair share 1 unlock 1;");
        Due.fault("task a fair share 1 un lock 1;", 2, 20);
        Due.fault("task a fair share 1 worked 1;", 2, 20);
        Due.fault("task a fair share 1 wor 1;", 2, 20);
        FairWheel x = Due.of("task a fair share 1 work 12 work 1 work 2;");
        Due.due("twelve is one number", x.about(10), 3);
        Due.due("twelve is one number", x.task(0, 2), 12);
        Due.fault("cores 1 2;", 2, 8);
        Due.fault("cores 12;", 4, 6);
    }

    /** "no letter directly behind an N" */
    private static void noLetterBehindANumber() {
        Due.fault("task a fair share 1work 1;", 1, 18);
        Due.good("task a fair share 1 work 1;");
        Due.good("task a fair share 1\nwork 1;");
        Due.fault("task a fair share 1a;", 1, 18);
        Due.fault("task a fair share 1z;", 1, 18);
        Due.fault("task a fair share 0999x;", 1, 18);
        Due.good("cores 1;task a fair share 1;");
        Due.fault("cores 1task a fair share 1;", 1, 6);
        Due.fault("task a1", 2, 6);
        Due.fault("task a1b", 1, 6);
    }

    /** "Words that stand for themselves here are no NAMES." */
    private static void wordsThatAreNoNames() {
        for (String word : WORDS) {
            Due.fault("task " + word + " fair share 1;", 2, 5);
            Due.fault("task a fair share 1;task " + word + " fair share 1;", 2, 25);
            Due.good("task " + word.substring(1) + " fair share 1;");
            if (word.length() < 8 && !word.equals("lock")) {
                Due.good("task " + word + "s fair share 1;");
            }
        }
        for (String word : new String[] {"kernel", "line", "kind", "op", "n", "name", "core", "bell", "none", "end"}) {
            Due.good("task " + word + " fair share 1;");
        }
    }

    /** A word stands for itself only with all its letters. */
    private static void wordsLetterByLetter() {
        for (String word : WORDS) {
            for (int i = 0; i < word.length(); i++) {
                String other = word.substring(0, i) + "q" + word.substring(i + 1);
                Due.good("task " + other + " fair share 1;");
                Due.fault(other + " 1;", 2, 0);
            }
        }
    }

    private static final String LINES = " cores locks bells task ";
    private static final String OPS = " work lock unlock wait ring sleep ; ";
    /** Beginnings of texts, and what may stand behind them. */
    private static final String[][] GRAMMAR = {
        {"", LINES}, {"cores", " 1 "}, {"locks", " 1 "}, {"bells", " 1 "}, {"cores 1", " ; "}, {"cores 1;", " locks bells task "},
        {"locks 1;", " cores bells task "}, {"bells 1;", " cores locks task "}, {"task", " x "},
        {"task a", " fair batch idle deadline server "}, {"task a fair", " share "}, {"task a batch", " share "},
        {"task a idle", " share "}, {"task a deadline", " every "}, {"task a server", " every "}, {"task a server every", " 1 "},
        {"task a server every 1", " budget "}, {"task a server every 1 budget", " 1 "}, {"task a server every 1 budget 1", " share "},
        {"task a fair share", " 1 "}, {"task a fair share 1", OPS}, {"task a fair share 1 work", " 1 "},
        {"task a fair share 1 lock", " 1 "}, {"task a fair share 1 unlock", " 1 "}, {"task a fair share 1 wait", " 1 "},
        {"task a fair share 1 ring", " 1 "}, {"task a fair share 1 sleep", " 1 "}, {"task a fair share 1 ring 1", OPS},
        {"task a fair share 1 ring 1;", LINES}};

    /** "2 one that can't stand there": every TOKEN behind every beginning. */
    private static void whereTokensStand() {
        String[] tokens = ("x 1 ; " + String.join(" ", WORDS)).split(" ");
        for (String[] rule : GRAMMAR) {
            String ahead = rule[0] + " ";
            for (String token : tokens) {
                String text = ahead + token;
                if (!rule[1].contains(" " + token + " ")) {
                    Due.fault(text, 2, ahead.length());
                    Due.fault(text + " ?", 2, ahead.length());
                } else if (token.equals(";")) {
                    Due.good(text);
                } else {
                    Due.fault(text, 2, text.length());
                }
            }
            Due.fault(ahead + "?", 1, ahead.length());
        }
    }

    /** "cores (PROCESSORS, 1 .. 4; 1), locks (0 .. 6; 0), bells (0 .. 4; 0)" */
    private static void countsAndTheirBounds() {
        count("cores ", 1, 1, 4, 1);
        count("locks ", 2, 0, 6, 0);
        count("bells ", 3, 0, 4, 0);
    }

    private static void count(String word, int what, int least, int most, int first) {
        Due.due(word + "at first", Due.of("task a fair share 1;").about(what), first);
        for (int n = 0; n <= 12; n++) {
            if (n < least || n > most) {
                Due.fault(word + n + ";", 4, 6);
            } else {
                Due.due(word + n, Due.of(word + n + ";").about(what), n);
            }
        }
        Due.fault(word + "9999;", 4, 6);
        Due.fault(word + ";", 2, 6);
        Due.fault(word + "-1;", 1, 6);
    }

    /** "once each", "a second time: at the line's first word" */
    private static void onceEach() {
        for (String word : new String[] {"cores", "locks", "bells"}) {
            Due.fault(word + " 1;" + word + " 1;", 2, 8);
            Due.fault(word + " 1; \n" + word + " 2;", 2, 10);
            Due.fault(word + " 1;" + word, 2, 8);
            Due.fault(word + " 1;" + word + " 99;", 2, 8);
            Due.fault(word + " 1;" + word + " ?", 2, 8);
            Due.fault(word + " 1;task a fair share 1;" + word + " 1;", 2, 28);
            Due.good("task a fair share 1;" + word + " 1;");
        }
        FairWheel x = Due.of("bells 1;task a fair share 1 lock 5;cores 3;task b fair share 1;locks 6;");
        Due.due("bells", x.about(3), 1);
        Due.due("cores", x.about(1), 3);
        Due.due("locks told behind who locks one", x.about(2), 6);
        x.run(1);
        Due.due("it is there", x.task(0, 8), 0);
        Due.due("a zero is told, too", Due.kernel(x, "locks 0;locks 0;"), -1);
        Due.due("its place", x.fault(1), 8);
        Due.due("each text anew", Due.kernel(x, "cores 2;"), 0);
        Due.due("each text anew", Due.kernel(x, "cores 1;"), 0);
        Due.due("what is not told is as at first", x.about(2), 0);
    }

    private static String tasks(int n, String program) {
        StringBuilder text = new StringBuilder();
        for (int i = 0; i < n; i++) {
            text.append("task ").append((char) ('a' + i)).append(" fair share ").append(i + 1).append(program).append(";");
        }
        return text.toString();
    }

    /** "at most 10 TASKS, numbered as told", "one of a sort too many ..: at the line's first word" */
    private static void tenTasks() {
        FairWheel x = Due.of(tasks(10, " work 9"));
        Due.due("ten", x.about(0), 10);
        for (int i = 0; i < 10; i++) {
            Due.due("numbered as told", x.task(i, 5), i + 1);
        }
        Due.due("no eleventh", x.task(10, 5), -2);
        Due.due("nine", Due.of(tasks(9, "")).about(0), 9);
        String ten = tasks(10, "");
        Due.fault(ten + "task k fair share 1;", 2, ten.length());
        Due.fault(ten + "\n task k fair share 1;", 2, ten.length() + 2);
        Due.fault(ten + "task", 2, ten.length());
        Due.fault(ten + "task ?", 2, ten.length());
        Due.fault(ten + "task a fair share 1;", 2, ten.length());
        Due.fault(ten + "task k fair share 0;", 2, ten.length());
        Due.good(ten + "cores 4;locks 6;bells 4;");
        Due.good("");
        Due.due("none", Due.of("cores 2;").about(0), 0);
    }

    /** Numbers from just below the least to just above the most. */
    private static void bounds(String ahead, int least, int most, String behind) {
        for (int n : new int[] {0, least - 1, least, least + 1, most - 1, most, most + 1, 10 * most, 9999}) {
            if (n >= least && n <= most) {
                Due.good(ahead + n + behind);
            } else if (n >= 0) {
                Due.fault(ahead + n + behind, 4, ahead.length());
            }
        }
        Due.fault(ahead + behind.trim(), 2, ahead.length());
        Due.fault(ahead + "x" + behind, 2, ahead.length());
    }

    /** "share 1 .. 999, every 1 .. 20, budget 1 .. 99" */
    private static void numbersOfATask() {
        for (String kind : new String[] {"fair", "batch", "idle", "deadline every 1 budget 1", "server every 1 budget 1"}) {
            bounds("task a " + kind + " share ", 1, 999, ";");
            Due.due("share is kept", Due.of("task a " + kind + " share 999 work 1;").task(0, 5), 999);
        }
        for (String kind : new String[] {"deadline", "server"}) {
            bounds("task a " + kind + " every ", 1, 20, " budget 1 share 1;");
            bounds("task a " + kind + " every 1 budget ", 1, 99, " share 1;");
            FairWheel x = Due.of("task a " + kind + " every 20 budget 99 share 1 work 9;");
            x.run(1);
            Due.due("budget is kept", x.task(0, 6), 98);
            Due.due("every is kept", x.task(0, 7), 20);
            x = Due.of("task a " + kind + " every 1 budget 1 share 1 work 9;");
            x.run(3);
            Due.due("the least budget", x.task(0, 6), 0);
            Due.due("the least every", x.task(0, 7), 3);
        }
        for (String kind : new String[] {"fair", "batch", "idle"}) {
            Due.fault("task a " + kind + " every 1 budget 1 share 1;", 2, 8 + kind.length());
        }
        Due.fault("task a server every 1 share 1;", 2, 22);
        Due.fault("task a server budget 1 every 1 share 1;", 2, 14);
        Due.fault("task a fair;", 2, 11);
    }

    /** "work, sleep 1 .. 99, others 0 .. 99" */
    private static void numbersOfOps() {
        for (String op : new String[] {"work", "sleep"}) {
            bounds("task a fair share 1 " + op + " ", 1, 99, ";");
            bounds("task a fair share 1 lock 1 " + op + " ", 1, 99, " work 1;");
        }
        for (String op : new String[] {"lock", "unlock", "wait", "ring"}) {
            bounds("task a fair share 1 " + op + " ", 0, 99, ";");
            bounds("task a fair share 1 lock 1 " + op + " ", 0, 99, " work 1;");
        }
        Due.due("work is kept", Due.of("task a fair share 1 work 99;").task(0, 2), 99);
        Due.due("work is kept", Due.of("task a fair share 1 work 1;").task(0, 2), 1);
    }

    private static String ops(int n, String op) {
        return (" " + op).repeat(n);
    }

    /** "90 OPS in all", "a 91st OP: there" */
    private static void ninetyOps() {
        FairWheel x = Due.of("task a fair share 1" + ops(90, "work 1") + ";");
        Due.due("ninety", x.about(10), 90);
        x.run(89);
        Due.due("the last is at hand", x.task(0, 1), 89);
        x.run(1);
        Due.due("the last is done", x.task(0, 1), 90);
        Due.due("ended", x.task(0, 0), 4);
        String full = "task a fair share 1" + ops(90, "lock 1");
        Due.fault(full + " lock 1;", 2, full.length() + 1);
        Due.fault(full + "\n\nlock 1;", 2, full.length() + 2);
        Due.fault(full + " work 0;", 2, full.length() + 1);
        Due.fault(full + " work", 2, full.length() + 1);
        Due.fault(full + " ?", 1, full.length() + 1);
        Due.fault(full + " share 1;", 2, full.length() + 1);
        Due.fault(full, 2, full.length());
        Due.good(full + ";task b fair share 1;task c idle share 1;cores 2;");
        Due.fault(full + ";task b fair share 1 ring 1;", 2, full.length() + 21);
        x = Due.of(tasks(10, ops(9, "wait 9")));
        Due.due("ninety by nine each", x.about(10), 90);
        String nine = tasks(9, ops(9, "wait 9")) + "task k fair share 1" + ops(9, "wait 9");
        Due.fault(nine + " wait 9;", 2, nine.length() + 1);
        String more = tasks(9, ops(10, "ring 9"));
        Due.good(more + "task k fair share 1;");
        Due.fault(more + "task k fair share 1 work 1;", 2, more.length() + 20);
        Due.due("none", Due.of(tasks(3, "")).about(10), 0);
    }

    /** "(bytes from 0; the end: the text's length)" */
    private static void placesAreBytesFromNothing() {
        Due.fault(";", 2, 0);
        Due.fault(" ;", 2, 1);
        Due.fault("\n\n\n;", 2, 3);
        Due.fault("?", 1, 0);
        String[] parts = {"task", " a", " server", " every", " 1", " budget", " 1", " share", " 1", " work", " 1"};
        StringBuilder text = new StringBuilder();
        for (String part : parts) {
            text.append(part);
            Due.fault(text.toString(), 2, text.length());
            Due.fault(text + "  \n", 2, text.length() + 3);
            Due.fault(text + " fair", 2, text.length() + (part.equals(" a") ? 5 : 1));
        }
        Due.fault("cores", 2, 5);
        Due.fault("cores 1", 2, 7);
    }

    /** "FAULTS of a text, the first by its place" */
    private static void theFirstByItsPlace() {
        Due.fault("cores 9;?", 4, 6);
        Due.fault("?cores 9;", 1, 0);
        Due.fault("cores 9;cores 9;", 4, 6);
        Due.fault("cores 1;cores 9;", 2, 8);
        Due.fault("task a fair share 1;task a fair share 0 ?", 3, 25);
        Due.fault("task a fair share 0;task a fair share 1;", 4, 18);
        Due.fault("task a ? task a fair share 1;", 1, 7);
        Due.fault("task a fair share 0 work 0;", 4, 18);
        Due.fault("task a fair share 1 work 0", 4, 25);
        Due.fault("task a fair share 1 work 1 work 0", 4, 32);
        Due.fault("task a fair share 1 lock 5 1 work 0", 2, 27);
    }

    /** "at one place the least" */
    private static void atOnePlaceTheLeast() {
        Due.fault("cores 1 9999;", 2, 8);
        Due.fault("cores 12345;", 1, 6);
        Due.fault("cores 9x;", 1, 6);
        Due.fault("9999", 2, 0);
        Due.fault("99999", 1, 0);
        Due.fault("task a fair share 1;task b a", 2, 27);
        Due.fault("task abcdefgh fair share 1;task abcdefghi fair share 1;", 1, 32);
        Due.fault("task a fair share 1 work a;", 2, 25);
    }

    /** "3 a NAME told already" */
    private static void namesToldAlready() {
        Due.fault("task a fair share 1;task a batch share 2 work 1;", 3, 25);
        Due.fault("task a fair share 1;\ntask\na", 3, 26);
        Due.fault("task a fair share 1;task b fair share 1;task a fair share 1;", 3, 45);
        Due.fault("task a fair share 1;task b fair share 1;task b fair share 1;", 3, 45);
        Due.fault("task aaaaaaaa fair share 1;task aaaaaaaa fair share 1;", 3, 32);
        Due.good("task aaaaaaaa fair share 1;task aaaaaaab fair share 1;task baaaaaaa fair share 1;task aaaaaaa fair share 1;");
        Due.good("task a fair share 1;task aa fair share 1;task aaa fair share 1;");
        FairWheel x = Due.of("task a fair share 1 work 1;");
        Due.due("each text has its own names", Due.kernel(x, "task a fair share 1 work 1;"), 1);
        String nine = tasks(9, "");
        Due.fault(nine + "task i fair share 1;", 3, nine.length() + 5);
        Due.fault(nine + "task a fair share 1;", 3, nine.length() + 5);
    }

    /** "The TAPE (empty then) is the KERNEL (TICK 0, all at first ..): how many TASKS" */
    private static void kernelTakesTheTape() {
        FairWheel x = Look.busy();
        Due.due("one task", x.kernel(), 1);
        Due.due("the tape is empty", x.about(9), 0);
        Due.dueTask("all at first", x, 0, 0, 0, 7, 0, 0, 5, 0, 0, 0, -1, 0, 0, 0, -2);
        Due.due("the next one is empty", x.kernel(), 0);
        Due.due("no task", x.about(0), 0);
        Due.due("one processor", x.about(1), 1);
        x = new FairWheel();
        Due.feed(x, Due.blanks(1700));
        x.kernel();
        Due.due("room for as much", Due.feed(x, Due.blanks(1700)), 1700);
    }

    /** "all at first": nothing of a worn TASK of the same number is left. */
    private static void allAtFirst() {
        String worn = "locks 2;task a server every 2 budget 1 share 3 lock 0 work 1 lock 1 work 1;"
                + "task b deadline every 3 budget 3 share 1 lock 1 lock 0 work 2;task c fair share 1 work 9;";
        for (int ticks = 1; ticks <= 12; ticks++) {
            FairWheel x = Due.of(worn);
            x.run(ticks);
            x.image(0);
            x.soon(2);
            x.enough(2, 50);
            Due.kernel(x, worn);
            Look.same("all at first behind " + ticks, x, Due.of(worn));
            x.run(ticks);
            FairWheel twin = Due.of(worn);
            twin.run(ticks);
            Look.same("and so it goes on behind " + ticks, x, twin);
        }
        FairWheel x = Due.of(worn);
        x.run(20);
        Due.due("b erred", x.task(1, 8) + x.task(0, 8), 4);
        int erred = x.task(1, 8) == 4 ? 1 : 0;
        Due.due("its ring", x.ring(erred, 1), 1 - erred);
        Due.kernel(x, worn);
        Due.due("no ring", x.ring(erred, 0), -1);
        Due.due("no error", x.task(erred, 8), 0);
    }

    /** "; 1), .. ; 0), .. ; 0)": what a text does not tell is so, whatever earlier texts told. */
    private static void whatIsNotToldIsAsAtFirst() {
        FairWheel x = new FairWheel();
        for (int i = 0; i < 4; i++) {
            Due.due("told", Due.kernel(x, "cores 4;locks 6;bells 4;" + tasks(10, ops(9, "lock 5"))), 10);
            Due.due("a fault between", Due.kernel(x, "cores 3;locks 5;bells 3;task a fair share 1 work 1;?"), -1);
            Due.due("it leaves what was told", x.about(1) + 10 * x.about(2) + 100 * x.about(3), 464);
            Due.due("it leaves the ops", x.about(10), 90);
            for (int j = 0; j <= i; j++) {
                Due.due("nothing told", Due.kernel(x, ""), 0);
                Due.due("cores", x.about(1), 1);
                Due.due("locks", x.about(2), 0);
                Due.due("bells", x.about(3), 0);
                Due.due("ops", x.about(10), 0);
            }
        }
    }

    /** "no CHOICES are TOLD, SIGHTS are none, BOXES are empty then; the TIME stays" */
    private static void kernelClearsWhatWas() {
        FairWheel x = Look.busy();
        x.image(0);
        x.image(2);
        x.kernel();
        Due.due("tick", x.about(4), 0);
        Due.due("choices", x.about(6), 0);
        Due.due("sights", x.about(7), 0);
        Due.due("time", x.about(8), 5);
        Due.due("boxes", x.back(0) + x.back(1) + x.back(2), -3);
        Due.due("rows", x.chosen(0, 0), -1);
        Due.due("hush", x.hush(), 0);
        Due.due("untell", x.untell(1), false);
        Due.due("sights are numbered anew", x.sight(0, 0, true), 0);
        Due.due("it is told at the time", x.fits(0, 4), (1L << 41) - 2);
        Due.due("choices are counted anew", x.tell(0, 0, 0), 1);
        Due.due("the same text once more is all at first", Due.kernel(x, Look.BUSY), 6);
        Due.dueTask("as told", x, 3, 0, 0, 0, 0, 0, 7, 0, 0, 0, -1, 0, 0, 0);
        Due.due("no holder", x.holder(0) + x.holder(1), -2);
    }

    /** "NONE: a FAULT (all stays)" */
    private static void aFaultLeavesAll() {
        String[] texts = {"cores 3;task z fair share 5 work 7;?", "cores 3;task z fair share 5 work 7;;",
            "cores 3;task z fair share 5 work 7;task z", "cores 3;task z fair share 5 work 7;task y fair share 0"};
        int[] places = {35, 35, 40, 53};
        for (int i = 0; i < texts.length; i++) {
            FairWheel x = Look.busy();
            FairWheel twin = Look.busy();
            String behind = texts[i].substring(Look.TAPE.length());
            Due.feed(x, behind);
            Due.feed(twin, behind);
            Due.due("refused", x.kernel(), -1);
            Due.due("its fault", x.fault(0), i + 1);
            Due.due("its place", x.fault(1), places[i]);
            Look.same("a fault did something", x, twin);
            Due.due("run", x.run(1), twin.run(1));
            Due.due("refused again", x.kernel(), -1);
            Due.due("its fault again", x.fault(0), i + 1);
            Due.due("back", x.back(1), twin.back(1));
            Look.same("a fault did something", x, twin);
            Due.due("end", x.end(Look.TAPE.length()), Look.TAPE.length());
            Due.due("taken", x.kernel(), 1);
            Due.due("cores", x.about(1), 3);
            Due.due("no fault", x.fault(0), 0);
            Due.due("no place", x.fault(1), -1);
        }
    }

    /** "Of the latest kernel() what 0: its FAULT (0), 1: its place (NONE). NONE for another what." */
    private static void faultOfTheLatest() {
        FairWheel x = new FairWheel();
        for (int what : new int[] {-1, 2, 3, Integer.MIN_VALUE, Integer.MAX_VALUE}) {
            Due.due("another what", x.fault(what), -1);
        }
        Due.due("none yet", x.fault(0), 0);
        Due.due("no place yet", x.fault(1), -1);
        Due.kernel(x, "?");
        Due.due("fault", x.fault(0), 1);
        Due.due("place", x.fault(1), 0);
        Due.due("another what", x.fault(2), -1);
        Due.due("another what", x.fault(-1), -1);
        x.run(1);
        x.end(0);
        Due.due("still that of the latest", x.fault(0), 1);
        Due.kernel(x, " cores 9");
        Due.due("fault", x.fault(0), 4);
        Due.due("place", x.fault(1), 7);
        Due.kernel(x, "");
        Due.due("fault", x.fault(0), 0);
        Due.due("place", x.fault(1), -1);
    }
}
