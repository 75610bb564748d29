/** Promises 2, 3, 4, 5 and 8, edges: how much the tape holds, what is taken from it, the shelf's six places, and faults that are told. */
public final class TapeEdgesTest {
    private static final Check CHECK = new Check("edges of the tape and the shelf");
    private static final int[] LEAST = {83, 77, 0, 0, 1, 0, 255, 0, 1, Op.RETURN};
    private static final int[] MANIFEST = {83, 70, 1, 0, 0, 1};

    public static void main(String[] args) {
        twoThousand();
        refusedFeed();
        highestFirst();
        howManyBytes();
        emptyThen();
        doingNothing();
        noBytes();
        sixPlaces();
        lowestFree();
        fullShelf();
        ofTheLatest();
        gone();
        whatRunsKeeps();
        lastCall();
        CHECK.end();
    }

    private static SealedProcesses fed(int times) {
        SealedProcesses x = new SealedProcesses();
        for (int i = 0; i < times; i++) {
            x.feed(0, 0, 0, 0, 0);
        }
        return x;
    }

    private static void twoThousand() {
        CHECK.sentence("feed: how many there are. NONE when there would be more than 2,000");
        SealedProcesses x = new SealedProcesses();
        for (int i = 1; i <= 100; i++) {
            CHECK.due("feed " + i, x.feed(i, -i, 0, Integer.MAX_VALUE, Integer.MIN_VALUE), 20 * i);
        }
        for (int i = 0; i < 3; i++) {
            CHECK.due("feed " + (101 + i), x.feed(0, 0, 0, 0, 0), -1);
        }
        CHECK.due("all are there", x.load(2000), -1);
        CHECK.due("a whole tape again", x.feed(0, 0, 0, 0, 0), 20);
    }

    private static void refusedFeed() {
        CHECK.sentence("feed: NONE .. changes nothing");
        SealedProcesses x = new SealedProcesses();
        Build.feed(x, LEAST);
        for (int i = 1; i < 100; i++) {
            x.feed(0, 0, 0, 0, 0);
        }
        CHECK.due("feed of 101", x.feed(-1, -1, -1, -1, -1), -1);
        CHECK.due("no more than there were", x.load(2001), -2);
        CHECK.due("the first bytes are as they were", x.load(10), 0);
    }

    private static void highestFirst() {
        CHECK.sentence("feed: Twenty bytes come behind those on the tape: four of each number, the highest first");
        int[] numbers = {0x00000000, 0x01020304, 0x7F80FF00, 0x80000001, 0xFFFFFFFF, 0xFF000000, 0x000000FF};
        for (int number : numbers) {
            for (int place = 0; place < 5; place++) {
                tellsBack(number, place);
            }
        }
    }

    /** PUSH's number stands as the first to the fifth number of the second feed. */
    private static void tellsBack(int number, int place) {
        // Ahead of it stand 20 + 4 * place bytes: nine of them tell the module, one is PUSH, and the others are YIELD.
        int ahead = 20 + 4 * place - 10;
        int[] bytes = Build.joined(new int[] {83, 77, 0, 0, 1, 0, 255, 0, ahead + 7}, new Code().times(ahead, Op.YIELD).push(0).op(Op.OUT, Op.RETURN).bytes());
        int[] words = new int[15];
        for (int i = 0; i < bytes.length; i++) {
            words[i / 4] |= bytes[i] << 24 - 8 * (i % 4);
        }
        words[5 + place] = number;
        SealedProcesses x = new SealedProcesses();
        for (int i = 0; i < 15; i += 5) {
            CHECK.due("feed", x.feed(words[i], words[i + 1], words[i + 2], words[i + 3], words[i + 4]), 4 * i + 20);
        }
        CHECK.due("load", x.load(bytes.length), 0);
        Build.boot(x, MANIFEST);
        x.run(1000);
        CHECK.due("number " + place + ", " + number, x.output(0, 1), number);
    }

    private static void howManyBytes() {
        CHECK.sentence("load, boot: -2, doing nothing, when n is below 0 or more than there are");
        for (int times : new int[] {0, 1, 2, 50, 99, 100}) {
            int there = 20 * times;
            for (int n : new int[] {Integer.MIN_VALUE, -2, -1, 0, 1, there - 1, there, there + 1, there + 20, 2001, Integer.MAX_VALUE}) {
                int due = n < 0 || n > there ? -2 : -1;
                SealedProcesses x = fed(times);
                CHECK.due("load(" + n + ") of " + there, x.load(n), due);
                CHECK.due("what is there then", x.feed(0, 0, 0, 0, 0), due == -1 ? 20 : there == 2000 ? -1 : there + 20);
                CHECK.due("a fault", x.fault(0), due == -1 ? 1 : -1);
                SealedProcesses y = fed(times);
                CHECK.due("boot(" + n + ") of " + there, y.boot(n), due);
                CHECK.due("what is there then", y.feed(0, 0, 0, 0, 0), due == -1 ? 20 : there == 2000 ? -1 : there + 20);
                CHECK.due("a fault", y.fault(0), due == -1 ? 1 : -1);
            }
        }
    }

    private static void emptyThen() {
        CHECK.sentence("The first n bytes of the tape (which is empty then)");
        SealedProcesses x = new SealedProcesses();
        Build.feed(x, LEAST);
        Build.feed(x, LEAST);
        CHECK.due("load of the first", x.load(10), 0);
        CHECK.due("the second is gone", x.load(1), -2);
        Build.feed(x, LEAST);
        CHECK.due("load of fewer", x.load(9), -1);
        CHECK.due("all is gone", x.load(1), -2);
        Build.feed(x, LEAST);
        CHECK.due("load of more, which are 0", x.load(11), -1);
        CHECK.due("the place", x.fault(1), 10);
        Build.feed(x, MANIFEST);
        Build.feed(x, MANIFEST);
        CHECK.due("boot of the first", x.boot(6), 1);
        CHECK.due("the second is gone", x.boot(1), -2);
        Build.feed(x, MANIFEST);
        CHECK.due("boot of fewer", x.boot(5), -1);
        CHECK.due("all is gone", x.boot(1), -2);
        Build.feed(x, MANIFEST);
        CHECK.due("boot of more, which are 0", x.boot(7), -1);
        CHECK.due("the place", x.fault(1), 6);
        // A tape that was long has nothing of it left behind what comes next.
        SealedProcesses y = new SealedProcesses();
        for (int i = 0; i < 100; i++) {
            y.feed(-1, -1, -1, -1, -1);
        }
        CHECK.due("load of a long tape", y.load(0), -1);
        Build.feed(y, LEAST);
        CHECK.due("load of more than there are now", y.load(21), -2);
        CHECK.due("load of just what there is", y.load(20), -1);
        CHECK.due("the place", y.fault(1), 10);
    }

    private static void doingNothing() {
        CHECK.sentence("-2, doing nothing");
        SealedProcesses x = new SealedProcesses();
        CHECK.due("load", Build.load(x, LEAST), 0);
        CHECK.due("a fault", Build.load(x, 83, 77, 9), -1);
        Build.feed(x, MANIFEST);
        for (int n : new int[] {-1, 21, Integer.MIN_VALUE, Integer.MAX_VALUE}) {
            CHECK.due("load(" + n + ")", x.load(n), -2);
            CHECK.due("boot(" + n + ")", x.boot(n), -2);
            CHECK.due("the fault stays", x.fault(0), 1);
            CHECK.due("the place stays", x.fault(1), 2);
            CHECK.due("the module stays", x.module(0, 0, 3), 10);
            CHECK.due("nothing is booted", x.about(0), -1);
        }
        CHECK.due("the tape stays", x.boot(6), 1);
        CHECK.due("boot(1) of none", x.boot(1), -2);
        CHECK.due("what runs stays", x.about(2), 1);
        CHECK.due("no fault stays so", x.fault(0), 0);
    }

    private static void noBytes() {
        CHECK.sentence("load(0), boot(0): no bytes are no module and no manifest: 1, with its place: the end");
        SealedProcesses x = new SealedProcesses();
        CHECK.due("load(0)", x.load(0), -1);
        CHECK.due("its fault", x.fault(0), 1);
        CHECK.due("its place", x.fault(1), 0);
        SealedProcesses y = new SealedProcesses();
        CHECK.due("boot(0)", y.boot(0), -1);
        CHECK.due("its fault", y.fault(0), 1);
        CHECK.due("its place", y.fault(1), 0);
        Build.feed(y, LEAST);
        CHECK.due("load(0) of 20", y.load(0), -1);
        CHECK.due("the tape is empty then", y.load(10), -2);
        Build.feed(y, LEAST);
        CHECK.due("boot(0) of 20", y.boot(0), -1);
        CHECK.due("the tape is empty then", y.load(10), -2);
    }

    /** Modules that differ by how many functions they have. */
    private static int[] module(int functions) {
        int[] made = {83, 77, 0, 0, functions};
        for (int f = 0; f < functions; f++) {
            made = Build.joined(made, 0, 255, 0, 1, Op.RETURN);
        }
        return made;
    }

    private static void sixPlaces() {
        CHECK.sentence("THE SHELF has six places for modules");
        SealedProcesses x = new SealedProcesses();
        for (int i = 0; i < 6; i++) {
            CHECK.due("load", Build.load(x, module(i + 1)), i);
            for (int m = -1; m < 8; m++) {
                CHECK.due("module(" + m + ")", x.module(m, 0, 2), m >= 0 && m <= i ? m + 1 : -1);
            }
        }
        CHECK.due("a seventh", Build.load(x, module(7)), -1);
        for (int m = 0; m < 6; m++) {
            CHECK.due("module(" + m + ") stays", x.module(m, 0, 2), m + 1);
        }
    }

    private static void lowestFree() {
        CHECK.sentence("a module gets the lowest free one");
        for (int first = 0; first < 6; first++) {
            for (int second = 0; second < 6; second++) {
                SealedProcesses x = new SealedProcesses();
                for (int i = 0; i < 6; i++) {
                    Build.load(x, module(i + 1));
                }
                CHECK.due("discard", x.discard(first), true);
                CHECK.due("discard of the second", x.discard(second), first != second);
                CHECK.due("the lower", Build.load(x, module(8)), Math.min(first, second));
                CHECK.due("the higher", Build.load(x, module(9)), first == second ? -1 : Math.max(first, second));
                CHECK.due("no third", Build.load(x, module(10)), -1);
                CHECK.due("what stands in the lower", x.module(Math.min(first, second), 0, 2), 8);
            }
        }
    }

    private static void fullShelf() {
        CHECK.sentence("load: NONE with a fault, or (0, place NONE; of one without a fault) when the shelf is full");
        SealedProcesses x = new SealedProcesses();
        for (int i = 0; i < 6; i++) {
            Build.load(x, LEAST);
        }
        CHECK.due("one with fault 2", Build.load(x, Build.changed(LEAST, 9, Op.POP)), -1);
        CHECK.due("its fault", x.fault(0), 2);
        CHECK.due("its place", x.fault(1), 9);
        CHECK.due("one without a fault", Build.load(x, LEAST), -1);
        CHECK.due("no fault", x.fault(0), 0);
        CHECK.due("no place", x.fault(1), -1);
        CHECK.due("the tape is empty then", x.load(1), -2);
        CHECK.due("one with fault 1", Build.load(x, Build.changed(LEAST, 9, 44)), -1);
        CHECK.due("its fault", x.fault(0), 1);
        CHECK.due("its place", x.fault(1), 9);
        x.discard(5);
        CHECK.due("the last place, with room again", Build.load(x, LEAST), 5);
    }

    private static void ofTheLatest() {
        CHECK.sentence("fault: Of the latest load() or boot() that was not -2: its FAULT (0: none), or (what 1) the place; NONE when there is none, and ahead of any");
        SealedProcesses x = new SealedProcesses();
        told(x, "ahead of any", -1, -1);
        x.load(-1);
        x.boot(1);
        told(x, "ahead of any that was not -2", -1, -1);
        Build.boot(x, MANIFEST);
        told(x, "boot, 3", 3, 3);
        Build.load(x, LEAST);
        told(x, "load, none", 0, -1);
        Build.load(x, 83, 77, 0, 5);
        told(x, "load, 1", 1, 3);
        Build.boot(x, MANIFEST);
        told(x, "boot, none", 0, -1);
        Build.load(x, Build.changed(LEAST, 9, Op.OUT));
        told(x, "load, 2", 2, 9);
        x.discard(0);
        x.run(5);
        told(x, "other calls change nothing", 2, 9);
        x.load(3000);
        x.boot(-7);
        told(x, "nor does -2", 2, 9);
        Build.boot(x, 83, 70, 1, 0, 0, 1);
        told(x, "boot, 3 again", 3, 3);
    }

    private static void told(SealedProcesses x, String what, int fault, int place) {
        CHECK.due(what + ": fault", x.fault(0), fault);
        CHECK.due(what + ": place", x.fault(1), place);
        for (int other : new int[] {Integer.MIN_VALUE, -1, 2, Integer.MAX_VALUE}) {
            CHECK.due(what + ": fault(" + other + ")", x.fault(other), -1);
        }
    }

    private static void gone() {
        CHECK.sentence("discard: A module goes from the shelf: true; false when there is none");
        for (int there = 0; there < 6; there++) {
            SealedProcesses x = new SealedProcesses();
            for (int i = 0; i <= there; i++) {
                Build.load(x, module(i + 1));
            }
            for (int m : new int[] {Integer.MIN_VALUE, -1, there + 1, 6, 7, Integer.MAX_VALUE}) {
                CHECK.due("discard(" + m + ") of " + (there + 1), x.discard(m), false);
            }
            CHECK.due("discard(" + there + ")", x.discard(there), true);
            CHECK.due("discard(" + there + ") again", x.discard(there), false);
            for (int m = 0; m < 6; m++) {
                CHECK.due("module(" + m + ")", x.module(m, 0, 2), m < there ? m + 1 : -1);
                CHECK.due("typeAt of " + m, x.typeAt(m, 0, 0, 1, 0), -1);
            }
        }
    }

    private static void whatRunsKeeps() {
        CHECK.sentence("What runs keeps the modules that it was booted with");
        SealedProcesses x = new SealedProcesses();
        Build.load(x, new Build().record(1, 0).function(0, new Code().op(Op.YIELD, Op.SPAWN, 1).push(1).op(Op.OUT, Op.EXIT))
            .function(0, new Code().op(Op.BLOCK, 0, Op.YIELD, Op.NEW, 0, Op.CALL, 2, Op.OUT, Op.EXIT))
            .function(0, Build.types(), Build.types(0), 0, new Code().push(77).op(Op.RETURN)).bytes());
        Build.boot(x, MANIFEST);
        x.run(1);
        CHECK.due("discard", x.discard(0), true);
        CHECK.due("another in its place", Build.load(x, LEAST), 0);
        x.run(100);
        CHECK.due("the first's OUT", x.output(0, 1), 1);
        CHECK.due("its child's OUT", x.output(1, 1), 77);
        CHECK.due("no trap", x.process(1, 0), 4);
        CHECK.due("the place when it was booted", x.process(1, 2), 0);
        CHECK.due("a new boot has the new one", Build.boot(x, MANIFEST), 1);
        CHECK.due("its steps", x.run(100), 1);
    }

    private static void lastCall() {
        CHECK.sentence("An object is used for at most 512 calls after it has been made");
        SealedProcesses x = new SealedProcesses();
        CHECK.due("load", Build.load(x, new Build().function(0, new Code().label("a").push(3).op(Op.POP).jump("a")).bytes()), 0);
        CHECK.due("boot", Build.boot(x, MANIFEST), 1);
        for (int call = 5; call <= 511; call++) {
            CHECK.due("call " + call, x.run(10000), 10000);
        }
        CHECK.due("call 512", x.about(0), 5070000);
    }
}
