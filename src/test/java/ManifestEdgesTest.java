/** Promise 8, edges: the least and the most of what a manifest may hold, its faults, and which is met first. */
public final class ManifestEdgesTest {
    private static final Check CHECK = new Check("edges of manifests");
    private static final int[] NONE = {255};
    private static final int[] CLIENT = {5, 0, 0, Op.CLIENT};
    private static final int[] SERVER = {5, 0, 0, Op.SERVER};

    public static void main(String[] args) {
        firstBytes();
        processes();
        modules();
        functions();
        heaps();
        ints();
        numbersOfEnds();
        allNumbers();
        parametersThatAreNeither();
        usedTwice();
        sameSide();
        usedOnce();
        firstFromTheLeft();
        theEnd();
        refused();
        goneThen();
        fromTheBeginning();
        inTheOrderOfFirstUses();
        CHECK.end();
    }

    /** Function 0 takes nothing, 1 an INT, 2 the client's end, 3 the server's, 4 two INTs, 5 both ends, 6 has a result. */
    private static int[] module() {
        Code exit = new Code().op(Op.EXIT);
        return new Build().contract(2, Op.CLIENTS, 1, 255, 1, Op.NOBODYS, 0)
            .function(0, exit)
            .function(1, Build.types(0), NONE, 1, exit)
            .function(1, CLIENT, NONE, 1, exit)
            .function(1, SERVER, NONE, 1, exit)
            .function(2, Build.types(0, 0), NONE, 2, exit)
            .function(2, Build.joined(CLIENT, SERVER), NONE, 2, exit)
            .function(0, Build.types(), Build.types(0), 0, exit)
            .bytes();
    }

    private static SealedProcesses fault(String what, int fault, int place, int... manifest) {
        SealedProcesses x = new SealedProcesses();
        Build.load(x, module());
        told(x, what, fault, place, manifest);
        return x;
    }

    private static void told(SealedProcesses x, String what, int fault, int place, int... manifest) {
        CHECK.due(what, Build.boot(x, manifest), fault == 0 ? manifest[2] : -1);
        CHECK.due(what + ": fault", x.fault(0), fault);
        CHECK.due(what + ": place", x.fault(1), fault == 0 ? -1 : place);
    }

    private static int[] manifest(int count, int[]... processes) {
        int[] made = {83, 70, count};
        for (int[] process : processes) {
            made = Build.joined(made, process);
        }
        return made;
    }

    private static int[] bytes(int... bytes) {
        return bytes;
    }

    private static void firstBytes() {
        CHECK.sentence("A MANIFEST is bytes: 83, 70");
        fault("83, 70", 0, -1, 83, 70, 1, 0, 0, 1);
        for (int other : new int[] {0, 77, 82, 84, 255}) {
            fault("first " + other, 1, 0, other, 70, 1, 0, 0, 1);
        }
        for (int other : new int[] {0, 69, 71, 77, 83, 255}) {
            fault("second " + other, 1, 1, 83, other, 1, 0, 0, 1);
        }
    }

    private static void processes() {
        CHECK.sentence("P (1 to 6), then for each process");
        for (int p : new int[] {0, 1, 2, 5, 6, 7, 8, 255}) {
            int[] made = manifest(p);
            for (int i = 0; i < p; i++) {
                made = Build.joined(made, 0, 0, 1);
            }
            boolean right = p >= 1 && p <= 6;
            SealedProcesses x = fault(p + " processes", right ? 0 : 1, 2, made);
            CHECK.due(p + " processes: there", x.about(2), right ? p : -1);
            CHECK.due(p + " processes: the last", x.process(p - 1, 0), right ? 1 : -1);
            CHECK.due(p + " processes: none behind it", x.process(p, 0), -1);
        }
    }

    private static void modules() {
        CHECK.sentence("3 a module that is not there");
        for (int there = 0; there <= 5; there++) {
            SealedProcesses x = new SealedProcesses();
            for (int m = 0; m <= 5; m++) {
                Build.load(x, module());
            }
            for (int m = 0; m <= 5; m++) {
                if (m != there) {
                    x.discard(m);
                }
            }
            for (int m : new int[] {0, 1, 2, 3, 4, 5, 6, 7, 128, 255}) {
                told(x, "module " + m + " where " + there + " is", m == there ? 0 : 3, 3, 83, 70, 1, m, 0, 1);
                CHECK.due("its place", x.process(0, 2), m < there ? -1 : there);
            }
            x.discard(there);
            told(x, "an empty shelf", 3, 3, 83, 70, 1, there, 0, 1);
        }
        fault("the second process's module", 3, 6, 83, 70, 2, 0, 0, 1, 1, 0, 1);
    }

    private static void functions() {
        CHECK.sentence("4 a function that is not there, has a result (at the function's byte)");
        for (int f : new int[] {0, 1, 2, 3, 4, 5, 6, 7, 8, 128, 255}) {
            int[] made = f == 1 ? bytes(83, 70, 1, 0, 1, 1, 0, 0, 0, 0) : f == 4 ? bytes(83, 70, 1, 0, 4, 1, 0, 0, 0, 0, 0, 0, 0, 0)
                : f == 5 ? bytes(83, 70, 1, 0, 5, 1, 0, 0) : bytes(83, 70, 1, 0, f, 1, 0);
            if (f == 0) {
                made = bytes(83, 70, 1, 0, 0, 1);
            }
            boolean oneEnd = f == 2 || f == 3;
            fault("function " + f, f >= 6 ? 4 : oneEnd ? 6 : 0, oneEnd ? 7 : 4, made);
        }
        for (int[] result : new int[][] {{0}, {1, 0}, {2}, {3, 0}, {4, 1}, {5, 0, 0, 0}}) {
            SealedProcesses x = new SealedProcesses();
            Build.load(x, Sample.declarations().function(0, Build.types(), result, 0, new Code().op(Op.EXIT)).bytes());
            told(x, "a result of type " + result[0], 4, 4, 83, 70, 1, 0, 0, 1);
        }
        fault("the second process's function", 4, 7, 83, 70, 2, 0, 0, 1, 0, 6, 1);
        fault("a function that is not there, at the end", 4, 4, 83, 70, 1, 0, 7);
    }

    private static void heaps() {
        CHECK.sentence("S (1 to 64); with HEAPS of 16 S cells");
        for (int s : new int[] {0, 1, 2, 63, 64, 65, 128, 255}) {
            boolean right = s >= 1 && s <= 64;
            SealedProcesses x = fault("S " + s, right ? 0 : 1, 5, 83, 70, 1, 0, 0, s);
            CHECK.due("S " + s + ": cells", x.process(0, 8), right ? 16 * s : -1);
            SealedProcesses y = fault("S " + s + " of the second", right ? 0 : 1, 8, 83, 70, 2, 0, 0, 3, 0, 0, s);
            CHECK.due("S " + s + " of the second: cells of the first", y.process(0, 8), right ? 48 : -1);
            CHECK.due("S " + s + " of the second: cells", y.process(1, 8), right ? 16 * s : -1);
        }
    }

    private static void ints() {
        CHECK.sentence("of an INT a K (four bytes, the highest first, with a sign)");
        for (int number : new int[] {0, 1, -1, 127, 128, 255, 256, 65535, 65536, 0x01020304, 0x80FF7F00, Integer.MAX_VALUE, Integer.MIN_VALUE}) {
            int[] k = {number >> 24 & 255, number >> 16 & 255, number >> 8 & 255, number & 255};
            SealedProcesses x = fault("K " + number, 0, -1, manifest(1, bytes(0, 4, 1), bytes(0, 0, 0, 7), k));
            CHECK.due("the first", x.value(0, 1, 0), 7);
            CHECK.due("the second", x.value(0, 1, 1), number);
        }
    }

    private static void numbersOfEnds() {
        CHECK.sentence("of an end a number 0 to 7");
        for (int e : new int[] {0, 1, 6, 7, 8, 9, 128, 255}) {
            SealedProcesses x = fault("number " + e, e <= 7 ? 0 : 1, 6, 83, 70, 1, 0, 5, 1, e, e);
            CHECK.due("number " + e + ": channels", x.about(3), e <= 7 ? 1 : -1);
            fault("number " + e + ", the second use", e == 7 ? 0 : e < 7 ? 6 : 1, e < 7 ? 8 : 7, 83, 70, 1, 0, 5, 1, 7, e);
        }
    }

    /** Eight numbers, each for a channel: the most there can be. */
    private static void allNumbers() {
        CHECK.sentence("a channel for each number, in the order of the numbers' first uses");
        SealedProcesses x = new SealedProcesses();
        Build.load(x, new Build().contract(1, Op.NOBODYS, 0)
            .function(4, Build.joined(Build.joined(CLIENT, CLIENT), Build.joined(CLIENT, CLIENT)), NONE, 4, new Code().op(Op.EXIT))
            .function(4, Build.joined(Build.joined(SERVER, SERVER), Build.joined(SERVER, SERVER)), NONE, 4, new Code().op(Op.EXIT)).bytes());
        told(x, "eight numbers", 0, -1, manifest(4, bytes(0, 0, 1, 7, 6, 5, 4), bytes(0, 1, 1, 0, 4, 1, 5), bytes(0, 1, 1, 2, 7, 3, 6), bytes(0, 0, 1, 3, 2, 1, 0)));
        // First uses: 7, 6, 5, 4 are channels 0 to 3; then 0, 1, 2, 3 are 4 to 7.
        int[][] due = {{0, 2, 4, 6}, {9, 7, 11, 5}, {13, 1, 15, 3}, {14, 12, 10, 8}};
        for (int p = 0; p < 4; p++) {
            for (int i = 0; i < 4; i++) {
                CHECK.due("end " + i + " of process " + p, x.value(p, 1, i), due[p][i]);
                CHECK.due("its owner", x.channel(due[p][i] / 2, due[p][i] % 2, 1), p);
            }
        }
        CHECK.due("channels", x.about(3), 8);
        CHECK.due("no ninth", x.channel(8, 0, 0), -1);
    }

    private static void parametersThatAreNeither() {
        CHECK.sentence("4 .. a parameter that is neither INT nor an end in state 0 (at the function's byte)");
        for (Sample sample : Sample.ALL) {
            if (sample == Sample.NIL) {
                continue;
            }
            boolean bootable = sample == Sample.INT || sample.kind() == 5 && sample.bytes[2] == 0;
            for (int place = 0; place < 4; place++) {
                int[] types = {};
                for (int i = 0; i < 4; i++) {
                    types = Build.joined(types, i == place ? sample.bytes : Sample.INT.bytes);
                }
                SealedProcesses x = new SealedProcesses();
                Build.load(x, Sample.declarations().function(4, types, NONE, 4, new Code().op(Op.EXIT)).bytes());
                int[] given = new int[sample == Sample.INT ? 16 : 13];
                int end = 3 + 3 + given.length;
                int fault = !bootable ? 4 : sample == Sample.INT ? 0 : 6;
                told(x, "parameter " + place + " is " + sample, fault, bootable ? end : 4, manifest(1, bytes(0, 0, 1), given));
            }
        }
    }

    private static void usedTwice() {
        CHECK.sentence("5 a number of an end that was used twice");
        int[] both = {0, 5, 1, 3, 3};
        fault("used twice", 0, -1, manifest(1, both));
        fault("used three times, by the client's side", 5, 11, manifest(2, both, bytes(0, 2, 1, 3)));
        fault("used three times, by the server's side", 5, 11, manifest(2, both, bytes(0, 3, 1, 3)));
        fault("another number", 6, 12, manifest(2, both, bytes(0, 3, 1, 4)));
        fault("used four times", 5, 11, manifest(2, both, both));
        fault("two numbers, each twice", 0, -1, manifest(2, both, bytes(0, 5, 1, 4, 4)));
    }

    private static void sameSide() {
        CHECK.sentence("5 .. whose other use is of the same side");
        fault("client's and server's", 0, -1, manifest(2, bytes(0, 2, 1, 0), bytes(0, 3, 1, 0)));
        fault("server's and client's", 0, -1, manifest(2, bytes(0, 3, 1, 0), bytes(0, 2, 1, 0)));
        fault("client's twice", 5, 10, manifest(2, bytes(0, 2, 1, 0), bytes(0, 2, 1, 0)));
        fault("server's twice", 5, 10, manifest(2, bytes(0, 3, 1, 0), bytes(0, 3, 1, 0)));
    }

    private static void usedOnce() {
        CHECK.sentence("6 at the end: a number was used just once");
        fault("one once", 6, 7, manifest(1, bytes(0, 2, 1, 0)));
        fault("the last number once", 6, 7, manifest(1, bytes(0, 3, 1, 7)));
        fault("two once each", 6, 11, manifest(2, bytes(0, 2, 1, 0), bytes(0, 3, 1, 1)));
        fault("one once, one twice", 6, 12, manifest(2, bytes(0, 5, 1, 1, 1), bytes(0, 3, 1, 0)));
        fault("none", 0, -1, manifest(1, bytes(0, 0, 1)));
    }

    private static void firstFromTheLeft() {
        CHECK.sentence("The first that is met from the left");
        fault("P ahead of a module", 1, 2, 83, 70, 7, 9, 0, 1);
        fault("a module ahead of its function", 3, 3, 83, 70, 1, 1, 9, 0);
        fault("a function ahead of its S", 4, 4, 83, 70, 1, 0, 9, 0);
        fault("S ahead of the parameters", 1, 5, 83, 70, 1, 0, 2, 0, 9);
        fault("a number of an end ahead of the next process", 1, 6, 83, 70, 2, 0, 2, 1, 9, 9, 9, 9);
        fault("a use ahead of the next process", 5, 10, manifest(3, bytes(0, 2, 1, 0), bytes(0, 2, 1, 0), bytes(9, 9, 9)));
        fault("a module ahead of the end", 3, 7, 83, 70, 2, 0, 2, 1, 0, 6);
        fault("the end ahead of a number used once", 1, 7, 83, 70, 2, 0, 2, 1, 0);
        fault("a byte too many ahead of a number used once", 1, 7, 83, 70, 1, 0, 2, 1, 0, 0);
    }

    private static void theEnd() {
        CHECK.sentence("FAULTS: 1 like that of modules (the end, and what stands behind)");
        int[] whole = manifest(3, bytes(0, 4, 64, 255, 255, 255, 255, 128, 0, 0, 0), bytes(0, 5, 1, 7, 7), bytes(0, 0, 2));
        fault("the whole", 0, -1, whole);
        for (int n = 0; n < whole.length; n++) {
            fault("the first " + n, 1, n, Build.first(whole, n));
        }
        for (int more : new int[] {0, 1, 83, 255}) {
            fault("behind it " + more, 1, whole.length, Build.joined(whole, more));
        }
    }

    private static void refused() {
        CHECK.sentence("boot: NONE with a fault: what runs stays");
        SealedProcesses x = fault("booted", 0, -1, manifest(2, bytes(0, 1, 2, 0, 0, 0, 9), bytes(0, 5, 1, 0, 0)));
        int[][] faulty = {{83, 70, 7}, {83, 70, 1, 1, 0, 1}, {83, 70, 1, 0, 6, 1}, {83, 70, 1, 0, 2, 1, 0}, manifest(2, bytes(0, 2, 1, 0), bytes(0, 2, 1, 0)), {}};
        int[] faults = {1, 3, 4, 6, 5, 1};
        for (int i = 0; i < faulty.length; i++) {
            CHECK.due("boot with fault " + faults[i], Build.boot(x, faulty[i]), -1);
            CHECK.due("its fault", x.fault(0), faults[i]);
            CHECK.due("processes", x.about(2), 2);
            CHECK.due("channels", x.about(3), 1);
            CHECK.due("a local", x.value(0, 1, 0), 9);
            CHECK.due("a heap", x.process(0, 8), 32);
        }
        CHECK.due("it goes on", x.run(10), 2);
    }

    private static void goneThen() {
        CHECK.sentence("BOOT: all that ran is gone; processes 0 to P - 1 are there");
        SealedProcesses x = new SealedProcesses();
        Build.load(x, new Build().record(2, 0, 0).contract(2, Op.CLIENTS, 1, 4, 0, 1, Op.NOBODYS, 0)
            .function(0, new Code().op(Op.CHANNEL, 0, Op.SWAP, Op.BLOCK, 0, Op.SEND, 0, Op.BLOCK, 0).push(5).op(Op.OUT, Op.SPAWN, 1).op(Op.YIELD, Op.YIELD, Op.EXIT))
            .function(0, new Code().op(Op.YIELD, Op.EXIT)).bytes());
        told(x, "booted", 0, -1, manifest(3, bytes(0, 0, 1), bytes(0, 0, 1), bytes(0, 0, 1)));
        x.run(25);
        CHECK.due("steps", x.about(0), 25);
        CHECK.due("processes", x.process(5, 0), 1);
        CHECK.due("channels", x.about(3), 3);
        CHECK.due("blocks", x.about(4), 6);
        CHECK.due("OUTs", x.about(6), 3);
        told(x, "booted again", 0, -1, manifest(2, bytes(0, 1, 2), bytes(0, 1, 4)));
        int[] due = {0, 0, 2, 0, 0, 0, 0};
        for (int what = 0; what < 7; what++) {
            CHECK.due("about(" + what + ")", x.about(what), due[what]);
        }
        for (int p = 0; p < 12; p++) {
            CHECK.due("process " + p, x.process(p, 0), p < 2 ? 1 : -1);
            CHECK.due("steps of process " + p, x.process(p, 9), p < 2 ? 0 : -1);
            CHECK.due("channel " + p, x.channel(p, 0, 0), -1);
            CHECK.due("channel " + p, x.channel(p, 1, 2), -1);
            CHECK.due("block " + p, x.block(p, 0), -1);
            CHECK.due("OUT " + p, x.output(p, 1), -1);
        }
        CHECK.due("from process 0 on", x.run(1), 1);
        CHECK.due("from process 0 on", x.process(0, 9), 1);
    }

    /** However far what ran came, and whoever's turn it was, what is booted begins at its beginning. */
    private static void fromTheBeginning() {
        CHECK.sentence("BOOT: all that ran is gone (whatever was on stacks, in locals, in heaps, and whose turn it was)");
        int[] module = new Build().record(1, 0)
            .function(4, Build.types(0, 0, 0, 0), NONE, 4, new Code().times(3, Op.LOAD, 3).push(9).op(Op.ROW, Op.DUP, Op.STORE, 0, Op.CALL, 1, Op.EXIT))
            .function(0, new Code().op(Op.NIL, Op.NIL, Op.BLOCK, 0).label("y").op(Op.YIELD).jump("y"))
            .function(10, new Code().label("a").op(Op.NIL, Op.POP).jump("a")).bytes();
        int[] ints = {0, 0, 0, 11, 0, 0, 0, 12, 0, 0, 0, 13, 0, 0, 0, 14};
        for (int steps = 0; steps <= 30; steps++) {
            SealedProcesses x = new SealedProcesses();
            Build.load(x, module);
            Build.boot(x, manifest(2, Build.joined(bytes(0, 0, 1), ints), Build.joined(bytes(0, 0, 1), ints)));
            x.run(steps);
            Build.boot(x, manifest(2, bytes(0, 2, 1), bytes(0, 2, 1)));
            for (int p = 0; p < 2; p++) {
                int[] due = {1, 0, 0, 2, 0, 1, 0, 0, 16, 0};
                for (int i = 0; i < 10; i++) {
                    CHECK.due("process(" + p + ", " + i + ") behind " + steps, x.process(p, i), due[i]);
                    CHECK.due("local " + i + " behind " + steps, x.value(p, 1, i), 0);
                }
                CHECK.due("the stack behind " + steps, x.value(p, 0, 0), Integer.MIN_VALUE);
            }
            x.run(8);
            CHECK.due("the first's turn behind " + steps, x.process(0, 9), 8);
            x.run(8);
            CHECK.due("then the second's", x.process(1, 9), 8);
        }
    }

    private static void inTheOrderOfFirstUses() {
        CHECK.sentence("a channel for each number, in the order of the numbers' first uses (not of the numbers)");
        SealedProcesses x = fault("7 ahead of 0", 0, -1, manifest(4, bytes(0, 3, 1, 7), bytes(0, 2, 1, 0), bytes(0, 3, 1, 0), bytes(0, 2, 1, 7)));
        int[] due = {1, 2, 3, 0};
        for (int p = 0; p < 4; p++) {
            CHECK.due("the end of process " + p, x.value(p, 1, 0), due[p]);
        }
    }
}
