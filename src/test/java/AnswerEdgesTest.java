/** Promises 6, 7 and 10 to 15, edges: numbers that name something, and the nearest that name nothing. */
public final class AnswerEdgesTest {
    private static final Check CHECK = new Check("edges of what is told");
    private static final int NO = Integer.MIN_VALUE;
    private static final int[] FAR = {Integer.MIN_VALUE, Integer.MIN_VALUE + 1, -65536, -256, -1, 256, 65536, Integer.MAX_VALUE - 1, Integer.MAX_VALUE};

    public static void main(String[] args) {
        modules();
        functions();
        theMostOnAStack();
        types();
        typesNowhere();
        about();
        processes();
        howTheyAre();
        whenOver();
        ofWhichModule();
        theHighest();
        stackPlaces();
        locals();
        kindsOfValues();
        blocks();
        fieldsOfBlocks();
        channels();
        owners();
        outputs();
        CHECK.end();
    }

    private static Code code() {
        return new Code();
    }

    private static Code yields(Code code) {
        return code.label("y").op(Op.YIELD).jump("y");
    }

    private static void modules() {
        CHECK.sentence("module: Of a module: 0 records, 1 contracts, 2 functions, 3 bytes; NONE for others (f is looked at for 10 and on alone)");
        SealedProcesses x = new SealedProcesses();
        Build build = new Build();
        for (int r = 0; r < 8; r++) {
            build.record(1, 0);
        }
        for (int c = 0; c < 4; c++) {
            build.contract(1, 0, 0);
        }
        for (int f = 0; f < 10; f++) {
            build.function(0, code().op(Op.EXIT));
        }
        Build.load(x, build.bytes());
        Build.load(x, new Build().function(0, code().op(Op.EXIT)).bytes());
        int[][] due = {{8, 4, 10, build.bytes().length}, {0, 0, 1, 10}};
        for (int m = 0; m < 2; m++) {
            for (int what = 0; what <= 3; what++) {
                for (int f : new int[] {0, 1, 9, 10, -1, Integer.MIN_VALUE, Integer.MAX_VALUE}) {
                    CHECK.due("module(" + m + ", " + f + ", " + what + ")", x.module(m, f, what), due[m][what]);
                }
            }
            for (int what : new int[] {-1, 4, 5, 6, 7, 8, 9, 15, 16, 20}) {
                CHECK.due("module(" + m + ", 0, " + what + ")", x.module(m, 0, what), -1);
            }
            for (int what : FAR) {
                CHECK.due("module(" + m + ", 0, " + what + ")", x.module(m, 0, what), -1);
            }
        }
        for (int m : new int[] {-2, 2, 5, 6, 7}) {
            CHECK.due("module(" + m + ", 0, 2)", x.module(m, 0, 2), -1);
        }
        for (int m : FAR) {
            CHECK.due("module(" + m + ", 0, 2)", x.module(m, 0, 2), -1);
        }
    }

    private static void functions() {
        CHECK.sentence("module: of function f: 10 parameters, 11 locals, 12 bytes of code, 13 where that begins");
        SealedProcesses x = new SealedProcesses();
        Build build = new Build();
        int[][] due = new int[10][];
        for (int f = 0; f < 10; f++) {
            int parameters = f % 5;
            int locals = f == 9 ? 10 : parameters + f % 3;
            build.function(parameters, new int[parameters], new int[] {255}, locals, code().times(24 * f, Op.YIELD).op(Op.EXIT));
            due[f] = new int[] {parameters, locals, 24 * f + 1, 0, 0};
        }
        for (int f = 0; f < 10; f++) {
            due[f][3] = build.codeStart(f);
        }
        Build.load(x, build.bytes());
        for (int f = 0; f < 10; f++) {
            for (int what = 10; what <= 14; what++) {
                CHECK.due("module(0, " + f + ", " + what + ")", x.module(0, f, what), due[f][what - 10]);
            }
        }
        for (int what = 10; what <= 14; what++) {
            CHECK.due("module(0, 10, " + what + ")", x.module(0, 10, what), -1);
            CHECK.due("module(0, -1, " + what + ")", x.module(0, -1, what), -1);
            CHECK.due("module(1, 0, " + what + ")", x.module(1, 0, what), -1);
            for (int f : FAR) {
                CHECK.due("module(0, " + f + ", " + what + ")", x.module(0, f, what), -1);
            }
        }
        SealedProcesses y = new SealedProcesses();
        Build.load(y, new Build().function(10, code().times(239, Op.YIELD).op(Op.EXIT)).bytes());
        CHECK.due("the most bytes of code", y.module(0, 0, 12), 240);
        CHECK.due("the most locals", y.module(0, 0, 11), 10);
    }

    private static void theMostOnAStack() {
        CHECK.sentence("module: 14 the most that is on its stack (of what is come to)");
        for (int n = 0; n <= 16; n++) {
            SealedProcesses x = new SealedProcesses();
            Build.load(x, new Build()
                .function(0, code().times(n, Op.NIL).op(Op.EXIT).times(16, Op.NIL))
                .function(0, code().times(n, Op.NIL).times(n, Op.POP).op(Op.RETURN))
                .function(0, code().push(0).zero("b").op(Op.EXIT).label("b").times(n, Op.NIL).op(Op.EXIT)).bytes());
            CHECK.due("what is not come to does not count, " + n, x.module(0, 0, 14), n);
            CHECK.due("what was popped does", x.module(0, 1, 14), n);
            CHECK.due("on the other way", x.module(0, 2, 14), Math.max(1, n));
        }
        SealedProcesses x = new SealedProcesses();
        Build.load(x, new Build().function(0, code().times(3, Op.NIL).op(Op.GET, 0).times(9, Op.NIL).op(Op.EXIT)).bytes());
        CHECK.due("behind a trap nothing counts", x.module(0, 0, 14), 3);
    }

    private static void types() {
        CHECK.sentence("typeAt: the type's first byte (0 to 5; 6 NIL) at stack place i (0 the lowest; what 0), or local i (what 1; EMPTY: 7)");
        SealedProcesses x = new SealedProcesses();
        Code code = code().times(15, Op.NIL).push(1).label("full").op(Op.POP).label("less").op(Op.STORE, 9).label("end").op(Op.EXIT);
        CHECK.due("load", Build.load(x, new Build().function(10, code).bytes()), 0);
        int full = code.place("full");
        for (int i = 0; i < 16; i++) {
            CHECK.due("stack place " + i, x.typeAt(0, 0, full, 0, i), i < 15 ? 6 : 0);
            CHECK.due("stack place " + i + " then", x.typeAt(0, 0, code.place("less"), 0, i), i < 15 ? 6 : -1);
            CHECK.due("stack place " + i + " ahead", x.typeAt(0, 0, 7, 0, i), i < 7 ? 6 : -1);
            CHECK.due("local " + i, x.typeAt(0, 0, full, 1, i), i < 10 ? 7 : -1);
            CHECK.due("local " + i + " at the end", x.typeAt(0, 0, code.place("end"), 1, i), i < 9 ? 7 : i == 9 ? 6 : -1);
        }
        CHECK.due("stack place 16", x.typeAt(0, 0, full, 0, 16), -1);
        CHECK.due("stack place 25", x.typeAt(0, 0, full, 0, 25), -1);
        CHECK.due("stack place 26", x.typeAt(0, 0, full, 0, 26), -1);
        for (int i : FAR) {
            CHECK.due("stack place " + i, x.typeAt(0, 0, full, 0, i), -1);
            CHECK.due("local " + i, x.typeAt(0, 0, full, 1, i), -1);
            CHECK.due("what " + i, x.typeAt(0, 0, full, i, 0), -1);
        }
        for (int what : new int[] {2, 3, 10}) {
            CHECK.due("what " + what, x.typeAt(0, 0, full, what, 0), -1);
        }
        for (int locals = 0; locals <= 10; locals++) {
            SealedProcesses y = new SealedProcesses();
            Build.load(y, new Build().function(locals, code().op(Op.EXIT)).bytes());
            for (int i = -1; i <= 10; i++) {
                CHECK.due("local " + i + " of " + locals, y.typeAt(0, 0, 0, 1, i), i >= 0 && i < locals ? 7 : -1);
            }
        }
    }

    private static void typesNowhere() {
        CHECK.sentence("typeAt: NONE when nothing comes there, no instruction begins there, or there is none such");
        SealedProcesses x = new SealedProcesses();
        int[] longest = code().op(Op.JUMP, 239).times(16, Op.PUSH, 0, 0, 0, 0).times(157, Op.YIELD).op(Op.EXIT).bytes();
        Build.load(x, new Build().function(1, code().op(longest)).function(1, code().op(Op.EXIT)).bytes());
        Build.load(x, new Build().function(1, code().push(5).op(Op.EXIT, Op.EXIT)).bytes());
        for (int place = -1; place <= 241; place++) {
            CHECK.due("place " + place, x.typeAt(0, 0, place, 1, 0), place == 0 || place == 239 ? 7 : -1);
        }
        for (int place = -1; place <= 8; place++) {
            CHECK.due("place " + place + " of the second module", x.typeAt(1, 0, place, 1, 0), place == 0 || place == 5 ? 7 : -1);
        }
        CHECK.due("the second function", x.typeAt(0, 1, 0, 1, 0), 7);
        CHECK.due("the second function, place 1", x.typeAt(0, 1, 1, 1, 0), -1);
        CHECK.due("no third function", x.typeAt(0, 2, 0, 1, 0), -1);
        CHECK.due("no function -1", x.typeAt(0, -1, 0, 1, 0), -1);
        CHECK.due("no third module", x.typeAt(2, 0, 0, 1, 0), -1);
        CHECK.due("no module 6", x.typeAt(6, 0, 0, 1, 0), -1);
        for (int far : FAR) {
            CHECK.due("place " + far, x.typeAt(0, 0, far, 1, 0), -1);
            CHECK.due("function " + far, x.typeAt(0, far, 0, 1, 0), -1);
            CHECK.due("module " + far, x.typeAt(far, 0, 0, 1, 0), -1);
        }
    }

    private static void about() {
        CHECK.sentence("about: NONE for others, or when nothing is booted");
        SealedProcesses x = new SealedProcesses();
        for (int what = -1; what <= 8; what++) {
            CHECK.due("about(" + what + ") of a new object", x.about(what), -1);
        }
        Build.load(x, new Build().function(0, code().op(Op.EXIT)).bytes());
        for (int what = -1; what <= 8; what++) {
            CHECK.due("about(" + what + ") with a module", x.about(what), -1);
        }
        Build.boot(x, 83, 70, 1, 0, 0, 1);
        int[] due = {0, 0, 1, 0, 0, 0, 0};
        for (int what = -1; what <= 8; what++) {
            CHECK.due("about(" + what + ") booted", x.about(what), what >= 0 && what <= 6 ? due[what] : -1);
        }
        for (int far : FAR) {
            CHECK.due("about(" + far + ")", x.about(far), -1);
        }
        x.run(1);
        due[0] = 1;
        due[1] = 1;
        due[2] = 0;
        for (int what = 0; what <= 6; what++) {
            CHECK.due("about(" + what + ") when all are over", x.about(what), due[what]);
        }
    }

    private static void processes() {
        CHECK.sentence("process: NONE for numbers that never had one since boot, and others");
        SealedProcesses x = new SealedProcesses();
        CHECK.due("nothing is booted", x.process(0, 0), -1);
        Build.load(x, new Build().function(0, code().times(11, Op.SPAWN, 1).op(Op.EXIT)).function(0, code().op(Op.YIELD, Op.YIELD, Op.EXIT)).bytes());
        Build.boot(x, 83, 70, 1, 0, 0, 1);
        for (int spawned = 0; spawned <= 7; spawned++) {
            for (int p = -1; p <= 12; p++) {
                CHECK.due("process " + p + " behind " + spawned, x.process(p, 0), p >= 0 && p <= spawned ? 1 : -1);
            }
            x.run(1);
        }
        x.run(1000);
        for (int p = -1; p <= 13; p++) {
            CHECK.due("process " + p + " when all are over", x.process(p, 0), p >= 0 && p <= 11 ? 4 : -1);
        }
        for (int what = -2; what <= 12; what++) {
            CHECK.due("process(0, " + what + ")", x.process(0, what) == -1, what < 0 || what > 9);
            CHECK.due("process(12, " + what + ")", x.process(12, what), -1);
        }
        for (int far : FAR) {
            CHECK.due("process(" + far + ", 0)", x.process(far, 0), -1);
            CHECK.due("process(0, " + far + ")", x.process(0, far), -1);
        }
        Build.boot(x, 83, 70, 1, 0, 1, 1);
        CHECK.due("a number that had one ahead of the boot", x.process(1, 0), -1);
    }

    private static void howTheyAre() {
        CHECK.sentence("process: 0 how it is: 1 it goes on, 2 it waits to receive, 3 to send (these as it was found in its latest turn), 4 over, 5 over by a trap; 1 the trap (0: none)");
        Build module = new Build().contract(1, Op.CLIENTS, 1, 255, 0)
            .function(0, yields(code()))
            .function(0, code().op(Op.CHANNEL, 0).receive("a").label("a").op(Op.EXIT))
            .function(0, code().op(Op.CHANNEL, 0, Op.SWAP).times(5, Op.SEND, 0).op(Op.EXIT))
            .function(0, code().op(Op.RETURN))
            .function(0, code().push(0).push(0).op(Op.REM, Op.POP, Op.RETURN))
            .function(0, code().op(Op.EXIT));
        SealedProcesses x = Build.booted(module, 0, 1, 2, 3, 4, 5);
        for (int p = 0; p < 6; p++) {
            CHECK.due("process " + p + " booted", x.process(p, 0), 1);
            CHECK.due("its trap", x.process(p, 1), 0);
        }
        x.run(100);
        int[] due = {1, 2, 3, 4, 5, 4};
        for (int p = 0; p < 6; p++) {
            CHECK.due("process " + p, x.process(p, 0), due[p]);
            CHECK.due("its trap", x.process(p, 1), p == 4 ? 3 : 0);
        }
    }

    private static void whenOver() {
        CHECK.sentence("process: 2 the place of its module on the shelf when it was booted; .. (3 to 7: 0 when it is over)");
        SealedProcesses x = new SealedProcesses();
        Build module = new Build().record(1, 0).function(0, code().op(Op.EXIT))
            .function(0, code().op(Op.NEW, 0, Op.CALL, 2, Op.EXIT)).function(0, code().push(1).op(Op.ROW, Op.YIELD, Op.EXIT));
        for (int m = 0; m < 4; m++) {
            Build.load(x, module.bytes());
        }
        Build.boot(x, 83, 70, 1, 3, 1, 5);
        int[][] due = {{1, 0, 3, 1, 0, 1, 0, 0, 80, 0}, {1, 0, 3, 1, 2, 1, 1, 2, 80, 1}, {1, 0, 3, 2, 0, 2, 0, 2, 80, 2}, {1, 0, 3, 2, 5, 2, 1, 2, 80, 3},
            {1, 0, 3, 2, 6, 2, 1, 4, 80, 4}, {1, 0, 3, 2, 7, 2, 1, 4, 80, 5}, {4, 0, 3, 0, 0, 0, 0, 0, 80, 6}};
        for (int step = 0; step < due.length; step++) {
            for (int what = 0; what <= 9; what++) {
                CHECK.due("process(0, " + what + ") behind step " + step, x.process(0, what), due[step][what]);
            }
            x.run(1);
        }
    }

    /** Six modules whose functions differ: a child is of its parent's module, and of that module's place. */
    private static void ofWhichModule() {
        CHECK.sentence("process: 2 the place of its module on the shelf when it was booted (of one that was spawned: its parent's); 3 the function");
        SealedProcesses x = new SealedProcesses();
        for (int m = 0; m < 6; m++) {
            Build module = new Build().function(0, yields(code().op(Op.SPAWN, m + 1)));
            for (int f = 1; f <= 7; f++) {
                module.function(0, yields(code().push(10 * m + f).op(Op.OUT)));
            }
            Build.load(x, module.bytes());
        }
        int[] modules = {5, 2, 4};
        Build.boot(x, 83, 70, 3, modules[0], 0, 1, modules[1], 0, 2, modules[2], 0, 3);
        x.run(60);
        for (int i = 0; i < 3; i++) {
            for (int p = i; p < 6; p += 3) {
                CHECK.due("the place of " + p, x.process(p, 2), modules[i]);
                CHECK.due("the heap of " + p, x.process(p, 8), 16 * (i + 1));
                CHECK.due("the function of " + p, x.process(p, 3), p < 3 ? 0 : modules[i] + 1);
            }
            CHECK.due("OUT " + i, x.output(i, 0), i + 3);
            CHECK.due("what it tells", x.output(i, 1), 11 * modules[i] + 1);
        }
        x.discard(2);
        CHECK.due("the place when it was booted", x.process(4, 2), 2);
    }

    /** The last function of ten, the last byte of 240, the last place of the shelf, and process 11. */
    private static void theHighest() {
        CHECK.sentence("process: 3 the function, 4 the place in its code of its next instruction; output: 0 which process (each up to the highest)");
        Code longest = code().op(Op.LOAD, 0, Op.OUT).times(6, Op.YIELD).jump("last").times(227, Op.EXIT).label("last").op(Op.YIELD, Op.RETURN);
        Code first = code();
        for (int i = 1; i <= 11; i++) {
            first.push(i).op(Op.SPAWN, 9);
        }
        Build module = new Build().function(0, first.op(Op.EXIT));
        for (int f = 1; f <= 8; f++) {
            module.function(0, code().op(Op.EXIT));
        }
        module.function(1, Build.types(0), Build.types(255), 1, longest);
        SealedProcesses x = new SealedProcesses();
        for (int m = 0; m < 5; m++) {
            Build.load(x, new Build().function(0, code().op(Op.EXIT)).bytes());
        }
        CHECK.due("load", Build.load(x, module.bytes()), 5);
        CHECK.due("bytes of code", x.module(5, 9, 12), 240);
        CHECK.due("what comes to the last place but one", x.typeAt(5, 9, 238, 1, 0), 0);
        CHECK.due("ahead of it nothing comes", x.typeAt(5, 9, 237, 1, 0), -1);
        CHECK.due("what comes to the last place", x.typeAt(5, 9, 239, 1, 0), 0);
        CHECK.due("there is none behind it", x.typeAt(5, 9, 240, 1, 0), -1);
        CHECK.due("boot", Build.boot(x, 83, 70, 1, 5, 0, 1), 1);
        for (int steps = 0; steps < 200 && x.about(6) < 11; steps++) {
            x.run(1);
        }
        CHECK.due("process 11's function", x.process(11, 3), 9);
        x.run(200);
        for (int i = 0; i < 11; i++) {
            CHECK.due("which process", x.output(i, 0), x.output(i, 1));
        }
        CHECK.due("process 11 is over", x.process(11, 0), 4);
        CHECK.due("its steps", x.process(11, 9), 11);
        Build one = new Build().function(0, code().op(Op.JUMP, 239).times(237, Op.EXIT).op(Op.RETURN));
        SealedProcesses y = Build.booted(one, 0);
        y.run(1);
        CHECK.due("the last place", y.process(0, 4), 239);
        y.run(1);
        CHECK.due("and over", y.process(0, 0), 4);
    }

    private static void stackPlaces() {
        CHECK.sentence("value: stack place i (what 0); Integer.MIN_VALUE when there is none such");
        for (int count = 0; count <= 16; count++) {
            Code code = code();
            for (int i = 0; i < count; i++) {
                code.push(100 + i);
            }
            SealedProcesses x = Build.booted(new Build().function(0, yields(code)), 0);
            x.run(count);
            CHECK.due("items", x.process(0, 6), count);
            for (int i = -1; i <= 27; i++) {
                CHECK.due("stack place " + i + " of " + count, x.value(0, 0, i), i >= 0 && i < count ? 100 + i : NO);
            }
            for (int far : FAR) {
                CHECK.due("stack place " + far, x.value(0, 0, far), NO);
            }
        }
    }

    private static void locals() {
        CHECK.sentence("value: local i (1); .. of EMPTY 0; Integer.MIN_VALUE when there is none such");
        for (int count = 0; count <= 10; count++) {
            Code code = code();
            for (int i = 0; i < count; i++) {
                code.push(200 + i).op(Op.STORE, i);
            }
            SealedProcesses x = Build.booted(new Build().function(count, yields(code)), 0);
            for (int i = -1; i <= 12; i++) {
                CHECK.due("local " + i + " of " + count + " ahead", x.value(0, 1, i), i >= 0 && i < count ? 0 : NO);
            }
            x.run(2 * count);
            for (int i = -1; i <= 27; i++) {
                CHECK.due("local " + i + " of " + count, x.value(0, 1, i), i >= 0 && i < count ? 200 + i : NO);
            }
        }
        SealedProcesses x = Build.booted(new Build().function(3, yields(code())), 0);
        for (int far : FAR) {
            CHECK.due("local " + far, x.value(0, 1, far), NO);
            CHECK.due("what " + far, x.value(0, far, 0), NO);
            CHECK.due("process " + far, x.value(far, 1, 0), NO);
        }
        for (int what : new int[] {2, 3, 10}) {
            CHECK.due("what " + what, x.value(0, what, 0), NO);
        }
        for (int p : new int[] {1, 11, 12}) {
            CHECK.due("process " + p, x.value(p, 1, 0), NO);
        }
        CHECK.due("nothing is booted", new SealedProcesses().value(0, 1, 0), NO);
        SealedProcesses over = Build.booted(new Build().function(3, code().push(4).op(Op.EXIT)), 0);
        over.run(1);
        CHECK.due("ahead of EXIT", over.value(0, 0, 0), 4);
        over.run(1);
        CHECK.due("over: stack", over.value(0, 0, 0), NO);
        CHECK.due("over: locals", over.value(0, 1, 0), NO);
    }

    private static void kindsOfValues() {
        CHECK.sentence("value: an INT itself; of a node or row 1 (NIL 0), of a block its number, of an end twice its channel and the side; of EMPTY 0");
        Build module = new Build().record(3, 1, 0, 2, 3, 0).record(1, 0).contract(1, Op.NOBODYS, 0).function(4, yields(code()
            .push(Integer.MIN_VALUE).push(Integer.MAX_VALUE).push(-1).op(Op.NIL, Op.NEW, 0).push(0).op(Op.ROW).push(0).op(Op.ROWS, 0, Op.NEW, 0, Op.GET, 0)
            .op(Op.NEW, 0, Op.GET, 1, Op.NEW, 0, Op.GET, 2).push(1).op(Op.ROWS, 0).push(0).op(Op.TAKE)));
        SealedProcesses x = Build.booted(module, 0);
        x.run(20);
        int[] due = {Integer.MIN_VALUE, Integer.MAX_VALUE, -1, 0, 1, 1, 1, 0, 0, 0, 0};
        for (int i = 0; i < due.length; i++) {
            CHECK.due("stack place " + i, x.value(0, 0, i), due[i]);
        }
        // What fields and items have that are not NIL is told as 1, wherever it is in the heap.
        Build full = new Build().record(3, 1, 0, 2, 3, 0).record(1, 0).function(2, yields(code().op(Op.NEW, 1, Op.POP, Op.NEW, 0, Op.STORE, 0)
            .op(Op.LOAD, 0, Op.NEW, 0, Op.PUT, 0, Op.LOAD, 0).push(2).op(Op.ROW, Op.PUT, 1, Op.LOAD, 0).push(1).op(Op.ROWS, 0, Op.PUT, 2)
            .op(Op.LOAD, 0, Op.GET, 2).push(0).op(Op.NEW, 0, Op.LAY)
            .op(Op.LOAD, 0, Op.GET, 0, Op.LOAD, 0, Op.GET, 1, Op.LOAD, 0, Op.GET, 2, Op.LOAD, 0, Op.GET, 2).push(0).op(Op.TAKE)
            .op(Op.LOAD, 0, Op.GET, 1).push(1).push(7).op(Op.LAY, Op.LOAD, 0, Op.GET, 1).push(1).op(Op.TAKE)));
        SealedProcesses y = new SealedProcesses();
        Build.load(y, full.bytes());
        Build.boot(y, 83, 70, 1, 0, 0, 2);
        y.run(60);
        int[] then = {1, 1, 1, 1, 7};
        CHECK.due("items", y.process(0, 6), then.length);
        for (int i = 0; i < then.length; i++) {
            CHECK.due("stack place " + i, y.value(0, 0, i), then[i]);
        }
        CHECK.due("a node in a local", y.value(0, 1, 0), 1);
        CHECK.due("an EMPTY local", y.value(0, 1, 1), 0);
        Build linear = new Build().record(1, 0).contract(1, Op.NOBODYS, 0).function(4, yields(code().times(3, Op.BLOCK, 0).op(Op.STORE, 1)
            .times(2, Op.CHANNEL, 0).op(Op.STORE, 2, Op.STORE, 3, Op.LOAD, 2)));
        SealedProcesses z = Build.booted(linear, 0);
        z.run(8);
        int[] stack = {0, 1, 0, 1};
        for (int i = 0; i < stack.length; i++) {
            CHECK.due("stack place " + i, z.value(0, 0, i), stack[i]);
        }
        int[] locals = {0, 2, 3, 2};
        for (int i = 0; i < locals.length; i++) {
            CHECK.due("local " + i, z.value(0, 1, i), locals[i]);
        }
        z.run(1);
        CHECK.due("behind its LOAD", z.value(0, 1, 2), 0);
        CHECK.due("what came of it", z.value(0, 0, 4), 3);
    }

    private static void blocks() {
        CHECK.sentence("block: 0 how many fields, 1 its owner: a process; NONE when there is none such");
        Build module = new Build();
        for (int f = 1; f <= 6; f++) {
            module.record(f, new int[f]);
        }
        Code code = code();
        for (int f = 0; f < 6; f++) {
            code.op(Op.BLOCK, f);
        }
        module.function(0, yields(code));
        for (int count = 1; count <= 2; count++) {
            SealedProcesses x = Build.booted(module, new int[count]);
            x.run(20);
            for (int b = -1; b <= 13; b++) {
                boolean there = b >= 0 && b < 6 * count;
                CHECK.due("fields of block " + b, x.block(b, 0), there ? b % 6 + 1 : -1);
                CHECK.due("owner of block " + b, x.block(b, 1), there ? b / 6 : -1);
                CHECK.due("field 0 of block " + b, x.block(b, 10), there ? 0 : -1);
            }
            for (int b : new int[] {127, 128, 129, 255}) {
                CHECK.due("block " + b, x.block(b, 0), -1);
            }
            for (int far : FAR) {
                CHECK.due("block " + far, x.block(far, 0), -1);
                CHECK.due("block 0, what " + far, x.block(0, far), -1);
            }
        }
        CHECK.due("nothing is booted", new SealedProcesses().block(0, 0), -1);
    }

    private static void fieldsOfBlocks() {
        CHECK.sentence("block: 10 and on its fields; NONE when there is none such");
        for (int fields = 1; fields <= 6; fields++) {
            Code code = code().op(Op.BLOCK, 0, Op.BLOCK, 0);
            for (int f = 0; f < fields; f++) {
                code.push(50 + f).op(Op.SET, f);
            }
            SealedProcesses x = Build.booted(new Build().record(fields, new int[fields]).function(0, yields(code)), 0);
            x.run(2 + 2 * fields);
            for (int what = -1; what <= 20; what++) {
                int due = what == 0 ? fields : what == 1 ? 0 : what >= 10 && what < 10 + fields ? 40 + what : -1;
                CHECK.due("block(1, " + what + ") of " + fields, x.block(1, what), due);
                CHECK.due("block(0, " + what + ") of " + fields, x.block(0, what), what >= 10 && due != -1 ? 0 : due);
            }
        }
    }

    private static void channels() {
        CHECK.sentence("channel: of the client's end (side 0), the server's (1): 0 its state, 1 its owner, 2 messages that wait for it; NONE when that end is closed, or there is no such channel");
        Build module = new Build().contract(8, Op.CLIENTS, 1, 255, 7, 0, 0, 0, 0, 0, 0, 0, 0, 0, 0, 0, 0, Op.CLIENTS, 1, 0, 7)
            .function(0, code().times(6, Op.CHANNEL, 0).op(Op.CALL, 1, Op.EXIT))
            .function(0, yields(code().times(6, Op.CHANNEL, 0).op(Op.SWAP, Op.SEND, 0).push(1).op(Op.SEND, 0).push(1).op(Op.SEND, 0).push(1).op(Op.SEND, 0)));
        SealedProcesses x = Build.booted(module, 0);
        x.run(7);
        for (int c = -1; c <= 12; c++) {
            CHECK.due("channel " + c + " is not there yet", x.channel(c, 0, 0), c >= 0 && c < 6 ? 0 : -1);
        }
        x.run(6);
        for (int e = 0; e < 12; e++) {
            CHECK.due("value of end " + (12 + e), x.value(0, 0, e), 12 + e);
        }
        x.run(10);
        for (int c = -1; c <= 13; c++) {
            boolean there = c >= 0 && c < 12;
            int[][] due = {{c == 11 ? 7 : 0, 0, 0}, {0, 0, c == 11 ? 4 : 0}};
            for (int side = -1; side <= 2; side++) {
                for (int what = -1; what <= 3; what++) {
                    boolean right = there && side >= 0 && side <= 1 && what >= 0 && what <= 2;
                    CHECK.due("channel(" + c + ", " + side + ", " + what + ")", x.channel(c, side, what), right ? due[side][what] : -1);
                }
            }
        }
        for (int far : FAR) {
            CHECK.due("channel " + far, x.channel(far, 0, 0), -1);
            CHECK.due("side " + far, x.channel(0, far, 0), -1);
            CHECK.due("what " + far, x.channel(0, 0, far), -1);
        }
        CHECK.due("nothing is booted", new SealedProcesses().channel(0, 0, 0), -1);
    }

    private static void owners() {
        CHECK.sentence("block, channel: its owner: a process (0 to 11), or, while it waits, 100 and twice the channel and the side that it waits for");
        Build module = new Build().record(1, 0).contract(1, Op.NOBODYS, 0)
            .function(0, yields(code().times(11, Op.SPAWN, 1)))
            .function(0, yields(code().op(Op.BLOCK, 0, Op.CHANNEL, 0)));
        SealedProcesses x = Build.booted(module, 0);
        x.run(300);
        for (int i = 0; i < 11; i++) {
            CHECK.due("block " + i + " of process " + (i + 1), x.block(x.value(i + 1, 0, 0), 1), i + 1);
            int end = x.value(i + 1, 0, 1);
            CHECK.due("its client's end", x.channel(end / 2, 0, 1), i + 1);
            CHECK.due("its server's end", x.channel(end / 2, 1, 1), i + 1);
        }
        CHECK.due("a twelfth of them is not there", x.block(11, 1), -1);
        CHECK.due("a twelfth of them is not there", x.channel(11, 0, 1), -1);
    }

    private static void outputs() {
        CHECK.sentence("output: Of an OUT: 0 which process, 1 its INT. NONE when there is none such (and for an INT that is NONE)");
        Build module = new Build().function(0, code().push(-1).op(Op.OUT).push(Integer.MIN_VALUE).op(Op.OUT, Op.EXIT)).function(0, code().push(0).op(Op.OUT, Op.EXIT));
        SealedProcesses x = Build.booted(module, 1, 0);
        CHECK.due("none yet", x.output(0, 0), -1);
        x.run(100);
        int[] numbers = {0, -1, Integer.MIN_VALUE};
        for (int i = -1; i <= 4; i++) {
            boolean there = i >= 0 && i < 3;
            CHECK.due("output(" + i + ", 0)", x.output(i, 0), there ? Math.min(1, i) : -1);
            CHECK.due("output(" + i + ", 1)", x.output(i, 1), there ? numbers[i] : -1);
            CHECK.due("output(" + i + ", 2)", x.output(i, 2), -1);
            CHECK.due("output(" + i + ", -1)", x.output(i, -1), -1);
        }
        for (int far : FAR) {
            CHECK.due("output(" + far + ", 0)", x.output(far, 0), -1);
            CHECK.due("output(0, " + far + ")", x.output(0, far), -1);
        }
        CHECK.due("nothing is booted", new SealedProcesses().output(0, 0), -1);
    }
}
