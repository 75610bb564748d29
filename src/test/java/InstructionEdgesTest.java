/** Promise 9, edges: what instructions do with the least and the greatest INTs, with NIL, and with indexes at both ends. */
public final class InstructionEdgesTest {
    private static final Check CHECK = new Check("edges of instructions");
    private static final int[] NUMBERS = {Integer.MIN_VALUE, Integer.MIN_VALUE + 1, -65537, -65536, -33, -32, -31, -7, -2, -1, 0, 1, 2, 7, 31, 32, 33, 63, 64,
        255, 46340, 46341, 65535, 65536, Integer.MAX_VALUE - 1, Integer.MAX_VALUE};

    public static void main(String[] args) {
        reckoning();
        byZero();
        zero();
        none();
        indexes();
        laid();
        nilFirst();
        newOnes();
        moves();
        whatIsBelowStays();
        emptyBehindLoad();
        results();
        itsStepCounts();
        messages();
        CHECK.end();
    }

    private static Code code() {
        return new Code();
    }

    /** 32 bits, reckoned with more of them. */
    private static long due(int op, long a, long b) {
        switch (op) {
            case Op.ADD: return (int) (a + b);
            case Op.SUB: return (int) (a - b);
            case Op.MUL: return (int) (a * b);
            case Op.DIV: return (int) ((Math.abs(a) / Math.abs(b)) * Long.signum(a) * Long.signum(b));
            case Op.REM: return (int) ((Math.abs(a) % Math.abs(b)) * Long.signum(a));
            case Op.AND: return (int) a & (int) b;
            case Op.OR: return (int) a | (int) b;
            case Op.XOR: return (int) a ^ (int) b;
            case Op.SHL: return (int) (a * (1L << Math.floorMod(b, 32L)));
            case Op.SHR: return Math.floorDiv(a, 1L << Math.floorMod(b, 32L));
            case Op.LESS: return a < b ? 1 : 0;
            default: return a == b ? 1 : 0;
        }
    }

    private static int[] k(int number) {
        return new int[] {number >> 24 & 255, number >> 16 & 255, number >> 8 & 255, number & 255};
    }

    private static void reckoning() {
        CHECK.sentence("7 ADD .. 10 DIV (cut towards 0), 11 REM (the rest that belongs to DIV) .. 15 SHL, 16 SHR (with the sign; both by the lowest five bits): "
            + "two INTs become one (32 bits; LESS, SAME: 1 or 0)");
        for (int op = Op.ADD; op <= Op.SAME; op++) {
            for (int a : NUMBERS) {
                SealedProcesses x = new SealedProcesses();
                Build.load(x, new Build().function(2, Build.types(0, 0), Build.types(255), 2, code().op(Op.LOAD, 0, Op.LOAD, 1).op(op, Op.OUT, Op.RETURN)).bytes());
                for (int b : NUMBERS) {
                    Build.boot(x, Build.joined(Build.joined(new int[] {83, 70, 1, 0, 0, 1}, k(a)), k(b)));
                    x.run(10);
                    if (b == 0 && (op == Op.DIV || op == Op.REM)) {
                        CHECK.due(a + " instruction " + op + " 0", x.process(0, 1), 3);
                    } else {
                        CHECK.due(a + " instruction " + op + " " + b, x.output(0, 1), due(op, a, b));
                        CHECK.due("how it is", x.process(0, 0), 4);
                    }
                }
            }
        }
    }

    private static SealedProcesses ran(Build module) {
        SealedProcesses x = Build.booted(module, 0);
        x.run(1000);
        return x;
    }

    private static void byZero() {
        CHECK.sentence("3 DIV, REM by 0");
        for (int op : new int[] {Op.DIV, Op.REM}) {
            for (int a : NUMBERS) {
                for (int b : new int[] {-1, 0, 1}) {
                    SealedProcesses x = ran(new Build().function(0, code().push(a).push(b).op(op, Op.POP).op(Op.EXIT)));
                    CHECK.due(a + " by " + b, x.process(0, 1), b == 0 ? 3 : 0);
                    CHECK.due("steps", x.process(0, 9), b == 0 ? 3 : 5);
                }
            }
        }
    }

    private static void zero() {
        CHECK.sentence("21 ZERO T: an INT goes; to T if it is 0");
        for (int number : NUMBERS) {
            SealedProcesses x = ran(new Build().function(0, code().push(number).zero("a").push(1).op(Op.OUT, Op.EXIT).label("a").push(2).op(Op.OUT, Op.EXIT)));
            CHECK.due("ZERO of " + number, x.output(0, 1), number == 0 ? 2 : 1);
            CHECK.due("its steps", x.process(0, 9), 5);
        }
    }

    private static void none() {
        CHECK.sentence("19 NONE: whether a node or row is NIL: 1 or 0");
        Code[] codes = {code().op(Op.NIL), code().op(Op.NEW, 0), code().push(0).op(Op.ROW), code().push(1).op(Op.ROW), code().push(0).op(Op.ROWS, 0),
            code().op(Op.NEW, 0, Op.GET, 0), code().push(1).op(Op.ROWS, 0).push(0).op(Op.TAKE)};
        int[] due = {1, 0, 0, 0, 0, 1, 1};
        for (int i = 0; i < codes.length; i++) {
            SealedProcesses x = ran(new Build().record(1, 1, 0).function(0, codes[i].op(Op.NONE, Op.OUT, Op.EXIT)));
            CHECK.due("NONE " + i, x.output(0, 1), due[i]);
        }
    }

    private static void indexes() {
        CHECK.sentence("2 an index that is none (0 to length less 1); 28 TAKE: .. that one of its items (0 the first)");
        for (int length : new int[] {0, 1, 2, 14, 15}) {
            for (int index : new int[] {Integer.MIN_VALUE, -length - 1, -length, -2, -1, 0, 1, length - 2, length - 1, length, length + 1, 65536, Integer.MAX_VALUE}) {
                boolean there = index >= 0 && index < length;
                for (int[] row : new int[][] {{Op.ROW}, {Op.ROWS, 0}}) {
                    SealedProcesses x = ran(new Build().record(1, 0).function(1, code().push(length).op(row).push(index).op(Op.TAKE, Op.STORE, 0, Op.EXIT)));
                    CHECK.due("TAKE of " + index + " of " + length, x.process(0, 1), there ? 0 : 2);
                    CHECK.due("steps", x.process(0, 9), there ? 6 : 4);
                }
                SealedProcesses y = ran(new Build().record(1, 0).function(1, code().push(length).op(Op.ROW).push(index).push(1).op(Op.LAY, Op.EXIT)));
                CHECK.due("LAY at " + index + " of " + length, y.process(0, 1), there ? 0 : 2);
                SealedProcesses z = ran(new Build().record(1, 0).function(1, code().push(length).op(Op.ROWS, 0).push(index).op(Op.NIL, Op.LAY, Op.EXIT)));
                CHECK.due("LAY of NIL at " + index + " of " + length, z.process(0, 1), there ? 0 : 2);
            }
        }
    }

    private static void laid() {
        CHECK.sentence("29 LAY: .. that item; 25 ROW: .. all 0; 27 LENGTH: a row becomes an INT");
        for (int length : new int[] {1, 2, 5, 15}) {
            for (int index = 0; index < length; index++) {
                Code code = code().push(length).op(Op.ROW, Op.STORE, 0, Op.LOAD, 0).push(index).push(Integer.MIN_VALUE).op(Op.LAY);
                for (int other : new int[] {0, index - 1, index, index + 1, length - 1}) {
                    code.op(Op.LOAD, 0).push(Math.floorMod(other, length)).op(Op.TAKE, Op.OUT);
                }
                SealedProcesses x = ran(new Build().function(1, code.op(Op.LOAD, 0, Op.LENGTH, Op.OUT, Op.EXIT)));
                int at = 0;
                for (int other : new int[] {0, index - 1, index, index + 1, length - 1}) {
                    CHECK.due("item " + other, x.output(at, 1), Math.floorMod(other, length) == index ? Integer.MIN_VALUE : 0);
                    at++;
                }
                CHECK.due("LENGTH", x.output(at, 1), length);
            }
        }
        SealedProcesses x = ran(new Build().function(0, code().push(0).op(Op.ROW, Op.LENGTH, Op.OUT, Op.EXIT)));
        CHECK.due("LENGTH of a row of none", x.output(0, 1), 0);
    }

    private static void nilFirst() {
        CHECK.sentence("1 NIL where a node or row is needed");
        int[][] does = {{Op.GET, 0}, {Op.PUT, 0}, {Op.LENGTH}, {Op.TAKE}, {Op.LAY}};
        int[] more = {0, 1, 0, 1, 2};
        for (int i = 0; i < does.length; i++) {
            for (int index : new int[] {-1, 0, 1}) {
                Code just = code().op(Op.NIL);
                for (int j = 0; j < more[i]; j++) {
                    just.push(index);
                }
                SealedProcesses x = ran(new Build().function(0, just.op(does[i])));
                CHECK.due("just NIL, instruction " + does[i][0], x.process(0, 1), 1);
                CHECK.due("its steps", x.process(0, 9), more[i] + 2);
            }
        }
        // NIL comes by a field, a local, a parameter or a result whose type is a node's or a row's.
        Build field = new Build().record(2, 1, 0, 0).function(0, code().op(Op.NEW, 0, Op.GET, 0, Op.GET, 1, Op.OUT, Op.EXIT));
        CHECK.due("a field", ran(field).process(0, 1), 1);
        Build there = new Build().record(2, 1, 0, 0).function(0, code().op(Op.NEW, 0, Op.DUP, Op.NEW, 0, Op.PUT, 0, Op.GET, 0, Op.GET, 1, Op.OUT, Op.EXIT));
        CHECK.due("a field that is not NIL", ran(there).process(0, 1), 0);
        Build parameter = new Build().function(0, code().op(Op.NIL, Op.CALL, 1, Op.EXIT)).function(1, Build.types(2), Build.types(255), 1, code().op(Op.LOAD, 0, Op.LENGTH, Op.OUT, Op.RETURN));
        CHECK.due("a parameter", ran(parameter).process(0, 1), 1);
        Build result = new Build().function(0, code().op(Op.CALL, 1).push(0).op(Op.TAKE, Op.OUT, Op.EXIT)).function(0, Build.types(), Build.types(2), 0, code().op(Op.NIL, Op.RETURN));
        CHECK.due("a result", ran(result).process(0, 1), 1);
        Build item = new Build().record(1, 0).function(0, code().push(1).op(Op.ROWS, 0).push(0).op(Op.TAKE).push(1).op(Op.PUT, 0, Op.EXIT));
        CHECK.due("an item", ran(item).process(0, 1), 1);
    }

    private static void newOnes() {
        CHECK.sentence("22 NEW r: a node, its INTs 0, all else NIL; 26 ROWS r: .. all NIL; 32 BLOCK r: a block, all 0 (also where others were)");
        // A heap's cells are filled first, once or more often, and so are a block's fields; then all is made anew.
        Code fill = code().push(15).op(Op.ROW, Op.STORE, 0);
        for (int i = 0; i < 15; i++) {
            fill.op(Op.LOAD, 0).push(i).push(-1).op(Op.LAY);
        }
        fill.op(Op.NIL, Op.STORE, 0, Op.RETURN);
        for (int fills = 0; fills <= 4; fills++) {
            Code node = code().times(fills, Op.CALL, 1).op(Op.NEW, 0, Op.STORE, 0);
            for (int f = 0; f < 6; f++) {
                node.op(Op.LOAD, 0, Op.GET, f).op(f % 2 == 0 ? new int[] {Op.OUT} : new int[] {Op.NONE, Op.OUT});
            }
            Build ofSix = new Build().record(6, 0, 2, 0, 1, 0, 0, 3, 0).function(1, node.op(Op.EXIT)).function(1, fill);
            toldAll("a node's field", ofSix, 0, 1, 0, 1, 0, 1);
            Code rows = code().times(fills, Op.CALL, 1).push(5).op(Op.ROWS, 0, Op.STORE, 0);
            Code row = code().times(fills, Op.CALL, 1).push(5).op(Op.ROW, Op.STORE, 0);
            for (int i = 0; i < 5; i++) {
                rows.op(Op.LOAD, 0).push(i).op(Op.TAKE, Op.NONE, Op.OUT);
                row.op(Op.LOAD, 0).push(i).op(Op.TAKE, Op.OUT);
            }
            toldAll("an item of nodes", new Build().record(1, 0).function(1, rows.op(Op.EXIT)).function(1, fill), 1, 1, 1, 1, 1);
            toldAll("an item of INTs", new Build().record(1, 0).function(1, row.op(Op.EXIT)).function(1, fill), 0, 0, 0, 0, 0);
        }
        Code block = code().op(Op.BLOCK, 0);
        for (int f = 0; f < 6; f++) {
            block.push(-1).op(Op.SET, f);
        }
        block.op(Op.FREE, Op.BLOCK, 0);
        for (int f = 0; f < 6; f++) {
            block.op(Op.SEE, f, Op.OUT);
        }
        SealedProcesses z = ran(new Build().record(6, new int[6]).function(0, block.op(Op.EXIT)));
        CHECK.due("fields", z.about(6), 6);
        for (int f = 0; f < 6; f++) {
            CHECK.due("a block's field " + f, z.output(f, 1), 0);
        }
    }

    private static void toldAll(String what, Build module, int... due) {
        SealedProcesses x = Build.booted(module, 0);
        x.run(5000);
        CHECK.due(what + ": OUTs", x.about(6), due.length);
        for (int i = 0; i < due.length; i++) {
            CHECK.due(what + " " + i, x.output(i, 1), due[i]);
        }
    }

    private static void moves() {
        CHECK.sentence("5 DUP: the highest twice; 6 SWAP: the two highest; 4 POP: one goes (at the edges of the stack)");
        for (int below = 0; below <= 14; below++) {
            Code code = code();
            for (int i = 0; i < below; i++) {
                code.push(i);
            }
            code.push(-7).op(Op.DUP).label("dup").op(Op.POP).push(-8).op(Op.SWAP).label("y").op(Op.YIELD).jump("y");
            SealedProcesses x = Build.booted(new Build().function(0, code), 0);
            x.run(below + 2);
            CHECK.due("DUP", x.value(0, 0, below), -7);
            CHECK.due("DUP", x.value(0, 0, below + 1), -7);
            x.run(3);
            CHECK.due("SWAP", x.value(0, 0, below), -8);
            CHECK.due("SWAP", x.value(0, 0, below + 1), -7);
            CHECK.due("what is below", x.value(0, 0, below - 1), below == 0 ? Integer.MIN_VALUE : below - 1);
            CHECK.due("items", x.process(0, 6), below + 2);
        }
    }

    /** Each instruction that goes on, on a stack that has more: what it wants, and how many items it leaves of that. */
    private static void whatIsBelowStays() {
        CHECK.sentence("what it takes from the stack, the highest last, and puts there (what is below stays)");
        stays("PUSH", code(), code().push(1), 1);
        stays("NIL", code(), code().op(Op.NIL), 1);
        stays("LOAD", code().push(1).op(Op.STORE, 0), code().op(Op.LOAD, 0), 1);
        stays("STORE", code().push(1), code().op(Op.STORE, 0), 0);
        stays("POP", code().push(1), code().op(Op.POP), 0);
        stays("DUP", code().push(1), code().op(Op.DUP), 2);
        stays("SWAP", code().push(1).push(2), code().op(Op.SWAP), 2);
        for (int op = Op.ADD; op <= Op.SAME; op++) {
            stays("instruction " + op, code().push(7).push(2), code().op(op), 1);
        }
        stays("NONE of NIL", code().op(Op.NIL), code().op(Op.NONE), 1);
        stays("NONE of a node", code().op(Op.NEW, 0), code().op(Op.NONE), 1);
        stays("ZERO of 1", code().push(1), code().op(Op.ZERO, 10 + 5 + 2), 0);
        stays("NEW", code(), code().op(Op.NEW, 0), 1);
        stays("GET", code().op(Op.NEW, 0), code().op(Op.GET, 0), 1);
        stays("PUT", code().op(Op.NEW, 0).push(5), code().op(Op.PUT, 0), 0);
        stays("ROW", code().push(2), code().op(Op.ROW), 1);
        stays("ROWS", code().push(2), code().op(Op.ROWS, 0), 1);
        stays("LENGTH", code().push(2).op(Op.ROW), code().op(Op.LENGTH), 1);
        stays("TAKE", code().push(2).op(Op.ROW).push(1), code().op(Op.TAKE), 1);
        stays("LAY", code().push(2).op(Op.ROW).push(1).push(8), code().op(Op.LAY), 0);
        stays("CALL, RETURN", code().push(1).push(2), code().op(Op.CALL, 1), 1);
        stays("BLOCK", code(), code().op(Op.BLOCK, 1), 1);
        stays("SEE", code().op(Op.BLOCK, 1), code().op(Op.SEE, 0), 2);
        stays("SET", code().op(Op.BLOCK, 1).push(3), code().op(Op.SET, 0), 1);
        stays("FREE", code().op(Op.BLOCK, 1), code().op(Op.FREE), 0);
        stays("CHANNEL", code(), code().op(Op.CHANNEL, 0), 2);
        Code client = code().op(Op.CHANNEL, 0, Op.STORE, 0);
        stays("SEND", client, code().op(Op.SEND, 0), 1);
        stays("SEND with a load", code().op(client.bytes()).push(4), code().op(Op.SEND, 1), 1);
        stays("CLOSE", code().op(Op.CHANNEL, 1, Op.STORE, 0), code().op(Op.CLOSE), 0);
        stays("SPAWN", code().push(1).push(2), code().op(Op.SPAWN, 2), 0);
        stays("YIELD", code(), code().op(Op.YIELD), 0);
        stays("OUT", code().push(1), code().op(Op.OUT), 0);
        stays("JUMP", code(), code().op(Op.JUMP, 10 + 2), 0);
        int[] ahead = code().op(Op.CHANNEL, 0, Op.SWAP).push(4).op(Op.SEND, 1, Op.STORE, 0).bytes();
        int last = 10 + ahead.length + 6;
        stays("RECEIVE", code().op(ahead), code().op(Op.RECEIVE, 4, last + 1, last, last + 2, last + 3), 2);
    }

    /** Two INTs are below; then comes what the instruction wants, then the instruction, and then EXIT. */
    private static void stays(String what, Code ahead, Code does, int items) {
        Build module = Sample.declarations()
            .function(2, code().push(77).push(-78).op(ahead.bytes()).op(does.bytes()).times(4, Op.EXIT))
            .function(2, Build.types(0, 0), Build.types(0), 2, code().op(Op.LOAD, 0, Op.RETURN))
            .function(2, Build.types(0, 0), Build.types(255), 2, code().op(Op.EXIT));
        SealedProcesses x = Build.booted(module, 0);
        CHECK.due(what + ": booted", x.process(0, 0), 1);
        int end = 10 + ahead.bytes().length + does.bytes().length;
        for (int steps = 0; steps < 60 && x.process(0, 4) < end; steps++) {
            x.run(1);
        }
        CHECK.due(what + ": no trap", x.process(0, 0), 1);
        CHECK.due(what + ": items", x.process(0, 6), 2 + items);
        CHECK.due(what + ": the lowest", x.value(0, 0, 0), 77);
        CHECK.due(what + ": the next", x.value(0, 0, 1), -78);
    }

    private static void emptyBehindLoad() {
        CHECK.sentence("2 LOAD l: what local l has; if that is linear the local is EMPTY then");
        for (int l = 0; l < 10; l++) {
            SealedProcesses x = Build.booted(new Build().record(1, 0).function(10, code().op(Op.BLOCK, 0, Op.BLOCK, 0, Op.STORE, l, Op.LOAD, l).push(5).op(Op.STORE, l, Op.LOAD, l, Op.EXIT)), 0);
            x.run(3);
            CHECK.due("stored", x.value(0, 1, l), 1);
            x.run(1);
            CHECK.due("EMPTY", x.value(0, 1, l), 0);
            CHECK.due("loaded", x.value(0, 0, 1), 1);
            x.run(3);
            CHECK.due("an INT stays", x.value(0, 1, l), 5);
            CHECK.due("an INT is loaded", x.value(0, 0, 2), 5);
        }
    }

    private static void results() {
        CHECK.sentence("30 CALL f: the parameters become the result, if there is one; 31 RETURN: just the result (four parameters, in their order)");
        int[] takes = code().op(Op.LOAD, 0, Op.OUT, Op.LOAD, 1, Op.OUT, Op.LOAD, 2, Op.OUT, Op.LOAD, 3, Op.OUT).bytes();
        SealedProcesses x = ran(new Build()
            .function(0, code().push(9).push(1).push(2).push(3).push(4).op(Op.CALL, 1, Op.OUT, Op.OUT, Op.EXIT))
            .function(4, new int[4], Build.types(0), 10, code().op(takes).push(5).op(Op.RETURN)));
        int[] due = {1, 2, 3, 4, 5, 9};
        for (int i = 0; i < due.length; i++) {
            CHECK.due("OUT " + i, x.output(i, 1), due[i]);
        }
        SealedProcesses y = ran(new Build()
            .function(0, code().push(9).push(1).push(2).push(3).push(4).op(Op.SPAWN, 1, Op.OUT, Op.EXIT))
            .function(4, new int[4], Build.types(255), 4, code().op(takes).op(Op.RETURN)));
        int[] spawned = {9, 1, 2, 3, 4};
        for (int i = 0; i < 5; i++) {
            CHECK.due("OUT " + i + " with SPAWN", y.output(i, 1), spawned[i]);
        }
        // A result that is the number 0 of its sort is one, too.
        int[][] zeros = {{0}, {1, 1}, {2}, {4, 1}, {5, 1, 0, 0}};
        int[][] makes = {{Op.PUSH, 0, 0, 0, 0}, {Op.NIL}, {Op.NIL}, {Op.BLOCK, 1}, {Op.CHANNEL, 1, Op.CLOSE}};
        for (int i = 0; i < zeros.length; i++) {
            SealedProcesses zero = Build.booted(Sample.declarations().function(0, code().push(9).op(Op.CALL, 1).label("y").op(Op.YIELD).jump("y"))
                .function(0, Build.types(), zeros[i], 0, code().op(makes[i]).op(Op.RETURN)), 0);
            zero.run(10);
            CHECK.due("items behind a result of type " + zeros[i][0], zero.process(0, 6), 2);
            CHECK.due("the result", zero.value(0, 0, 1), 0);
            CHECK.due("what is below", zero.value(0, 0, 0), 9);
        }
        // The callee's other locals are EMPTY, though an activation stood there before.
        SealedProcesses z = Build.booted(new Build().function(0, code().op(Op.CALL, 1, Op.CALL, 2, Op.EXIT))
            .function(2, code().push(6).op(Op.STORE, 0).push(7).op(Op.STORE, 1, Op.RETURN)).function(2, code().op(Op.YIELD, Op.RETURN)), 0);
        z.run(7);
        CHECK.due("activations", z.process(0, 5), 2);
        CHECK.due("local 0", z.value(0, 1, 0), 0);
        CHECK.due("local 1", z.value(0, 1, 1), 0);
    }

    private static void itsStepCounts() {
        CHECK.sentence("TRAPS end a process (its step counts)");
        Code[] traps = {code().op(Op.NIL, Op.LENGTH), code().push(1).op(Op.ROW).push(1).op(Op.TAKE, Op.OUT, Op.EXIT), code().push(1).push(0).op(Op.DIV, Op.OUT, Op.EXIT),
            code().push(-1).op(Op.ROW, Op.POP, Op.EXIT), code().push(16).op(Op.ROW, Op.POP, Op.EXIT)};
        int[] steps = {2, 4, 3, 2, 2};
        for (int i = 0; i < traps.length; i++) {
            SealedProcesses x = Build.booted(new Build().function(0, traps[i]), 0);
            CHECK.due("run to the trap", x.run(steps[i] - 1), steps[i] - 1);
            CHECK.due("not over yet", x.process(0, 0), 1);
            CHECK.due("the trap's step", x.run(10), 1);
            CHECK.due("over", x.process(0, 0), 5);
            CHECK.due("trap", x.process(0, 1), i + 1);
            CHECK.due("its steps", x.process(0, 9), steps[i]);
            CHECK.due("all steps", x.about(0), steps[i]);
        }
    }

    /** Each of four messages goes on to its own T, whatever message came ahead. */
    private static void messages() {
        CHECK.sentence("38 RECEIVE n T ..: on to the T of that message; the end in the state then, and above it the load");
        for (int t = 0; t < 4; t++) {
            Build module = Sample.declarations().function(4, code().op(Op.CHANNEL, 1, Op.STORE, 3, Op.STORE, 2, Op.CHANNEL, 0, Op.SWAP)
                .op(t == 0 ? new int[0] : t == 1 ? new int[] {Op.PUSH, 0, 0, 0, 66} : t == 2 ? new int[] {Op.BLOCK, 1} : new int[] {Op.LOAD, 2})
                .op(Op.SEND, t, Op.STORE, 0).receive("a", "b", "c", "d")
                .label("a").push(10).op(Op.OUT, Op.YIELD, Op.EXIT).label("b").op(Op.OUT).push(11).op(Op.OUT, Op.YIELD, Op.EXIT)
                .label("c").op(Op.SEE, 0, Op.OUT).push(12).op(Op.OUT, Op.YIELD, Op.EXIT).label("d").op(Op.STORE, 1).push(13).op(Op.OUT, Op.YIELD, Op.EXIT));
            SealedProcesses x = Build.booted(module, 0);
            for (int steps = 0; steps < 30 && x.about(6) < (t == 1 || t == 2 ? 2 : 1); steps++) {
                x.run(1);
            }
            int[] states = {1, 1, 2, 3};
            CHECK.due("the T of message " + t, x.output(t == 1 || t == 2 ? 1 : 0, 1), 10 + t);
            CHECK.due("its load", x.output(0, 1), t == 1 ? 66 : t == 2 ? 0 : 10 + t);
            CHECK.due("the client's state then", x.channel(1, 0, 0), states[t]);
            CHECK.due("the server's state then", x.channel(1, 1, 0), states[t]);
            CHECK.due("an end that came is its own", x.channel(0, 0, 1), 0);
            CHECK.due("none waits", x.channel(1, 1, 2), 0);
        }
    }
}
