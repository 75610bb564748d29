/** Promise 9, the traps: each of them, and the edge at which it comes. */
public final class TrapTest {
    private static final Check CHECK = new Check("promise 9, traps");

    public static void main(String[] args) {
        pointers();
        heap();
        shared();
        CHECK.end();
    }

    /** Record 0: two fields; 1: six; 2: one. */
    private static Build build() {
        return new Build().record(2, 1, 0, 0).record(6, 0, 0, 0, 0, 0, 0).record(1, 0)
            .contract(1, Op.CLIENTS, 1, 255, 0);
    }

    private static SealedProcesses trapped(String what, int trap, Build module) {
        SealedProcesses x = Build.booted(module, 0);
        x.run(10000);
        CHECK.due(what + ": how it is", x.process(0, 0), trap == 0 ? 4 : 5);
        CHECK.due(what + ": trap", x.process(0, 1), trap);
        return x;
    }

    private static SealedProcesses trapped(String what, int trap, Code code) {
        return trapped(what, trap, build().function(1, code));
    }

    private static Code code() {
        return new Code();
    }

    private static void pointers() {
        SealedProcesses x = trapped("GET", 1, code().op(Op.NIL, Op.GET, 0));
        CHECK.due("its step counts", x.about(0), 2);
        CHECK.due("its step counts", x.process(0, 9), 2);
        trapped("PUT", 1, code().op(Op.NIL).push(1).op(Op.PUT, 0));
        trapped("LENGTH", 1, code().op(Op.NIL, Op.LENGTH));
        trapped("TAKE", 1, code().op(Op.NIL).push(-1).op(Op.TAKE));
        trapped("LAY", 1, code().op(Op.NIL).push(9).push(1).op(Op.LAY));
        trapped("GET of a field that is NIL", 1, code().op(Op.NEW, 0, Op.GET, 0, Op.GET, 1, Op.OUT, Op.RETURN));
        trapped("TAKE of -1", 2, code().push(2).op(Op.ROW).push(-1).op(Op.TAKE, Op.OUT, Op.RETURN));
        trapped("TAKE of 2", 2, code().push(2).op(Op.ROW).push(2).op(Op.TAKE, Op.OUT, Op.RETURN));
        trapped("TAKE of 1", 0, code().push(2).op(Op.ROW).push(1).op(Op.TAKE, Op.OUT, Op.RETURN));
        trapped("LAY at 2", 2, code().push(2).op(Op.ROWS, 0).push(2).op(Op.NIL, Op.LAY, Op.RETURN));
        trapped("LAY at the lowest", 2, code().push(2).op(Op.ROW).push(Integer.MIN_VALUE).push(1).op(Op.LAY, Op.RETURN));
        trapped("a row of none", 2, code().push(0).op(Op.ROW).push(0).op(Op.TAKE, Op.OUT, Op.RETURN));
        trapped("DIV", 3, code().push(1).push(0).op(Op.DIV, Op.OUT, Op.RETURN));
        trapped("REM", 3, code().push(0).push(0).op(Op.REM, Op.OUT, Op.RETURN));
        trapped("ROW of -1", 4, code().push(-1).op(Op.ROW, Op.POP, Op.RETURN));
        trapped("ROWS of the lowest", 4, code().push(Integer.MIN_VALUE).op(Op.ROWS, 0, Op.POP, Op.RETURN));
    }

    private static void heap() {
        trapped("a row of 15", 0, code().push(15).op(Op.ROW, Op.POP, Op.RETURN));
        trapped("a row of 16", 5, code().push(16).op(Op.ROW, Op.POP, Op.RETURN));
        trapped("a row of the most", 5, code().push(Integer.MAX_VALUE).op(Op.ROWS, 0, Op.POP, Op.RETURN));
        trapped("five nodes of 3 cells and a row of none", 0, code().times(5, Op.NEW, 0).push(0).op(Op.ROW, Op.EXIT));
        trapped("six nodes of 3 cells", 5, code().times(6, Op.NEW, 0).op(Op.EXIT));
        trapped("nodes that are not reached", 0, code().times(30, Op.NEW, 0, Op.POP).op(Op.RETURN));
        trapped("what a local has is reached", 5, code().push(8).op(Op.ROW, Op.STORE, 0).push(7).op(Op.ROW, Op.EXIT));
        trapped("till it has something else", 0,
            code().push(8).op(Op.ROW, Op.STORE, 0).push(1).op(Op.STORE, 0).push(7).op(Op.ROW, Op.EXIT));
        // The local becomes EMPTY for the types, but it has the row still.
        trapped("a local that JOINING made EMPTY", 5, code().push(8).op(Op.ROW, Op.STORE, 0).push(1).zero("a")
            .jump("b").label("a").push(1).op(Op.STORE, 0).label("b").push(7).op(Op.ROW, Op.EXIT));
        trapped("what a caller has is reached", 5, build()
            .function(0, code().push(8).op(Op.ROW, Op.CALL, 1, Op.EXIT)).function(0, code().push(7).op(Op.ROW, Op.POP, Op.RETURN)));
        trapped("what was given is not the caller's", 0, build()
            .function(0, code().push(8).op(Op.ROW, Op.CALL, 1, Op.EXIT))
            .function(1, Build.types(2), Build.types(255), 1, code().op(Op.NIL, Op.STORE, 0).push(15).op(Op.ROW, Op.POP, Op.RETURN)));
        trapped("what was returned from is not reached", 0, build()
            .function(0, code().op(Op.CALL, 1).push(15).op(Op.ROW, Op.EXIT))
            .function(1, code().push(8).op(Op.ROW, Op.STORE, 0, Op.RETURN)));
        // A ring of two nodes is reached as long as one of them is, and not by itself.
        trapped("a ring that is reached", 5, ring().push(10).op(Op.ROW, Op.EXIT));
        trapped("a ring that has room", 0, ring().push(9).op(Op.ROW, Op.EXIT));
        trapped("a ring that is not reached", 0, ring().op(Op.NIL, Op.STORE, 0).push(15).op(Op.ROW, Op.EXIT));
        contents();
        largest();
    }

    /** In a heap of 1,024 cells: 255 nodes in a row of 258, to the last cell, and none of it lost. */
    private static void largest() {
        Code code = code().push(258).op(Op.ROWS, 0, Op.STORE, 0).push(255).op(Op.STORE, 1)
            .label("make").op(Op.LOAD, 1).zero("tell").op(Op.LOAD, 1).push(1).op(Op.SUB, Op.STORE, 1)
            .op(Op.LOAD, 0, Op.LOAD, 1, Op.NEW, 0, Op.LAY, Op.LOAD, 0, Op.LOAD, 1, Op.TAKE, Op.LOAD, 1, Op.PUT, 1).jump("make")
            .label("tell").op(Op.YIELD, Op.LOAD, 0).push(254).op(Op.TAKE, Op.GET, 1, Op.OUT).push(0).op(Op.ROW, Op.EXIT);
        SealedProcesses x = new SealedProcesses();
        Build.load(x, build().function(2, code).bytes());
        Build.boot(x, 83, 70, 1, 0, 0, 64);
        int steps = 5 + 255 * 16 + 3;
        CHECK.due("steps", x.run(steps), steps);
        CHECK.due("all cells are reached", x.process(0, 7), 1024);
        CHECK.due("the rest", x.run(100), 7);
        CHECK.due("what the last node has", x.output(0, 1), 254);
        CHECK.due("no cell more", x.process(0, 1), 5);
        SealedProcesses y = new SealedProcesses();
        Build.load(y, build().function(1, code().push(1022).op(Op.ROW).push(0).op(Op.ROW, Op.DUP, Op.STORE, 0, Op.LENGTH, Op.OUT)
            .op(Op.LOAD, 0, Op.LENGTH, Op.OUT, Op.EXIT)).bytes());
        Build.boot(y, 83, 70, 1, 0, 0, 64);
        y.run(4);
        CHECK.due("a row of none in the last cell", y.process(0, 7), 1024);
        CHECK.due("and again", y.process(0, 7), 1024);
        y.run(100);
        CHECK.due("it is still there", y.about(6), 2);
    }

    /** Local 0 has a node whose field 0 is a second one, whose field 0 is the first. */
    private static Code ring() {
        return code().op(Op.NEW, 0, Op.STORE, 0, Op.LOAD, 0, Op.NEW, 0, Op.PUT, 0)
            .op(Op.LOAD, 0, Op.GET, 0, Op.LOAD, 0, Op.PUT, 0);
    }

    /** A list of nodes keeps its numbers while much else is made and not reached any more. */
    private static void contents() {
        Code list = code().push(3).op(Op.STORE, 1, Op.NIL, Op.STORE, 0)
            .label("make").op(Op.LOAD, 1).zero("made")
            .op(Op.NEW, 0, Op.STORE, 2, Op.LOAD, 2, Op.LOAD, 1, Op.PUT, 1, Op.LOAD, 2, Op.LOAD, 0, Op.PUT, 0, Op.LOAD, 2, Op.STORE, 0)
            .op(Op.NIL, Op.STORE, 2).push(2).op(Op.ROW, Op.POP).op(Op.LOAD, 1).push(1).op(Op.SUB, Op.STORE, 1).jump("make")
            .label("made").push(20).op(Op.STORE, 1)
            .label("churn").op(Op.LOAD, 1).zero("tell").push(4).op(Op.ROWS, 0, Op.POP, Op.LOAD, 1).push(1).op(Op.SUB, Op.STORE, 1).jump("churn")
            .label("tell").op(Op.LOAD, 0, Op.NONE).zero("one").op(Op.RETURN)
            .label("one").op(Op.LOAD, 0, Op.GET, 1, Op.OUT, Op.LOAD, 0, Op.GET, 0, Op.STORE, 0).jump("tell");
        SealedProcesses x = trapped("a list", 0, build().function(3, list));
        CHECK.due("its length", x.about(6), 3);
        for (int i = 0; i < 3; i++) {
            CHECK.due("its number " + i, x.output(i, 1), i + 1);
        }
    }

    private static void shared() {
        SealedProcesses x = trapped("36 blocks of 7 cells", 0, build().function(1, loop(36, Op.CALL, 1).op(Op.RETURN))
            .function(0, code().op(Op.BLOCK, 1, Op.FREE, Op.RETURN)));
        CHECK.due("none is left", x.about(4), 0);
        // Three processes keep 12 blocks of 7 cells each, which are 252; a fourth two of 2 cells.
        Code keeps = code().times(12, Op.BLOCK, 1).label("a").op(Op.YIELD).jump("a");
        SealedProcesses z = Build.booted(build().function(0, keeps)
            .function(0, code().op(Op.BLOCK, 2, Op.BLOCK, 2).label("a").op(Op.YIELD).jump("a"))
            .function(0, code().times(9, Op.YIELD).op(Op.BLOCK, 2, Op.EXIT)), 0, 0, 0, 1, 2);
        z.run(1000);
        CHECK.due("256 cells", z.about(5), 256);
        CHECK.due("one more is too many", z.process(4, 1), 6);
        trapped("12 channels", 0, channels(5));
        SealedProcesses c = trapped("13 channels", 7, channels(6));
        CHECK.due("none is left", c.about(3), 0);
        trapped("16 activations", 0, build().function(0, code().push(15).op(Op.CALL, 1, Op.RETURN)).function(1, Build.types(0), Build.types(255), 1, deep()));
        trapped("17 activations", 9, build().function(0, code().push(16).op(Op.CALL, 1, Op.RETURN)).function(1, Build.types(0), Build.types(255), 1, deep()));
        trapped("12 processes", 8, build().function(1, loop(12, Op.SPAWN, 1).op(Op.RETURN)).function(0, code().label("a").op(Op.YIELD).jump("a")));
        trapped("11 more processes", 0, build().function(1, loop(11, Op.SPAWN, 1).op(Op.RETURN)).function(0, code().label("a").op(Op.YIELD).jump("a")));
        trapped("500 OUTs", 0, build().function(1, outs(500).op(Op.RETURN)));
        SealedProcesses o = trapped("501 OUTs", 10, build().function(1, outs(501).op(Op.RETURN)));
        CHECK.due("500 stay", o.about(6), 500);
        CHECK.due("no 501st", o.output(500, 1), -1);
    }

    /** Makes seven channels, and more in a second activation, since a stack holds 16. */
    private static Build channels(int more) {
        return build().function(0, code().times(7, Op.CHANNEL, 0).op(Op.CALL, 1, Op.EXIT))
            .function(0, code().times(more, Op.CHANNEL, 0).op(Op.EXIT));
    }

    /** Goes deeper as often as its parameter says: it is the first of as many activations. */
    private static Code deep() {
        return code().op(Op.LOAD, 0).push(1).op(Op.SAME).zero("on").op(Op.RETURN)
            .label("on").op(Op.LOAD, 0).push(1).op(Op.SUB, Op.CALL, 1, Op.RETURN);
    }

    private static Code loop(int count, int... does) {
        return code().push(count).op(Op.STORE, 0).label("a").op(Op.LOAD, 0).zero("b").op(does)
            .op(Op.LOAD, 0).push(1).op(Op.SUB, Op.STORE, 0).jump("a").label("b");
    }

    private static Code outs(int count) {
        return loop(count, Op.PUSH, 0, 0, 0, 3, Op.OUT);
    }
}
