/** Promise 9, the instructions: what each does, told by OUTs. */
public final class InstructionTest {
    private static final Check CHECK = new Check("promise 9, instructions");

    public static void main(String[] args) {
        numbers();
        moves();
        nodes();
        rows();
        calls();
        blocks();
        CHECK.end();
    }

    private static Build build() {
        return new Build().record(2, 0, 1, 0).record(3, 0, 0, 0);
    }

    private static void outs(String what, int locals, Code code, int... due) {
        outs(what, build().function(locals, code), due);
    }

    private static void outs(String what, Build module, int... due) {
        SealedProcesses x = Build.booted(module, 0);
        x.run(1000);
        CHECK.due(what + ": over", x.process(0, 0), 4);
        CHECK.due(what + ": OUTs", x.about(6), due.length);
        for (int i = 0; i < due.length; i++) {
            CHECK.due(what + ": OUT " + i, x.output(i, 1), due[i]);
        }
    }

    private static void two(int op, int a, int b, int due) {
        outs(a + " " + op + " " + b, 0, new Code().push(a).push(b).op(op, Op.OUT, Op.RETURN), due);
    }

    private static void numbers() {
        int least = Integer.MIN_VALUE;
        int most = Integer.MAX_VALUE;
        two(Op.ADD, 2, 3, 5);
        two(Op.ADD, most, 1, least);
        two(Op.SUB, 2, 3, -1);
        two(Op.SUB, least, 1, most);
        two(Op.MUL, -4, 3, -12);
        two(Op.MUL, 65536, 65536, 0);
        two(Op.MUL, 46341, 46341, 46341 * 46341);
        two(Op.DIV, 7, 2, 3);
        two(Op.DIV, -7, 2, -3);
        two(Op.DIV, 7, -2, -3);
        two(Op.DIV, least, -1, least);
        two(Op.REM, 7, 2, 1);
        two(Op.REM, -7, 2, -1);
        two(Op.REM, 7, -2, 1);
        two(Op.REM, least, -1, 0);
        two(Op.AND, 12, 10, 8);
        two(Op.OR, 12, 10, 14);
        two(Op.XOR, 12, 10, 6);
        two(Op.SHL, 1, 31, least);
        two(Op.SHL, 1, 33, 2);
        two(Op.SHL, 3, -1, least);
        two(Op.SHR, -8, 1, -4);
        two(Op.SHR, least, 31, -1);
        two(Op.SHR, 8, 32, 8);
        two(Op.LESS, 1, 2, 1);
        two(Op.LESS, 2, 1, 0);
        two(Op.LESS, 1, 1, 0);
        two(Op.LESS, least, most, 1);
        two(Op.SAME, 5, 5, 1);
        two(Op.SAME, 5, -5, 0);
        outs("the lowest INT", 0, new Code().push(least).op(Op.OUT).push(0x01020304).op(Op.OUT, Op.RETURN), least, 0x01020304);
    }

    private static void moves() {
        outs("DUP", 0, new Code().push(4).op(Op.DUP, Op.OUT, Op.OUT, Op.RETURN), 4, 4);
        outs("SWAP", 0, new Code().push(4).push(5).op(Op.SWAP, Op.OUT, Op.OUT, Op.RETURN), 4, 5);
        outs("POP", 0, new Code().push(4).push(5).op(Op.POP, Op.OUT, Op.RETURN), 4);
        outs("STORE, LOAD", 2, new Code().push(4).op(Op.STORE, 1, Op.LOAD, 1, Op.OUT, Op.LOAD, 1, Op.OUT, Op.RETURN), 4, 4);
        outs("NONE of NIL", 0, new Code().op(Op.NIL, Op.NONE, Op.OUT, Op.RETURN), 1);
        outs("NONE of a node", 0, new Code().op(Op.NEW, 0, Op.NONE, Op.OUT, Op.RETURN), 0);
        outs("NONE of a row of none", 0, new Code().push(0).op(Op.ROW, Op.NONE, Op.OUT, Op.RETURN), 0);
        outs("JUMP", 0, new Code().jump("a").push(1).op(Op.OUT).label("a").push(2).op(Op.OUT, Op.RETURN), 2);
        outs("ZERO of 0", 0, new Code().push(0).zero("a").push(1).op(Op.OUT).label("a").push(2).op(Op.OUT, Op.RETURN), 2);
        outs("ZERO of -1", 0, new Code().push(-1).zero("a").push(1).op(Op.OUT).label("a").push(2).op(Op.OUT, Op.RETURN), 1, 2);
        outs("EXIT", 0, new Code().push(1).op(Op.OUT, Op.EXIT).push(2).op(Op.OUT, Op.RETURN), 1);
    }

    private static void nodes() {
        outs("a new node", 0, new Code().op(Op.NEW, 0, Op.DUP, Op.GET, 0, Op.OUT, Op.GET, 1, Op.NONE, Op.OUT, Op.RETURN), 0, 1);
        outs("PUT, GET", 1, new Code().op(Op.NEW, 0, Op.STORE, 0, Op.LOAD, 0).push(9).op(Op.PUT, 0, Op.LOAD, 0, Op.LOAD, 0, Op.PUT, 1)
            .op(Op.LOAD, 0, Op.GET, 1, Op.GET, 1, Op.GET, 0, Op.OUT, Op.RETURN), 9);
        outs("two names of one node", 2, new Code().op(Op.NEW, 1, Op.DUP, Op.STORE, 0, Op.STORE, 1, Op.LOAD, 0).push(3).op(Op.PUT, 2)
            .op(Op.LOAD, 1, Op.GET, 2, Op.OUT, Op.LOAD, 1, Op.GET, 1, Op.OUT, Op.RETURN), 3, 0);
    }

    private static void rows() {
        outs("a row", 1, new Code().push(3).op(Op.ROW, Op.DUP, Op.STORE, 0, Op.LENGTH, Op.OUT, Op.LOAD, 0).push(2).push(8).op(Op.LAY)
            .op(Op.LOAD, 0).push(2).op(Op.TAKE, Op.OUT, Op.LOAD, 0).push(0).op(Op.TAKE, Op.OUT, Op.RETURN), 3, 8, 0);
        outs("a row of nodes", 1, new Code().push(2).op(Op.ROWS, 1, Op.STORE, 0, Op.LOAD, 0).push(1).op(Op.TAKE, Op.NONE, Op.OUT)
            .op(Op.LOAD, 0).push(1).op(Op.NEW, 1, Op.LAY, Op.LOAD, 0).push(1).op(Op.TAKE).push(6).op(Op.PUT, 1)
            .op(Op.LOAD, 0).push(1).op(Op.TAKE, Op.GET, 1, Op.OUT, Op.LOAD, 0, Op.LENGTH, Op.OUT, Op.RETURN), 1, 6, 2);
        outs("a row of none", 0, new Code().push(0).op(Op.ROWS, 0, Op.LENGTH, Op.OUT, Op.RETURN), 0);
    }

    private static void calls() {
        outs("CALL", build().function(0, new Code().push(20).push(3).op(Op.CALL, 1, Op.OUT, Op.RETURN))
            .function(2, Build.types(0, 0), Build.types(0), 2, new Code().op(Op.LOAD, 0, Op.LOAD, 1, Op.SUB, Op.RETURN)), 17);
        outs("CALL without a result", build().function(0, new Code().push(1).push(2).op(Op.CALL, 1, Op.OUT, Op.RETURN))
            .function(1, Build.types(0), Build.types(255), 1, new Code().op(Op.LOAD, 0, Op.OUT, Op.RETURN)), 2, 1);
        outs("a result that is a node", build().function(0, new Code().op(Op.CALL, 1, Op.GET, 0, Op.OUT, Op.RETURN))
            .function(0, Build.types(), Build.types(1, 0), 0, new Code().op(Op.NEW, 0, Op.DUP).push(5).op(Op.PUT, 0, Op.RETURN)), 5);
        Code factorial = new Code().op(Op.LOAD, 0).zero("end").op(Op.LOAD, 0, Op.LOAD, 0).push(1).op(Op.SUB, Op.CALL, 1, Op.MUL, Op.RETURN)
            .label("end").push(1).op(Op.RETURN);
        outs("a function that calls itself", build().function(0, new Code().push(10).op(Op.CALL, 1, Op.OUT, Op.RETURN))
            .function(1, Build.types(0), Build.types(0), 1, factorial), 3628800);
        outs("EXIT from a called one", build().function(0, new Code().op(Op.CALL, 1).push(1).op(Op.OUT, Op.RETURN))
            .function(0, new Code().push(2).op(Op.OUT, Op.EXIT)), 2);
    }

    private static void blocks() {
        outs("SET, SEE", 0, new Code().op(Op.BLOCK, 1).push(7).op(Op.SET, 2, Op.SEE, 2, Op.OUT, Op.SEE, 0, Op.OUT, Op.FREE, Op.RETURN), 7, 0);
        outs("a block that was freed is all 0 again", 0, new Code().op(Op.BLOCK, 1).push(7).op(Op.SET, 2, Op.FREE)
            .op(Op.BLOCK, 1, Op.SEE, 2, Op.OUT, Op.FREE, Op.RETURN), 0);
        outs("a block through a call", build().function(0, new Code().op(Op.BLOCK, 1, Op.CALL, 1, Op.SEE, 1, Op.OUT, Op.FREE, Op.RETURN))
            .function(1, Build.types(4, 1), Build.types(4, 1), 1, new Code().op(Op.LOAD, 0).push(3).op(Op.SET, 1, Op.RETURN)), 3);
    }
}
