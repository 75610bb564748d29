/** Promise 12: what stands on a process's stack and in its locals. */
public final class ValueTest {
    private static final Check CHECK = new Check("promise 12");
    private static final int NO = Integer.MIN_VALUE;

    public static void main(String[] args) {
        kinds();
        empty();
        joined();
        CHECK.end();
    }

    private static void kinds() {
        SealedProcesses x = Build.booted(new Build().record(1, 0).contract(1, Op.NOBODYS, 0)
            .function(3, new Code().push(-7).op(Op.NIL, Op.NEW, 0).push(0).op(Op.ROW, Op.BLOCK, 0, Op.BLOCK, 0, Op.CHANNEL, 0, Op.CHANNEL, 0)
                .push(5).op(Op.STORE, 1).op(Op.CALL, 1, Op.EXIT))
            .function(2, new Code().push(1).op(Op.STORE, 0, Op.RETURN)), 0);
        x.run(11);
        int[] stack = {-7, 0, 1, 1, 0, 1, 0, 1, 2, 3};
        for (int i = 0; i < stack.length; i++) {
            CHECK.due("stack place " + i, x.value(0, 0, i), stack[i]);
        }
        CHECK.due("above the stack", x.value(0, 0, 10), NO);
        int[] locals = {0, 5, 0, NO};
        for (int i = 0; i < locals.length; i++) {
            CHECK.due("local " + i, x.value(0, 1, i), locals[i]);
        }
        for (int odd : new int[] {-1, 16, 26, Integer.MAX_VALUE, Integer.MIN_VALUE}) {
            CHECK.due("process " + odd, x.value(odd, 1, 1), NO);
            CHECK.due("what " + odd, x.value(0, odd, 1), NO);
            CHECK.due("stack place " + odd, x.value(0, 0, odd), NO);
            CHECK.due("local " + odd, x.value(0, 1, odd), NO);
        }
        CHECK.due("process 1", x.value(1, 0, 0), NO);
        x.run(1);
        CHECK.due("the latest activation's stack", x.value(0, 0, 0), NO);
        CHECK.due("the latest activation's locals", x.value(0, 1, 1), 0);
        x.run(2);
        CHECK.due("the latest activation's locals", x.value(0, 1, 0), 1);
        x.run(1);
        CHECK.due("back: the stack", x.value(0, 0, 0), -7);
        CHECK.due("back: the locals", x.value(0, 1, 1), 5);
        x.run(1);
        CHECK.due("over: the stack", x.value(0, 0, 0), NO);
        CHECK.due("over: the locals", x.value(0, 1, 1), NO);
    }

    private static void empty() {
        SealedProcesses x = Build.booted(new Build().record(1, 0)
            .function(1, new Code().op(Op.BLOCK, 0, Op.BLOCK, 0, Op.STORE, 0, Op.LOAD, 0).push(9).op(Op.STORE, 0, Op.LOAD, 0, Op.EXIT)), 0);
        CHECK.due("nothing was stored", x.value(0, 1, 0), 0);
        x.run(3);
        CHECK.due("a block", x.value(0, 1, 0), 1);
        CHECK.due("the other on the stack", x.value(0, 0, 0), 0);
        CHECK.due("one on the stack", x.value(0, 0, 1), NO);
        x.run(1);
        CHECK.due("EMPTY behind the LOAD", x.value(0, 1, 0), 0);
        CHECK.due("it is on the stack", x.value(0, 0, 1), 1);
        x.run(3);
        CHECK.due("an INT stays behind a LOAD", x.value(0, 1, 0), 9);
        CHECK.due("and is on the stack", x.value(0, 0, 2), 9);
    }

    /** For the types the local is EMPTY, but it has what was stored. */
    private static void joined() {
        Code code = new Code().push(4).op(Op.STORE, 0).push(0).zero("a").op(Op.NEW, 0, Op.STORE, 0).label("a").op(Op.YIELD, Op.RETURN);
        SealedProcesses x = Build.booted(new Build().record(1, 0).function(1, code), 0);
        CHECK.due("its type", x.typeAt(0, 0, code.place("a"), 1, 0), 7);
        x.run(4);
        CHECK.due("an INT that was stored", x.value(0, 1, 0), 4);
        Code node = new Code().push(4).op(Op.STORE, 0).push(1).zero("a").op(Op.NEW, 0, Op.STORE, 0).label("a").op(Op.YIELD, Op.RETURN);
        SealedProcesses y = Build.booted(new Build().record(1, 0).function(1, node), 0);
        y.run(6);
        CHECK.due("a node that was stored", y.value(0, 1, 0), 1);
        CHECK.due("that is reached, too", y.process(0, 7), 2);
    }
}
