/** Promise 7: what comes to a place of a function's code. */
public final class TypeAtTest {
    private static final Check CHECK = new Check("promise 7");

    public static void main(String[] args) {
        kinds();
        joined();
        CHECK.end();
    }

    private static void kinds() {
        SealedProcesses x = new SealedProcesses();
        Code code = new Code().push(1).op(Op.NEW, 0).push(1).op(Op.ROW).push(1).op(Op.ROWS, 0, Op.BLOCK, 0)
            .op(Op.CHANNEL, 0, Op.NIL).label("all").op(Op.EXIT).label("never").op(Op.RETURN);
        Build module = new Build().record(1, 0).contract(1, Op.NOBODYS, 0)
            .function(2, Build.types(0, 4, 0), Build.types(255), 4, code);
        CHECK.due("load", Build.load(x, module.bytes()), 0);
        int[] due = {0, 1, 2, 3, 4, 5, 5, 6};
        for (int i = 0; i < due.length; i++) {
            CHECK.due("stack place " + i, x.typeAt(0, 0, code.place("all"), 0, i), due[i]);
        }
        int[] locals = {0, 4, 7, 7};
        for (int i = 0; i < locals.length; i++) {
            CHECK.due("local " + i, x.typeAt(0, 0, 0, 1, i), locals[i]);
        }
        CHECK.due("an empty stack", x.typeAt(0, 0, 0, 0, 0), -1);
        CHECK.due("a stack of one", x.typeAt(0, 0, 5, 0, 0), 0);
        CHECK.due("above it", x.typeAt(0, 0, 5, 0, 1), -1);
        CHECK.due("within an instruction", x.typeAt(0, 0, 1, 1, 0), -1);
        CHECK.due("where nothing comes to", x.typeAt(0, 0, code.place("never"), 1, 0), -1);
        CHECK.due("behind the code", x.typeAt(0, 0, code.bytes().length, 1, 0), -1);
        for (int odd : new int[] {-1, Integer.MIN_VALUE, Integer.MAX_VALUE, 255, 16, 8}) {
            CHECK.due("module " + odd, x.typeAt(odd, 0, 0, 1, 0), -1);
            CHECK.due("function " + odd, x.typeAt(0, odd, 0, 1, 0), -1);
            CHECK.due("place " + odd, x.typeAt(0, 0, odd == 8 || odd == 16 ? -1 : odd, 1, 0), -1);
            CHECK.due("what " + odd, x.typeAt(0, 0, 0, odd, 0), -1);
            CHECK.due("stack place " + odd, x.typeAt(0, 0, code.place("all"), 0, odd), -1);
            CHECK.due("local " + odd, x.typeAt(0, 0, code.place("all"), 1, odd), -1);
        }
        CHECK.due("local 4", x.typeAt(0, 0, 0, 1, 4), -1);
    }

    private static void joined() {
        SealedProcesses x = new SealedProcesses();
        // NIL on one way, a node on the other, on the stack and in local 0; in local 1 an INT on one
        // way alone, in local 2 a row and a node, in local 3 NIL on both; a block goes out of local 4.
        Code code = new Code().op(Op.BLOCK, 1, Op.STORE, 4).push(1).zero("other")
            .op(Op.NIL, Op.DUP, Op.STORE, 0).push(1).op(Op.STORE, 1).push(1).op(Op.ROW, Op.STORE, 2)
            .op(Op.NIL, Op.STORE, 3).jump("join")
            .label("other").op(Op.NEW, 0, Op.DUP, Op.STORE, 0, Op.NEW, 0, Op.STORE, 2, Op.NIL, Op.STORE, 3)
            .label("join").op(Op.POP, Op.LOAD, 4).label("taken").op(Op.FREE).label("end").op(Op.RETURN);
        Build module = new Build().record(2, 0, 1, 0).record(1, 0).function(5, code);
        CHECK.due("load", Build.load(x, module.bytes()), 0);
        int join = code.place("join");
        CHECK.due("NIL and a node", x.typeAt(0, 0, join, 0, 0), 1);
        int[] locals = {1, 7, 7, 6, 4};
        for (int i = 0; i < locals.length; i++) {
            CHECK.due("joined local " + i, x.typeAt(0, 0, join, 1, i), locals[i]);
        }
        CHECK.due("loaded", x.typeAt(0, 0, code.place("taken"), 0, 0), 4);
        CHECK.due("EMPTY then", x.typeAt(0, 0, code.place("taken"), 1, 4), 7);
        CHECK.due("freed", x.typeAt(0, 0, code.place("end"), 0, 0), -1);
        CHECK.due("before the join", x.typeAt(0, 0, code.place("other"), 1, 0), 7);
    }
}
