/** Promise 6: what a module on the shelf has. */
public final class ModuleTest {
    public static void main(String[] args) {
        Check check = new Check("promise 6");
        SealedProcesses x = new SealedProcesses();
        Build module = new Build().record(1, 0).record(1, 0)
            .contract(1, Op.NOBODYS, 0)
            .function(3, Build.types(0, 2, 1, 1), Build.types(0), 5,
                new Code().op(Op.LOAD, 0, Op.LOAD, 0, Op.LOAD, 0).op(Op.ADD, Op.ADD, Op.RETURN))
            .function(0, new Code().jump("a").times(9, Op.NIL).label("a").op(Op.RETURN))
            .function(0, new Code().times(16, Op.NIL).op(Op.EXIT));
        check.due("load", Build.load(x, module.bytes()), 0);
        for (int f = -1; f < 5; f++) {
            check.due("records, f " + f, x.module(0, f, 0), 2);
            check.due("contracts, f " + f, x.module(0, f, 1), 1);
            check.due("functions, f " + f, x.module(0, f, 2), 3);
            check.due("bytes, f " + f, x.module(0, f, 3), module.bytes().length);
        }
        int[][] due = {{3, 5, 9, module.codeStart(0), 3}, {0, 0, 12, module.codeStart(1), 0}, {0, 0, 17, module.codeStart(2), 16}};
        for (int f = 0; f < 3; f++) {
            for (int i = 0; i < 5; i++) {
                check.due("module(0, " + f + ", " + (10 + i) + ")", x.module(0, f, 10 + i), due[f][i]);
            }
        }
        for (int what : new int[] {-1, 4, 5, 9, 15, Integer.MAX_VALUE, Integer.MIN_VALUE}) {
            check.due("what " + what, x.module(0, 0, what), -1);
        }
        for (int what = 10; what < 15; what++) {
            check.due("function -1", x.module(0, -1, what), -1);
            check.due("function 3", x.module(0, 3, what), -1);
        }
        for (int m : new int[] {-1, 1, 5, 6, Integer.MAX_VALUE, Integer.MIN_VALUE}) {
            check.due("module " + m, x.module(m, 0, 2), -1);
        }
        check.end();
    }
}
