/** Promise 15: OUTs, in their order. */
public final class OutputTest {
    public static void main(String[] args) {
        Check check = new Check("promise 15");
        check.due("nothing is booted", new SealedProcesses().output(0, 0), -1);
        SealedProcesses x = Build.booted(new Build()
            .function(0, new Code().push(-1).op(Op.OUT).push(Integer.MIN_VALUE).op(Op.OUT, Op.YIELD).push(3).op(Op.OUT, Op.RETURN))
            .function(0, new Code().push(Integer.MAX_VALUE).op(Op.OUT, Op.RETURN)), 0, 1);
        check.due("none yet", x.output(0, 1), -1);
        x.run(2);
        check.due("one", x.output(0, 0), 0);
        check.due("an INT that is NONE", x.output(0, 1), -1);
        check.due("no second", x.output(1, 0), -1);
        x.run(100);
        int[] processes = {0, 0, 1, 0};
        int[] numbers = {-1, Integer.MIN_VALUE, Integer.MAX_VALUE, 3};
        for (int i = 0; i < 4; i++) {
            check.due("output(" + i + ", 0)", x.output(i, 0), processes[i]);
            check.due("output(" + i + ", 1)", x.output(i, 1), numbers[i]);
            check.due("output(" + i + ", 2)", x.output(i, 2), -1);
            check.due("output(" + i + ", -1)", x.output(i, -1), -1);
        }
        for (int i : new int[] {-1, 4, 499, 500, Integer.MIN_VALUE, Integer.MAX_VALUE}) {
            check.due("output(" + i + ", 0)", x.output(i, 0), -1);
            check.due("output(" + i + ", 1)", x.output(i, 1), -1);
        }
        Build.boot(x, 83, 70, 1, 0, 1, 1);
        check.due("a boot makes them go", x.output(0, 0), -1);
        x.run(2);
        check.due("the first anew", x.output(0, 1), Integer.MAX_VALUE);
        check.end();
    }
}
