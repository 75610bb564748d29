/** Promise 4: the fault of the latest load() or boot(), and its place. */
public final class FaultTest {
    public static void main(String[] args) {
        Check check = new Check("promise 4");
        SealedProcesses x = new SealedProcesses();
        int[] good = new Build().function(0, new Code().op(Op.RETURN)).bytes();
        int[] wrong = new Build().function(0, new Code().op(Op.POP)).bytes();
        told(check, x, -1, -1);
        check.due("load(0)", x.load(0), -1);
        told(check, x, 1, 0);
        check.due("load(-1)", x.load(-1), -2);
        told(check, x, 1, 0);
        check.due("boot(1)", x.boot(1), -2);
        told(check, x, 1, 0);
        check.due("a good module", Build.load(x, good), 0);
        told(check, x, 0, -1);
        check.due("a wrong function", Build.load(x, wrong), -1);
        told(check, x, 2, 9);
        check.due("a wrong manifest", Build.boot(x, 83, 70, 1, 3, 0, 1), -1);
        told(check, x, 3, 3);
        check.due("a right manifest", Build.boot(x, 83, 70, 1, 0, 0, 1), 1);
        told(check, x, 0, -1);
        check.due("boot(0)", x.boot(0), -1);
        told(check, x, 1, 0);
        check.due("fault(2)", x.fault(2), -1);
        check.due("fault(-1)", x.fault(-1), -1);
        check.end();
    }

    private static void told(Check check, SealedProcesses x, int fault, int place) {
        check.due("fault(0)", x.fault(0), fault);
        check.due("fault(1)", x.fault(1), place);
    }
}
