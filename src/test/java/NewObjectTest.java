/** Promise 1: an empty shelf, nothing booted, an empty tape; and the constant. */
public final class NewObjectTest {
    public static void main(String[] args) {
        Check check = new Check("promise 1");
        SealedProcesses x = new SealedProcesses();
        check.due("NONE", SealedProcesses.NONE, -1);
        for (int i = -1; i <= 12; i++) {
            check.due("module(" + i + ", 0, 2)", x.module(i, 0, 2), -1);
            check.due("typeAt(" + i + ", 0, 0, 1, 0)", x.typeAt(i, 0, 0, 1, 0), -1);
            check.due("discard(" + i + ")", x.discard(i), false);
            check.due("about(" + i + ")", x.about(i), -1);
            check.due("process(" + i + ", 0)", x.process(i, 0), -1);
            check.due("value(" + i + ", 0, 0)", x.value(i, 0, 0), Integer.MIN_VALUE);
            check.due("block(" + i + ", 0)", x.block(i, 0), -1);
            check.due("channel(" + i + ", 0, 0)", x.channel(i, 0, 0), -1);
            check.due("output(" + i + ", 0)", x.output(i, 0), -1);
        }
        check.due("run(5)", x.run(5), -1);
        check.due("run(0)", x.run(0), -1);
        check.due("fault(0)", x.fault(0), -1);
        check.due("fault(1)", x.fault(1), -1);
        check.due("load(1)", x.load(1), -2);
        check.due("boot(1)", x.boot(1), -2);
        check.due("fault(0)", x.fault(0), -1);
        check.due("feed", x.feed(1, 2, 3, 4, 5), 20);
        SealedProcesses y = new SealedProcesses();
        check.due("feed of another object", y.feed(1, 2, 3, 4, 5), 20);
        check.end();
    }
}
