/** Promise 5: modules go from the shelf, and what runs keeps them. */
public final class DiscardTest {
    public static void main(String[] args) {
        Check check = new Check("promise 5");
        SealedProcesses x = new SealedProcesses();
        int[] one = new Build().function(0, new Code().label("a").push(4).op(Op.OUT).jump("a")).bytes();
        int[] two = new Build().function(0, new Code().op(Op.RETURN)).bytes();
        check.due("discard(0) of an empty shelf", x.discard(0), false);
        for (int i = 0; i < 6; i++) {
            check.due("load", Build.load(x, one), i);
        }
        check.due("discard(-1)", x.discard(-1), false);
        check.due("discard(6)", x.discard(6), false);
        check.due("discard(max)", x.discard(Integer.MAX_VALUE), false);
        check.due("boot", Build.boot(x, 83, 70, 1, 3, 0, 1), 1);
        check.due("discard(3)", x.discard(3), true);
        check.due("discard(3) again", x.discard(3), false);
        check.due("module(3, 0, 2)", x.module(3, 0, 2), -1);
        check.due("discard(1)", x.discard(1), true);
        check.due("the lowest free place", Build.load(x, two), 1);
        check.due("then the next", Build.load(x, two), 3);
        check.due("then none", Build.load(x, two), -1);
        check.due("what runs", x.run(8), 8);
        check.due("its place", x.process(0, 2), 3);
        check.due("its OUTs", x.output(1, 1), 4);
        check.due("boot from the new one", Build.boot(x, 83, 70, 1, 3, 0, 1), 1);
        check.due("what runs now", x.run(8), 1);
        check.end();
    }
}
