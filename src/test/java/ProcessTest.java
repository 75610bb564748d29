/** Promise 11: what is told of a process. */
public final class ProcessTest {
    private static final Check CHECK = new Check("promise 11");

    private static void all(SealedProcesses x, int p, String when, int... due) {
        for (int what = 0; what < 10; what++) {
            CHECK.due(when + ": process(" + p + ", " + what + ")", x.process(p, what), due[what]);
        }
        for (int what : new int[] {-1, 10, Integer.MIN_VALUE, Integer.MAX_VALUE}) {
            CHECK.due(when + ": process(" + p + ", " + what + ")", x.process(p, what), -1);
        }
    }

    public static void main(String[] args) {
        life();
        numbers();
        reached();
        CHECK.end();
    }

    private static void life() {
        SealedProcesses x = new SealedProcesses();
        Build module = new Build().record(2, 0, 1, 0)
            .function(0, new Code().op(Op.NEW, 0, Op.CALL, 1, Op.RETURN))
            .function(1, Build.types(1, 0), Build.types(255), 2, new Code().push(3).op(Op.ROW, Op.STORE, 1).push(1)
                .op(Op.YIELD, Op.POP).op(Op.LOAD, 0, Op.POP, Op.RETURN))
            .function(0, new Code().op(Op.NIL, Op.GET, 0));
        Build.load(x, new Build().function(0, new Code().op(Op.RETURN)).bytes());
        Build.load(x, module.bytes());
        Build.boot(x, 83, 70, 2, 1, 0, 3, 1, 2, 64);
        all(x, 0, "booted", 1, 0, 1, 0, 0, 1, 0, 0, 48, 0);
        all(x, 1, "booted", 1, 0, 1, 2, 0, 1, 0, 0, 1024, 0);
        x.run(1);
        all(x, 0, "a node", 1, 0, 1, 0, 2, 1, 1, 3, 48, 1);
        x.run(1);
        all(x, 0, "called", 1, 0, 1, 1, 0, 2, 0, 3, 48, 2);
        x.run(2);
        all(x, 0, "a row", 1, 0, 1, 1, 6, 2, 1, 7, 48, 4);
        x.run(2);
        all(x, 0, "stored", 1, 0, 1, 1, 13, 2, 1, 7, 48, 6);
        x.run(1);
        all(x, 0, "behind YIELD", 1, 0, 1, 1, 14, 2, 1, 7, 48, 7);
        x.run(2);
        all(x, 1, "a trap", 5, 1, 1, 0, 0, 0, 0, 0, 1024, 2);
        x.run(4);
        all(x, 0, "back", 1, 0, 1, 0, 4, 1, 0, 0, 48, 11);
        x.run(1);
        all(x, 0, "over", 4, 0, 1, 0, 0, 0, 0, 0, 48, 12);
        all(x, 1, "over by a trap still", 5, 1, 1, 0, 0, 0, 0, 0, 1024, 2);
    }

    private static void numbers() {
        SealedProcesses x = new SealedProcesses();
        Build.load(x, new Build().function(0, new Code().label("a").op(Op.SPAWN, 1).jump("a"))
            .function(0, new Code().op(Op.RETURN)).bytes());
        CHECK.due("nothing is booted", x.process(0, 0), -1);
        Build.boot(x, 83, 70, 1, 0, 0, 2);
        CHECK.due("number 1", x.process(1, 0), -1);
        x.run(1);
        CHECK.due("number 1 is there", x.process(1, 0), 1);
        CHECK.due("number 2 is not", x.process(2, 0), -1);
        x.run(7 + 4);
        CHECK.due("number 4 is over", x.process(4, 0), 4);
        CHECK.due("number 5 never was", x.process(5, 0), -1);
        for (int p : new int[] {-1, 12, 13, Integer.MIN_VALUE, Integer.MAX_VALUE}) {
            CHECK.due("number " + p, x.process(p, 0), -1);
        }
        CHECK.due("number 1 is over", x.process(1, 0), 4);
        x.run(1);
        CHECK.due("the lowest number that is over is given again", x.process(1, 0), 1);
        CHECK.due("with no step yet", x.process(1, 9), 0);
        CHECK.due("of its parent's heap", x.process(1, 8), 32);
        Build.boot(x, 83, 70, 1, 0, 1, 1);
        CHECK.due("a boot makes all of them new", x.process(1, 0), -1);
    }

    /** What is reached more than once, or by itself, takes its cells once. */
    private static void reached() {
        SealedProcesses x = Build.booted(new Build().record(2, 1, 0, 0).record(1, 0)
            .function(3, new Code().op(Op.NEW, 0, Op.DUP, Op.STORE, 0, Op.DUP, Op.LOAD, 0, Op.PUT, 0)
                .push(2).op(Op.ROWS, 0, Op.STORE, 1, Op.LOAD, 1).push(0).op(Op.LOAD, 0, Op.LAY)
                .op(Op.LOAD, 1).push(1).op(Op.NEW, 0, Op.LAY).op(Op.NIL, Op.STORE, 0, Op.POP)
                .op(Op.NIL, Op.STORE, 1).push(1).op(Op.OUT).jump("end").label("end").op(Op.RETURN)), 0);
        int[] steps = {3, 3, 3, 4, 3, 1, 3, 2};
        int[] cells = {3, 3, 6, 6, 9, 9, 9, 0};
        for (int i = 0; i < steps.length; i++) {
            CHECK.due("steps", x.run(steps[i]), steps[i]);
            CHECK.due("cells at " + i, x.process(0, 7), cells[i]);
            CHECK.due("told twice", x.process(0, 7), cells[i]);
        }
    }
}
