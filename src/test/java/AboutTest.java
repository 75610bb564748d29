/** Promise 10: what is told of all that runs. */
public final class AboutTest {
    private static final Check CHECK = new Check("promise 10");

    private static void all(SealedProcesses x, String when, int... due) {
        for (int what = 0; what < 7; what++) {
            CHECK.due(when + ": about(" + what + ")", x.about(what), due[what]);
        }
        for (int what : new int[] {-1, 7, 8, Integer.MIN_VALUE, Integer.MAX_VALUE}) {
            CHECK.due(when + ": about(" + what + ")", x.about(what), -1);
        }
    }

    public static void main(String[] args) {
        SealedProcesses x = new SealedProcesses();
        all(x, "nothing is booted", -1, -1, -1, -1, -1, -1, -1);
        Build module = new Build().record(2, 0, 0).record(5, 0, 0, 0, 0, 0).contract(1, Op.CLIENTS, 1, 255, 0)
            .function(0, new Code().op(Op.BLOCK, 0, Op.BLOCK, 1, Op.CHANNEL, 0).push(1).op(Op.OUT).receive("a").label("a").op(Op.EXIT))
            .function(0, new Code().op(Op.RETURN));
        Build.load(x, module.bytes());
        all(x, "nothing is booted still", -1, -1, -1, -1, -1, -1, -1);
        Build.boot(x, 83, 70, 9);
        all(x, "a manifest with a fault", -1, -1, -1, -1, -1, -1, -1);
        Build.boot(x, 83, 70, 2, 0, 0, 1, 0, 1, 1);
        all(x, "booted", 0, 0, 2, 0, 0, 0, 0);
        x.run(1);
        all(x, "a block", 1, 0, 2, 0, 1, 3, 0);
        x.run(1);
        all(x, "two blocks", 2, 0, 2, 0, 2, 9, 0);
        x.run(3);
        // The first waits now, though it was not looked at since; the second can go on.
        all(x, "a channel and an OUT", 5, 0, 2, 1, 2, 9, 1);
        x.run(1);
        all(x, "the second is over", 6, 1, 1, 1, 2, 9, 1);
        CHECK.due("as it was found", x.process(0, 0), 2);
        Build.boot(x, 83, 70, 1, 0, 1, 1);
        all(x, "booted again", 0, 0, 1, 0, 0, 0, 0);
        x.run(1);
        all(x, "all are over", 1, 1, 0, 0, 0, 0, 0);
        still();
        CHECK.end();
    }

    /** Whether none could go on is told as things are, not as they were found. */
    private static void still() {
        SealedProcesses x = Build.booted(new Build().contract(1, Op.CLIENTS, 1, 255, 0)
            .function(0, new Code().op(Op.CHANNEL, 0).receive("a").label("a").op(Op.EXIT)), 0);
        CHECK.due("it can go on", x.about(1), 0);
        x.run(1);
        CHECK.due("it cannot", x.about(1), 1);
        CHECK.due("though not looked at", x.process(0, 0), 1);
        CHECK.due("run", x.run(5), 0);
        CHECK.due("looked at", x.process(0, 0), 2);
    }
}
