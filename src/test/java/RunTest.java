/** Promise 9: turns, steps, and when all is still. */
public final class RunTest {
    private static final Check CHECK = new Check("promise 9");

    public static void main(String[] args) {
        numbers();
        turns();
        withinTurns();
        yields();
        lonely();
        spawned();
        waiting();
        still();
        CHECK.end();
    }

    /** Tells its number, over and over: three steps a round. */
    private static Code telling(int number) {
        return new Code().label("a").push(number).op(Op.OUT).jump("a");
    }

    private static void outs(SealedProcesses x, String what, int... processes) {
        CHECK.due(what + ": OUTs", x.about(6), processes.length);
        for (int i = 0; i < processes.length; i++) {
            CHECK.due(what + ": OUT " + i, x.output(i, 0), processes[i]);
        }
    }

    private static void numbers() {
        SealedProcesses x = Build.booted(new Build().function(0, telling(1)), 0);
        CHECK.due("run(-1)", x.run(-1), -1);
        CHECK.due("run(10001)", x.run(10001), -1);
        CHECK.due("run(lowest)", x.run(Integer.MIN_VALUE), -1);
        CHECK.due("run(highest)", x.run(Integer.MAX_VALUE), -1);
        CHECK.due("run(0)", x.run(0), 0);
        CHECK.due("steps", x.about(0), 0);
        CHECK.due("run(1)", x.run(1), 1);
        CHECK.due("steps", x.about(0), 1);
        SealedProcesses y = Build.booted(new Build().function(0, new Code().label("a").jump("a")), 0);
        CHECK.due("run(10000)", y.run(10000), 10000);
        CHECK.due("steps", y.about(0), 10000);
    }

    private static void turns() {
        Build module = new Build().function(0, telling(1)).function(0, telling(2));
        // 8 steps are three OUTs (at 2, 5 and 8); the next turn begins with JUMP: OUTs at 3 and 6.
        SealedProcesses x = Build.booted(module, 0, 1);
        CHECK.due("run(32)", x.run(32), 32);
        outs(x, "turns of eight", 0, 0, 0, 1, 1, 1, 0, 0, 1, 1);
        CHECK.due("steps of 0", x.process(0, 9), 16);
        CHECK.due("steps of 1", x.process(1, 9), 16);
    }

    private static void withinTurns() {
        Build module = new Build().function(0, telling(1)).function(0, telling(2));
        SealedProcesses x = Build.booted(module, 0, 1);
        for (int i = 0; i < 32; i++) {
            CHECK.due("run(1)", x.run(1), 1);
        }
        outs(x, "one step a call", 0, 0, 0, 1, 1, 1, 0, 0, 1, 1);
        SealedProcesses y = Build.booted(module, 0, 1);
        y.run(5);
        CHECK.due("the turn goes on", y.process(1, 9), 0);
        y.run(3);
        CHECK.due("to its end", y.process(0, 9), 8);
        y.run(1);
        CHECK.due("and the next begins", y.process(1, 9), 1);
        y.run(15);
        CHECK.due("and goes round", y.process(0, 9), 16);
        CHECK.due("and goes round", y.process(1, 9), 8);
    }

    private static void yields() {
        Build module = new Build()
            .function(0, new Code().label("a").push(1).op(Op.OUT, Op.YIELD).jump("a"))
            .function(0, new Code().push(5).op(Op.OUT, Op.RETURN))
            .function(0, new Code().op(Op.EXIT));
        SealedProcesses x = Build.booted(module, 0, 1, 2, 0);
        CHECK.due("run(3)", x.run(3), 3);
        CHECK.due("behind a YIELD", x.process(0, 4), 7);
        CHECK.due("run(1)", x.run(1), 1);
        CHECK.due("the next process", x.process(1, 9), 1);
        CHECK.due("run(3)", x.run(3), 3);
        CHECK.due("it is over by RETURN", x.process(1, 0), 4);
        CHECK.due("the next is over by EXIT", x.process(2, 0), 4);
        CHECK.due("its step", x.process(2, 9), 1);
        CHECK.due("and the next has not begun", x.process(3, 9), 0);
        CHECK.due("run(6)", x.run(6), 6);
        CHECK.due("those that are over are passed", x.process(0, 9), 6);
        CHECK.due("those that are over are passed", x.process(3, 9), 3);
        outs(x, "the OUTs", 0, 1, 3, 0);
    }

    /** Each step is a turn, and between two turns eleven numbers are passed that have no process. */
    private static void lonely() {
        SealedProcesses x = Build.booted(new Build().function(0, new Code().times(239, Op.YIELD).op(Op.RETURN)), 0);
        CHECK.due("run(230)", x.run(230), 230);
        CHECK.due("run(100)", x.run(100), 10);
    }

    /** One that is spawned runs when its number comes: in the same round, if that is still ahead. */
    private static void spawned() {
        Build module = new Build()
            .function(0, new Code().push(7).op(Op.SPAWN, 1).label("a").op(Op.YIELD).jump("a"))
            .function(1, Build.types(0), Build.types(255), 1, new Code().op(Op.LOAD, 0, Op.OUT, Op.RETURN))
            .function(0, new Code().op(Op.EXIT));
        SealedProcesses x = Build.booted(module, 2, 0, 0);
        CHECK.due("run(1)", x.run(1), 1);
        CHECK.due("0 is over", x.process(0, 0), 4);
        CHECK.due("run(3)", x.run(3), 3);
        CHECK.due("0 is there again", x.process(0, 0), 1);
        CHECK.due("its function", x.process(0, 3), 1);
        CHECK.due("its parameter", x.value(0, 1, 0), 7);
        CHECK.due("its steps", x.process(0, 9), 0);
        CHECK.due("its heap is its parent's", x.process(0, 8), 16);
        CHECK.due("run(3)", x.run(3), 3);
        CHECK.due("3 is there", x.process(3, 0), 1);
        CHECK.due("run(1)", x.run(1), 1);
        CHECK.due("3 is run in the same round", x.process(3, 9), 1);
        CHECK.due("0 is not yet", x.process(0, 9), 0);
        CHECK.due("run(5)", x.run(5), 5);
        CHECK.due("3 is over", x.process(3, 0), 4);
        CHECK.due("0 is over", x.process(0, 0), 4);
        outs(x, "the OUTs", 3, 0);
    }

    private static Build talkers() {
        // The client sends bare messages without end, the server receives one and yields.
        return new Build().contract(1, Op.CLIENTS, 1, 255, 0)
            .function(1, Build.types(5, 0, 0, Op.CLIENT), Build.types(255), 1,
                new Code().op(Op.LOAD, 0).label("a").op(Op.SEND, 0).jump("a"))
            .function(1, Build.types(5, 0, 0, Op.SERVER), Build.types(255), 1,
                new Code().op(Op.LOAD, 0).label("a").receive("b").label("b").op(Op.YIELD).jump("a"));
    }

    private static void waiting() {
        SealedProcesses x = new SealedProcesses();
        Build.load(x, talkers().bytes());
        Build.boot(x, 83, 70, 2, 0, 1, 1, 0, 0, 0, 1, 0);
        CHECK.due("run(1)", x.run(1), 1);
        CHECK.due("not looked at yet", x.process(0, 0), 1);
        CHECK.due("run(0) looks at nothing", x.run(0), 0);
        CHECK.due("not looked at yet", x.process(0, 0), 1);
        CHECK.due("run(1)", x.run(1), 1);
        CHECK.due("it waits to receive", x.process(0, 0), 2);
        CHECK.due("waiting is no step", x.process(0, 9), 1);
        CHECK.due("run(7): four messages, with JUMPs between", x.run(7), 7);
        CHECK.due("four wait", x.channel(0, 1, 2), 4);
        CHECK.due("as it was found", x.process(0, 0), 2);
        CHECK.due("run(1)", x.run(1), 1);
        CHECK.due("it goes on", x.process(0, 0), 1);
    }

    private static void still() {
        SealedProcesses x = new SealedProcesses();
        Build.load(x, talkers().bytes());
        Build.boot(x, 83, 70, 2, 0, 0, 1, 0, 0, 1, 1, 0);
        CHECK.due("they go on", x.run(1000), 1000);
        CHECK.due("not still", x.about(1), 0);

        Build lonely = new Build().contract(1, Op.CLIENTS, 1, 255, 0)
            .function(0, new Code().op(Op.CHANNEL, 0, Op.SWAP).label("a").op(Op.SEND, 0).jump("a"))
            .function(0, new Code().op(Op.CHANNEL, 0).receive("a").label("a").op(Op.EXIT));
        SealedProcesses y = Build.booted(lonely, 0, 1);
        // CHANNEL, SWAP, four times SEND and JUMP, and CHANNEL: the rest waits for ever.
        CHECK.due("run(100)", y.run(100), 11);
        CHECK.due("still", y.about(1), 1);
        CHECK.due("waits to send", y.process(0, 0), 3);
        CHECK.due("waits to receive", y.process(1, 0), 2);
        CHECK.due("run again", y.run(100), 0);
        CHECK.due("steps", y.about(0), 11);
        SealedProcesses z = Build.booted(new Build().function(0, new Code().op(Op.RETURN)), 0);
        CHECK.due("all are over", z.run(10000), 1);
        CHECK.due("still", z.about(1), 1);
    }
}
