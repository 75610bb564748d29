/** Promise 9, edges: how long a turn is, what ends it, when all is still, and where run() stops and goes on. */
public final class TurnEdgesTest {
    private static final Check CHECK = new Check("edges of turns");

    public static void main(String[] args) {
        byNumber();
        tillItDidEight();
        orAYield();
        orIsOver();
        orTillItWaits();
        orWaitsToSend();
        lookedAtAgain();
        spawnedIsRun();
        still();
        stillOfEach();
        stopsBehindTheLastStep();
        goesOnThere();
        numbers();
        CHECK.end();
    }

    private static Code code() {
        return new Code();
    }

    /** Goes on for ever, and ends no turn by itself. */
    private static Code forEver() {
        return code().label("a").op(Op.NIL, Op.POP).jump("a");
    }

    /** So many instructions that end no turn. */
    private static Code instructions(int count) {
        Code made = code();
        for (int i = 0; i < count; i++) {
            made.op(i % 2 == 0 ? Op.NIL : Op.POP);
        }
        return made;
    }

    private static SealedProcesses booted(Build module, int... functions) {
        return Build.booted(module, functions);
    }

    private static void byNumber() {
        CHECK.sentence("from process 0 on, by number, round and round");
        Build module = new Build();
        for (int f = 0; f < 6; f++) {
            module.function(0, code().label("a").push(f).op(Op.OUT, Op.YIELD).jump("a"));
        }
        for (int count = 1; count <= 6; count++) {
            int[] functions = new int[count];
            for (int f = 0; f < count; f++) {
                functions[f] = f;
            }
            SealedProcesses x = booted(module, functions);
            CHECK.due("run", x.run(3 * count + 4 * 4 * count), 19 * count);
            for (int i = 0; i < 5 * count; i++) {
                CHECK.due(count + " processes: OUT " + i, x.output(i, 0), i % count);
            }
        }
    }

    private static void tillItDidEight() {
        CHECK.sentence("one that is not over does instructions, each a STEP, till it did 8");
        Build module = new Build().function(0, forEver());
        for (int count = 1; count <= 3; count++) {
            for (int n = 0; n <= 50; n++) {
                SealedProcesses x = booted(module, new int[count]);
                CHECK.due("run(" + n + ")", x.run(n), n);
                for (int p = 0; p < count; p++) {
                    int due = n / (8 * count) * 8 + Math.max(0, Math.min(8, n % (8 * count) - 8 * p));
                    CHECK.due("steps of " + p + " of " + count, x.process(p, 9), due);
                }
            }
        }
    }

    private static void orAYield() {
        CHECK.sentence("till it did 8, or a YIELD");
        for (int ahead = 0; ahead <= 9; ahead++) {
            Build module = new Build().function(0, instructions(ahead).op(Op.YIELD).times(20, Op.NIL, Op.POP).op(Op.EXIT)).function(0, forEver());
            SealedProcesses x = booted(module, 0, 1);
            int turn = ahead < 8 ? ahead + 1 : 8;
            x.run(turn);
            CHECK.due("a turn with YIELD behind " + ahead, x.process(0, 9), turn);
            x.run(8);
            CHECK.due("the other's turn", x.process(0, 9), turn);
            CHECK.due("the other's turn", x.process(1, 9), 8);
            // The next turn is counted anew: eight steps, or up to a YIELD that is still ahead.
            int next = ahead < 8 ? 8 : ahead + 1 - 8;
            x.run(next + 1);
            CHECK.due("the next turn", x.process(0, 9), turn + next);
            CHECK.due("and the other's", x.process(1, 9), 9);
        }
    }

    private static void orIsOver() {
        CHECK.sentence("till it did 8, or a YIELD, or is over");
        int[][] ends = {{Op.EXIT}, {Op.RETURN}, {Op.NIL, Op.GET, 0}};
        for (int[] end : ends) {
            for (int ahead = 0; ahead <= 8; ahead += 2) {
                int steps = ahead + (end[0] == Op.NIL ? 2 : 1);
                SealedProcesses x = booted(new Build().function(0, instructions(ahead).op(end)).function(0, forEver()), 0, 1);
                int others = steps > 8 ? 8 : 0;
                x.run(steps + others);
                CHECK.due("over behind " + steps, x.process(0, 0), end[0] == Op.NIL ? 5 : 4);
                CHECK.due("its steps", x.process(0, 9), steps);
                CHECK.due("the other's steps", x.process(1, 9), others);
                x.run(8 + 8);
                CHECK.due("the other's turns", x.process(1, 9), others + 16);
                CHECK.due("it has no steps more", x.process(0, 9), steps);
            }
        }
    }

    private static Build waiters(int ahead) {
        return new Build().contract(1, Op.CLIENTS, 1, 255, 0)
            .function(1, Build.types(5, 0, 0, Op.SERVER), Build.types(255), 1,
                instructions(ahead).op(Op.LOAD, 0).receive("a").label("a").op(Op.EXIT))
            .function(1, Build.types(5, 0, 0, Op.CLIENT), Build.types(255), 1, forEver());
    }

    private static void orTillItWaits() {
        CHECK.sentence("or till it WAITS: at a RECEIVE with no message for its end: .. that is not done, no step");
        for (int ahead = 0; ahead <= 8; ahead += 2) {
            SealedProcesses x = new SealedProcesses();
            Build.load(x, waiters(ahead).bytes());
            Build.boot(x, 83, 70, 2, 0, 0, 1, 0, 0, 1, 1, 0);
            int first = Math.min(8, ahead + 1);
            x.run(first);
            CHECK.due("not looked at yet", x.process(0, 0), 1);
            x.run(1);
            CHECK.due("the other's step", x.process(1, 9), 1);
            CHECK.due("found waiting, if the turn was not at its end", x.process(0, 0), ahead + 1 < 8 ? 2 : 1);
            CHECK.due("no step", x.process(0, 9), first);
            x.run(8);
            CHECK.due("steps of the next turn", x.process(0, 9), ahead + 1);
            x.run(1);
            CHECK.due("found waiting", x.process(0, 0), 2);
            CHECK.due("its next instruction is RECEIVE still", x.process(0, 4), ahead + 2);
            CHECK.due("all steps", x.about(0), x.process(0, 9) + x.process(1, 9));
        }
    }

    private static void orWaitsToSend() {
        CHECK.sentence("or a SEND when four wait for the other end already: that is not done, no step");
        for (int sends = 3; sends <= 6; sends++) {
            Build module = new Build().contract(1, Op.CLIENTS, 1, 255, 0)
                .function(0, code().op(Op.CHANNEL, 0, Op.SWAP).times(sends, Op.SEND, 0).op(Op.YIELD, Op.EXIT)).function(0, forEver());
            SealedProcesses x = booted(module, 0, 1);
            x.run(2 + Math.min(4, sends));
            CHECK.due("messages that wait", x.channel(0, 1, 2), Math.min(4, sends));
            CHECK.due("not looked at yet", x.process(0, 0), 1);
            x.run(1);
            CHECK.due("steps", x.process(0, 9), sends <= 4 ? 3 + sends : 6);
            CHECK.due("how it is", x.process(0, 0), sends <= 4 ? 1 : 3);
            CHECK.due("messages that wait", x.channel(0, 1, 2), Math.min(4, sends));
            CHECK.due("the state, of each end by itself", x.channel(0, 1, 0), 0);
        }
    }

    /** The second waits to receive; the first sends to it in a later turn, and goes on itself. */
    private static void lookedAtAgain() {
        CHECK.sentence("that is not done, no step, and looked at again in its next turn");
        Build module = new Build().contract(1, Op.CLIENTS, 1, 0, 0)
            .function(1, Build.types(5, 0, 0, Op.CLIENT), Build.types(255), 1, code().times(3, Op.YIELD).op(Op.LOAD, 0).push(6).op(Op.SEND, 0).jump("a")
                .label("a").op(Op.NIL, Op.POP).jump("a"))
            .function(1, Build.types(5, 0, 0, Op.SERVER), Build.types(255), 1, code().op(Op.LOAD, 0).receive("a").label("a").op(Op.OUT, Op.YIELD).jump("b").label("b").op(Op.EXIT));
        SealedProcesses x = new SealedProcesses();
        Build.load(x, module.bytes());
        Build.boot(x, 83, 70, 2, 0, 0, 1, 0, 0, 1, 1, 0);
        x.run(1 + 1 + 1);
        CHECK.due("the second waits", x.process(1, 0), 2);
        CHECK.due("it did its LOAD", x.process(1, 9), 1);
        x.run(1 + 3);
        CHECK.due("a message came", x.channel(0, 1, 2), 1);
        CHECK.due("it was not looked at since", x.process(1, 0), 2);
        x.run(5);
        CHECK.due("the first's turn goes on to its end", x.process(0, 9), 11);
        CHECK.due("still not", x.process(1, 0), 2);
        x.run(1);
        CHECK.due("its next turn", x.process(1, 0), 1);
        CHECK.due("it received", x.process(1, 9), 2);
        CHECK.due("and the message is gone", x.channel(0, 1, 2), 0);
        x.run(1);
        CHECK.due("and its OUT is there", x.output(0, 1), 6);
    }

    private static void spawnedIsRun() {
        CHECK.sentence("(A process that was spawned .. is run from the next time on that its number comes.)");
        Build module = new Build().function(0, code().op(Op.SPAWN, 1).times(11, Op.NIL).op(Op.YIELD, Op.EXIT)).function(0, forEver()).function(0, code().op(Op.EXIT));
        SealedProcesses x = booted(module, 0, 2, 0);
        // Process 0 makes 3, in front of it; process 1 is over; process 2 makes 1, behind it.
        x.run(8 + 1 + 8);
        CHECK.due("3 has no steps yet", x.process(3, 9), 0);
        CHECK.due("1 has none", x.process(1, 9), 0);
        CHECK.due("1 is a new one", x.process(1, 3), 1);
        x.run(8);
        CHECK.due("3 comes first", x.process(3, 9), 8);
        CHECK.due("1 has none", x.process(1, 9), 0);
        x.run(5 + 1);
        CHECK.due("0 is looked at ahead of 1", x.process(0, 9), 13);
        CHECK.due("then 1", x.process(1, 9), 1);
    }

    private static void still() {
        CHECK.sentence("When none can go on (each was looked at once around) all is STILL");
        Build module = new Build().contract(1, Op.CLIENTS, 1, 255, 0)
            .function(0, code().op(Op.CHANNEL, 0).receive("a").label("a").op(Op.EXIT)).function(0, instructions(6).op(Op.EXIT));
        for (int count = 1; count <= 6; count++) {
            for (int alive = 0; alive <= count; alive++) {
                int[] functions = new int[count];
                for (int p = 0; p < count; p++) {
                    functions[p] = p < alive ? 0 : 1;
                }
                SealedProcesses x = booted(module, functions);
                int steps = alive + 7 * (count - alive);
                CHECK.due("about(1) ahead", x.about(1), 0);
                CHECK.due("run to the step ahead of the last", x.run(steps - 1), steps - 1);
                CHECK.due("about(1) there", x.about(1), 0);
                CHECK.due("run(10000)", x.run(10000), 1);
                CHECK.due("about(1) then", x.about(1), 1);
                CHECK.due("those that are not over", x.about(2), alive);
                for (int p = 0; p < count; p++) {
                    CHECK.due("how " + p + " is", x.process(p, 0), p < alive ? 2 : 4);
                }
                CHECK.due("run(10000) again", x.run(10000), 0);
                CHECK.due("run(1) again", x.run(1), 0);
                CHECK.due("steps", x.about(0), steps);
            }
        }
    }

    /** One can go on, and stands anywhere; all others wait: it is found, however far around. */
    private static void stillOfEach() {
        CHECK.sentence("(each was looked at once around): one that can go on is found wherever it is");
        Build module = new Build().contract(1, Op.CLIENTS, 1, 255, 0)
            .function(0, code().op(Op.CHANNEL, 0).receive("a").label("a").op(Op.EXIT)).function(0, code().times(99, Op.YIELD).op(Op.EXIT));
        for (int one = 0; one < 6; one++) {
            int[] functions = new int[6];
            functions[one] = 1;
            SealedProcesses x = booted(module, functions);
            CHECK.due("all steps", x.run(10000), 5 + 100);
            CHECK.due("of the one", x.process(one, 9), 100);
        }
        // The only process has number 11: eleven others went.
        Build spawner = new Build().function(0, code().times(11, Op.SPAWN, 1).op(Op.EXIT))
            .function(0, code().op(Op.YIELD, Op.YIELD, Op.EXIT));
        SealedProcesses y = booted(spawner, 0);
        CHECK.due("all of twelve", y.run(10000), 12 + 11 * 3);
        CHECK.due("the last is over", y.process(11, 0), 4);
    }

    private static void stopsBehindTheLastStep() {
        CHECK.sentence("(run() stops behind its last step, looks at nothing more then)");
        Build module = new Build().contract(1, Op.CLIENTS, 1, 255, 0)
            .function(0, code().op(Op.CHANNEL, 0).receive("a").label("a").op(Op.EXIT));
        SealedProcesses x = booted(module, 0, 0);
        CHECK.due("run(0)", x.run(0), 0);
        CHECK.due("run(1)", x.run(1), 1);
        CHECK.due("the first is not looked at", x.process(0, 0), 1);
        CHECK.due("run(0)", x.run(0), 0);
        CHECK.due("nor by run(0)", x.process(0, 0), 1);
        CHECK.due("run(1)", x.run(1), 1);
        CHECK.due("it is, ahead of the second's step", x.process(0, 0), 2);
        CHECK.due("the second is not", x.process(1, 0), 1);
        CHECK.due("run(1)", x.run(1), 0);
        CHECK.due("now it is", x.process(1, 0), 2);
    }

    private static Build mixed() {
        return new Build().record(2, 0, 0).contract(2, Op.CLIENTS, 2, 4, 0, 0, 0, 1, Op.SERVERS, 1, 255, 0)
            .function(1, Build.types(5, 0, 0, Op.CLIENT), Build.types(255), 1, code().op(Op.LOAD, 0).label("a")
                .op(Op.BLOCK, 0).push(3).op(Op.SET, 1, Op.SEND, 0, Op.BLOCK, 0, Op.SEND, 0).push(9).op(Op.SEND, 1, Op.SPAWN, 2).receive("a"))
            .function(1, Build.types(5, 0, 0, Op.SERVER), Build.types(255), 1, code().op(Op.LOAD, 0).label("r").receive("b", "i")
                .label("b").op(Op.SEE, 1, Op.OUT, Op.FREE, Op.YIELD).jump("r").label("i").op(Op.OUT, Op.SEND, 0).jump("r"))
            .function(0, code().push(4).op(Op.ROW, Op.POP, Op.YIELD, Op.NIL, Op.POP).times(3, Op.BLOCK, 0, Op.FREE).op(Op.EXIT));
    }

    private static SealedProcesses mixedRun(int total, int... parts) {
        SealedProcesses x = new SealedProcesses();
        Build.load(x, mixed().bytes());
        Build.boot(x, 83, 70, 3, 0, 2, 1, 0, 0, 1, 1, 0, 1, 1, 1);
        int left = total;
        for (int i = 0; left > 0; i++) {
            int part = Math.min(left, parts[i % parts.length]);
            CHECK.due("a part of the run", x.run(part), part);
            left -= part;
        }
        return x;
    }

    private static void goesOnThere() {
        CHECK.sentence("and goes on there: also within a turn");
        for (int total : new int[] {7, 8, 9, 40, 77, 150}) {
            for (int[] parts : new int[][] {{1}, {2}, {3}, {7}, {8}, {9}, {5, 0, 11}}) {
                Answers.same(CHECK, total + " steps in parts of " + parts[0], () -> mixedRun(total, total), () -> mixedRun(total, parts));
            }
        }
    }

    private static void numbers() {
        CHECK.sentence("Up to n steps (0 to 10,000; less when all is STILL): how many. NONE for others, or when nothing is booted");
        Build module = new Build().function(0, forEver());
        int[] ns = {Integer.MIN_VALUE, -10000, -1, 0, 1, 2, 9999, 10000, 10001, 10002, Integer.MAX_VALUE};
        for (int n : ns) {
            SealedProcesses x = booted(module, 0, 0);
            boolean right = n >= 0 && n <= 10000;
            CHECK.due("run(" + n + ")", x.run(n), right ? n : -1);
            CHECK.due("steps", x.about(0), right ? n : 0);
            CHECK.due("steps of both", x.process(0, 9) + x.process(1, 9), right ? n : 0);
            CHECK.due("nothing is booted, " + n, new SealedProcesses().run(n), -1);
        }
        SealedProcesses x = booted(new Build().function(0, instructions(200).op(Op.EXIT)), 0);
        CHECK.due("less: one too many", x.run(202), 201);
        SealedProcesses y = booted(new Build().function(0, instructions(200).op(Op.EXIT)), 0);
        CHECK.due("just as many", y.run(201), 201);
        CHECK.due("then none", y.run(1), 0);
        SealedProcesses z = new SealedProcesses();
        Build.load(z, module.bytes());
        CHECK.due("a module, but nothing is booted", z.run(1), -1);
        Build.boot(z, 83, 70, 1, 0, 0, 0);
        CHECK.due("a boot with a fault", z.run(1), -1);
    }
}
