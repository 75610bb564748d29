/** Promise 9, edges: the most processes, channels, cells of blocks, activations, OUTs and waiting messages. */
public final class LimitEdgesTest {
    private static final Check CHECK = new Check("edges of limits");
    private static final int[] NONE = {255};

    public static void main(String[] args) {
        processes();
        lowestProcess();
        processesAreTaken();
        channels();
        lowestChannel();
        halfAChannel();
        bootedChannels();
        cells();
        cellsOfEachSize();
        lowestBlock();
        blocksOfAll();
        activations();
        activationsAnew();
        outs();
        outsOfAll();
        messages();
        CHECK.end();
    }

    private static Code code() {
        return new Code();
    }

    private static Code yields() {
        return code().label("y").op(Op.YIELD).jump("y");
    }

    private static void trapped(SealedProcesses x, String what, int p, int trap) {
        CHECK.due(what + ": how it is", x.process(p, 0), trap == 0 ? 1 : 5);
        CHECK.due(what + ": its trap", x.process(p, 1), trap);
    }

    private static void processes() {
        CHECK.sentence("At most 12 PROCESSES at once; 8 a process too many");
        for (int booted = 1; booted <= 6; booted++) {
            for (int spawns = 10 - booted; spawns <= 14 - booted; spawns++) {
                Build module = new Build().function(0, code().times(spawns, Op.SPAWN, 1).op(Op.YIELD).jump("end").label("end").op(Op.YIELD).jump("end"))
                    .function(0, yields());
                int[] functions = new int[booted];
                for (int p = 1; p < booted; p++) {
                    functions[p] = 1;
                }
                SealedProcesses x = Build.booted(module, functions);
                x.run(600);
                int all = booted + spawns;
                trapped(x, booted + " and " + spawns, 0, all > 12 ? 8 : 0);
                CHECK.due("not over", x.about(2), all > 12 ? 11 : all);
                for (int p = 1; p < 12; p++) {
                    CHECK.due("process " + p, x.process(p, 0), p < all ? 1 : -1);
                }
                CHECK.due("no process 12", x.process(12, 0), -1);
                if (all > 12) {
                    CHECK.due("its step counts", x.process(0, 9), 13 - booted);
                }
            }
        }
    }

    private static void lowestProcess() {
        CHECK.sentence("(a new one gets the lowest number that has none, or one that is over)");
        // Function 0 spawns 1 and yields; 1 is over at once; 2 goes on for ever.
        Build module = new Build().function(0, code().label("a").op(Op.YIELD, Op.SPAWN, 2).jump("a"))
            .function(0, code().op(Op.EXIT)).function(0, yields()).function(0, code().op(Op.NIL, Op.GET, 0));
        SealedProcesses x = Build.booted(module, 1, 0, 3, 2, 1);
        x.run(1 + 1 + 2 + 1 + 1);
        int[] ahead = {4, 1, 5, 1, 4};
        for (int p = 0; p < 5; p++) {
            CHECK.due("process " + p, x.process(p, 0), ahead[p]);
        }
        int[] due = {0, 2, 4, 5, 6, 7, 8, 9, 10, 11};
        for (int i = 0; i < due.length; i++) {
            int before = x.about(2);
            for (int steps = 0; steps < 100 && x.about(2) == before; steps++) {
                x.run(1);
            }
            CHECK.due("the new one's function, of number " + due[i], x.process(due[i], 3), 2);
            CHECK.due("it is new", x.process(due[i], 9), 0);
            CHECK.due("its trap", x.process(due[i], 1), 0);
            CHECK.due("how it is", x.process(due[i], 0), 1);
            if (i + 1 < due.length) {
                CHECK.due("the next number is not given yet", x.process(due[i + 1], 0), due[i + 1] < 5 ? ahead[due[i + 1]] : -1);
            }
        }
    }

    private static void processesAreTaken() {
        CHECK.sentence("SPAWN f: the parameters .. go (a process too many: with what they have)");
        Build module = new Build().record(1, 0).contract(1, Op.NOBODYS, 0)
            .function(0, code().times(11, Op.SPAWN, 1).op(Op.BLOCK, 0, Op.CHANNEL, 0, Op.SPAWN, 2, Op.EXIT))
            .function(0, yields())
            .function(3, Build.types(4, 0, 5, 0, 0, 0, 5, 0, 0, 1), NONE, 3, yields());
        SealedProcesses x = Build.booted(module, 0);
        x.run(500);
        trapped(x, "the thirteenth", 0, 8);
        CHECK.due("its block went", x.about(4), 0);
        CHECK.due("its ends are closed", x.about(3), 0);
    }

    private static void channels() {
        CHECK.sentence("12 CHANNELS; 7 a channel too many");
        for (int count = 11; count <= 14; count++) {
            // Seven in one activation, and the others in a second.
            Build module = new Build().contract(1, Op.NOBODYS, 0)
                .function(0, code().times(7, Op.CHANNEL, 0).op(Op.CALL, 1, Op.EXIT))
                .function(0, code().times(count - 7, Op.CHANNEL, 0).label("y").op(Op.YIELD).jump("y"));
            SealedProcesses x = Build.booted(module, 0);
            x.run(8);
            CHECK.due("seven", x.about(3), 7);
            x.run(100);
            trapped(x, count + " channels", 0, count > 12 ? 7 : 0);
            CHECK.due("channels", x.about(3), count > 12 ? 0 : count);
            for (int c = 0; c < 13; c++) {
                CHECK.due("channel " + c, x.channel(c, 1, 0), count <= 12 && c < count ? 0 : -1);
            }
        }
    }

    private static void lowestChannel() {
        CHECK.sentence("12 CHANNELS (lowest free number)");
        for (int first = 0; first < 4; first++) {
            for (int second = 0; second < 4; second++) {
                // Four processes with a channel each; two of them close theirs, and a fifth makes three.
                Build module = new Build().contract(1, Op.NOBODYS, 0)
                    .function(0, code().op(Op.CHANNEL, 0, Op.YIELD).label("y").op(Op.YIELD).jump("y"))
                    .function(0, code().op(Op.CHANNEL, 0, Op.YIELD, Op.CLOSE, Op.CLOSE).label("y").op(Op.YIELD).jump("y"))
                    .function(0, code().op(Op.YIELD, Op.YIELD).times(3, Op.CHANNEL, 0).label("y").op(Op.YIELD).jump("y"));
                int[] functions = {0, 0, 0, 0, 2};
                functions[first] = 1;
                functions[second] = 1;
                SealedProcesses x = Build.booted(module, functions);
                x.run(100);
                int low = Math.min(first, second);
                int high = Math.max(first, second);
                CHECK.due("the first", x.value(4, 0, 0), 2 * low);
                CHECK.due("its server's end", x.value(4, 0, 1), 2 * low + 1);
                CHECK.due("the second", x.value(4, 0, 2), low == high ? 8 : 2 * high);
                CHECK.due("the third", x.value(4, 0, 4), low == high ? 10 : 8);
                CHECK.due("channels", x.about(3), low == high ? 6 : 5);
            }
        }
    }

    /** Twelve channels; of the last one no end, the client's, the server's, or both are closed; then one more is made. */
    private static void halfAChannel() {
        CHECK.sentence("A channel without ends is free (with one it is not)");
        int[][] closes = {{}, {Op.CLOSE}, {Op.SWAP, Op.CLOSE}, {Op.CLOSE, Op.CLOSE}};
        int[] client = {0, 0, -1, -1};
        int[] server = {0, -1, 0, -1};
        for (int i = 0; i < closes.length; i++) {
            Build module = new Build().contract(1, Op.NOBODYS, 0)
                .function(0, code().times(5, Op.CHANNEL, 0).op(Op.CALL, 1, Op.EXIT))
                .function(0, code().times(7, Op.CHANNEL, 0).op(closes[i]).op(Op.YIELD, Op.CHANNEL, 0).label("y").op(Op.YIELD).jump("y"));
            SealedProcesses x = Build.booted(module, 0);
            x.run(5 + 1 + 7 + closes[i].length + 1);
            CHECK.due("channels", x.about(3), i == 3 ? 11 : 12);
            CHECK.due("the last one's client's end", x.channel(11, 0, 0), client[i]);
            CHECK.due("the last one's server's end", x.channel(11, 1, 0), server[i]);
            x.run(2);
            trapped(x, "ends closed, " + i, 0, i == 3 ? 0 : 7);
        }
    }

    private static void bootedChannels() {
        CHECK.sentence("12 CHANNELS (those that are booted with are among them)");
        for (int more = 3; more <= 6; more++) {
            int[] four = {5, 0, 0, 0, 5, 0, 0, 1, 5, 0, 0, 0, 5, 0, 0, 1};
            Build module = new Build().contract(1, Op.NOBODYS, 0)
                .function(4, four, NONE, 4, code().times(more, Op.CHANNEL, 0).label("y").op(Op.YIELD).jump("y"))
                .function(4, four, NONE, 4, yields());
            SealedProcesses x = new SealedProcesses();
            Build.load(x, module.bytes());
            Build.boot(x, 83, 70, 4, 0, 0, 1, 0, 0, 1, 1, 0, 1, 1, 2, 2, 3, 3, 0, 1, 1, 4, 4, 5, 5, 0, 1, 1, 6, 6, 7, 7);
            x.run(100);
            trapped(x, "eight and " + more, 0, more > 4 ? 7 : 0);
            CHECK.due("channels", x.about(3), more > 4 ? 6 : 8 + more);
        }
    }

    /** A process that makes so many blocks of a record, sixteen in an activation, and then goes on for ever. */
    private static Build keeper(int fields, int count) {
        Build module = new Build();
        for (int f = 1; f <= 6; f++) {
            module.record(f, new int[f]);
        }
        int made = 0;
        for (int f = 0; f < 9 && made < count; f++) {
            int here = Math.min(16, count - made);
            made += here;
            Code code = code().times(here, Op.BLOCK, fields - 1);
            module.function(0, made < count ? code.op(Op.CALL, f + 1, Op.EXIT) : code.label("y").op(Op.YIELD).jump("y"));
        }
        return module;
    }

    private static void cells() {
        CHECK.sentence("BLOCKS in 256 cells, each as many as fields and 1; 6 no room for a BLOCK");
        for (int fields = 1; fields <= 6; fields++) {
            int most = 256 / (fields + 1);
            for (int count = most - 1; count <= most + 1; count++) {
                SealedProcesses x = Build.booted(keeper(fields, count), 0);
                x.run(400);
                trapped(x, count + " blocks of " + fields, 0, count > most ? 6 : 0);
                CHECK.due("blocks", x.about(4), count > most ? 0 : count);
                CHECK.due("cells", x.about(5), count > most ? 0 : count * (fields + 1));
                CHECK.due("the last one", x.block(count - 1, 0), count > most ? -1 : fields);
                CHECK.due("none behind it", x.block(count, 0), -1);
            }
        }
    }

    /** 35 blocks of 7 cells are 245; then 11 cells are left. */
    private static void cellsOfEachSize() {
        CHECK.sentence("BLOCKS in 256 cells (the last of them, by blocks of two sizes)");
        int[][] last = {{6, 3}, {6, 4}, {5, 4}, {4, 5}, {4, 6}, {1, 6}, {2, 6}, {1, 1}};
        for (int[] two : last) {
            Build module = new Build();
            for (int f = 1; f <= 6; f++) {
                module.record(f, new int[f]);
            }
            module.function(0, code().times(16, Op.BLOCK, 5).op(Op.CALL, 1, Op.EXIT)).function(0, code().times(16, Op.BLOCK, 5).op(Op.CALL, 2, Op.EXIT))
                .function(0, code().times(3, Op.BLOCK, 5).op(Op.BLOCK, two[0] - 1, Op.BLOCK, two[1] - 1).label("y").op(Op.YIELD).jump("y"));
            SealedProcesses x = Build.booted(module, 0);
            x.run(37);
            CHECK.due("35 blocks", x.about(5), 245);
            x.run(1);
            CHECK.due("a block of " + two[0], x.about(5), 245 + two[0] + 1);
            x.run(1);
            int all = 245 + two[0] + two[1] + 2;
            trapped(x, "a block of " + two[1], 0, all > 256 ? 6 : 0);
            CHECK.due("cells", x.about(5), all > 256 ? 0 : all);
        }
    }

    private static void lowestBlock() {
        CHECK.sentence("BLOCKS .. (lowest free number)");
        for (int freed = 0; freed < 5; freed++) {
            // Five blocks in locals; one is freed, and another of another size is made, and then one more.
            Code code = code();
            for (int l = 0; l < 5; l++) {
                code.op(Op.BLOCK, 0, Op.STORE, l);
            }
            code.op(Op.LOAD, freed, Op.FREE, Op.BLOCK, 1, Op.BLOCK, 1).label("y").op(Op.YIELD).jump("y");
            SealedProcesses x = Build.booted(new Build().record(1, 0).record(3, 0, 0, 0).function(5, code), 0);
            x.run(12);
            CHECK.due("freed " + freed, x.block(freed, 0), -1);
            CHECK.due("blocks", x.about(4), 4);
            CHECK.due("cells", x.about(5), 8);
            x.run(2);
            CHECK.due("its number is given again", x.value(0, 0, 0), freed);
            CHECK.due("to a block of another size", x.block(freed, 0), 3);
            CHECK.due("the next number", x.value(0, 0, 1), 5);
            CHECK.due("blocks", x.about(4), 6);
            CHECK.due("cells", x.about(5), 16);
        }
        SealedProcesses x = Build.booted(keeper(1, 128), 0);
        x.run(400);
        CHECK.due("the highest number", x.block(127, 1), 0);
        CHECK.due("there is no higher", x.block(128, 1), -1);
    }

    private static void blocksOfAll() {
        CHECK.sentence("BLOCKS in 256 cells (of all processes, and what waits)");
        // Three processes keep 16 blocks of 5 cells each, which are 240; four of 5 wait in messages make 260.
        for (int sent = 2; sent <= 4; sent++) {
            Build module = new Build().record(4, 0, 0, 0, 0).contract(1, Op.CLIENTS, 1, 4, 0, 0)
                .function(0, code().times(16, Op.BLOCK, 0).label("y").op(Op.YIELD).jump("y"))
                .function(0, code().op(Op.CHANNEL, 0, Op.SWAP).times(sent, Op.BLOCK, 0, Op.SEND, 0).label("y").op(Op.YIELD).jump("y"));
            SealedProcesses x = Build.booted(module, 0, 0, 0, 1);
            x.run(300);
            trapped(x, sent + " sent", 3, sent > 3 ? 6 : 0);
            CHECK.due("cells", x.about(5), sent > 3 ? 240 : 240 + 5 * sent);
        }
    }

    /** Calls itself as often as its parameter says, and then goes on for ever. */
    private static Build deep() {
        return new Build().function(1, Build.types(0), NONE, 1, code().op(Op.LOAD, 0).zero("end").op(Op.LOAD, 0).push(1).op(Op.SUB, Op.CALL, 0, Op.RETURN)
            .label("end").op(Op.YIELD, Op.RETURN));
    }

    private static void activations() {
        CHECK.sentence("16 ACTIVATIONS of a process; 9 an activation too many");
        for (int calls = 0; calls <= 17; calls++) {
            SealedProcesses x = new SealedProcesses();
            Build.load(x, deep().bytes());
            CHECK.due("boot", Build.boot(x, 83, 70, 1, 0, 0, 1, 0, 0, 0, calls), 1);
            int steps = calls > 15 ? 16 * 6 : calls * 6 + 3;
            CHECK.due("run", x.run(steps), steps);
            trapped(x, calls + " calls", 0, calls > 15 ? 9 : 0);
            CHECK.due("activations", x.process(0, 5), calls > 15 ? 0 : calls + 1);
            CHECK.due("its steps", x.process(0, 9), steps);
            CHECK.due("then it returns from all of them", x.run(1000), calls > 15 ? 0 : calls + 1);
            CHECK.due("over", x.process(0, 0), calls > 15 ? 5 : 4);
        }
        SealedProcesses two = new SealedProcesses();
        Build.load(two, deep().bytes());
        CHECK.due("boot", Build.boot(two, 83, 70, 3, 0, 0, 1, 0, 0, 0, 15, 0, 0, 1, 0, 0, 0, 15, 0, 0, 1, 0, 0, 0, 16), 3);
        two.run(10000);
        int[] traps = {0, 0, 9};
        for (int p = 0; p < 3; p++) {
            CHECK.due("each process has activations of its own", two.process(p, 1), traps[p]);
        }
    }

    private static void activationsAnew() {
        CHECK.sentence("16 ACTIVATIONS (those that were returned from are none)");
        Build module = new Build().function(0, code().times(60, Op.CALL, 1).op(Op.EXIT)).function(0, code().op(Op.RETURN));
        SealedProcesses x = Build.booted(module, 0);
        CHECK.due("steps", x.run(1000), 121);
        CHECK.due("over by EXIT", x.process(0, 0), 4);
    }

    private static Code outsOf(int count) {
        return code().push(count).op(Op.STORE, 0).label("a").op(Op.LOAD, 0).zero("end").op(Op.LOAD, 0, Op.OUT, Op.LOAD, 0).push(1).op(Op.SUB, Op.STORE, 0).jump("a")
            .label("end").op(Op.YIELD).jump("end");
    }

    private static void outs() {
        CHECK.sentence("500 OUTs; 10 an OUT too many");
        for (int count = 499; count <= 501; count++) {
            SealedProcesses x = Build.booted(new Build().function(1, outsOf(count)), 0);
            x.run(10000);
            trapped(x, count + " OUTs", 0, count > 500 ? 10 : 0);
            CHECK.due("OUTs", x.about(6), Math.min(500, count));
            CHECK.due("the last one", x.output(Math.min(500, count) - 1, 1), count > 500 ? 2 : 1);
            CHECK.due("none behind it", x.output(Math.min(500, count), 1), -1);
        }
    }

    private static void outsOfAll() {
        CHECK.sentence("500 OUTs (of all processes, since boot)");
        Build module = new Build().function(1, outsOf(250)).function(1, outsOf(249)).function(1, outsOf(2));
        SealedProcesses x = Build.booted(module, 0, 1);
        x.run(10000);
        CHECK.due("OUTs", x.about(6), 499);
        trapped(x, "250", 0, 0);
        trapped(x, "249", 1, 0);
        SealedProcesses y = Build.booted(module, 0, 1, 2);
        y.run(10000);
        CHECK.due("OUTs", y.about(6), 500);
        CHECK.due("traps", y.process(0, 1) + y.process(1, 1) + y.process(2, 1), 10);
        Build.boot(y, 83, 70, 1, 0, 0, 1);
        y.run(10000);
        CHECK.due("OUTs since the new boot", y.about(6), 250);
        CHECK.due("the first", y.output(0, 1), 250);
    }

    private static void messages() {
        CHECK.sentence("a SEND when four wait for the other end already");
        for (int ahead = 0; ahead <= 4; ahead++) {
            for (int taken = 0; taken <= ahead; taken++) {
                // So many were sent, and some received; of the next five only so many are sent as make four.
                Build module = new Build().contract(1, Op.CLIENTS, 1, 255, 0)
                    .function(0, code().op(Op.CHANNEL, 0, Op.SWAP).times(ahead, Op.SEND, 0).op(Op.SWAP).op(receives(ahead, taken)).op(Op.SWAP)
                        .times(5, Op.SEND, 0).op(Op.YIELD, Op.EXIT));
                SealedProcesses x = Build.booted(module, 0);
                int more = Math.min(5, 4 - ahead + taken);
                CHECK.due("steps", x.run(1000), 2 + ahead + 1 + taken + 1 + more);
                CHECK.due("four wait", x.channel(0, 1, 2), 4);
                CHECK.due("none waits for the client's", x.channel(0, 0, 2), 0);
                CHECK.due("it waits", x.process(0, 0), 3);
            }
        }
    }

    /** So many RECEIVEs, each going on behind itself; the code ahead of them has so many SENDs. */
    private static int[] receives(int sends, int count) {
        int[] made = {};
        for (int i = 0; i < count; i++) {
            int place = 2 + 1 + 2 * sends + 1 + 3 * i;
            made = Build.joined(made, Op.RECEIVE, 1, place + 3);
        }
        return made;
    }
}
