/** Promise 9, edges: when a process is over, when ends are closed, and what goes with them. */
public final class CloseEdgesTest {
    private static final Check CHECK = new Check("edges of closing");
    private static final int[] NONE = {255};

    public static void main(String[] args) {
        overByReturn();
        blocksGo();
        endsAreClosed();
        inOrder();
        inOrderInEach();
        owners();
        toTheClosed();
        toTheClosedWithEnds();
        messagesGo();
        messagesOfEachSort();
        howeverDeep();
        free();
        waitsForEver();
        whatIsLeft();
        itsOwnOtherEnd();
        inARing();
        closedLikewise();
        givenAgain();
        CHECK.end();
    }

    private static Code code() {
        return new Code();
    }

    private static Code yields(Code code) {
        return code.label("y").op(Op.YIELD).jump("y");
    }

    /**
     * Record 0: one INT. Contract 0: the client sends blocks, as many as it likes, or is done. Contract 1: it sends
     * client's ends of contract 0, 2: server's ends of contract 0; 3: INTs. State 1 of each is nobody's.
     */
    private static Build build() {
        return new Build().record(1, 0)
            .contract(2, Op.CLIENTS, 2, 4, 0, 0, 255, 1, Op.NOBODYS, 0)
            .contract(2, Op.CLIENTS, 2, 5, 0, 0, Op.CLIENT, 0, 255, 1, Op.NOBODYS, 0)
            .contract(2, Op.CLIENTS, 2, 5, 0, 0, Op.SERVER, 0, 255, 1, Op.NOBODYS, 0)
            .contract(2, Op.CLIENTS, 2, 0, 0, 255, 1, Op.NOBODYS, 0);
    }

    private static int[] end(int contract, int side) {
        return Build.types(5, contract, 0, side);
    }

    private static SealedProcesses booted(Build module, int... manifest) {
        SealedProcesses x = new SealedProcesses();
        CHECK.due("load", Build.load(x, module.bytes()), 0);
        CHECK.due("boot", Build.boot(x, Build.joined(new int[] {83, 70}, manifest)), manifest[0]);
        return x;
    }

    private static void counts(SealedProcesses x, String what, int channels, int blocks) {
        CHECK.due(what + ": channels", x.about(3), channels);
        CHECK.due(what + ": blocks", x.about(4), blocks);
        CHECK.due(what + ": cells", x.about(5), 2 * blocks);
    }

    private static void overByReturn() {
        CHECK.sentence("A process is OVER by RETURN from its first function, EXIT, or a trap");
        Build module = build().function(0, code().op(Op.CALL, 1, Op.CALL, 1, Op.RETURN)).function(0, code().op(Op.YIELD, Op.RETURN))
            .function(0, code().op(Op.CALL, 3, Op.RETURN)).function(0, code().op(Op.EXIT))
            .function(0, code().op(Op.CALL, 5, Op.RETURN)).function(0, code().op(Op.NIL, Op.LENGTH));
        SealedProcesses x = Build.booted(module, 0, 2, 4);
        int[] due = {1, 1, 1, 1, 1, 1, 4};
        for (int i = 0; i < due.length; i++) {
            for (int more = 0; more < 20 && x.process(0, 9) == i; more++) {
                x.run(1);
            }
            CHECK.due("behind step " + (i + 1), x.process(0, 0), due[i]);
        }
        CHECK.due("RETURN: steps", x.process(0, 9), 7);
        CHECK.due("RETURN: trap", x.process(0, 1), 0);
        CHECK.due("EXIT from the second activation", x.process(1, 0), 4);
        CHECK.due("EXIT: steps", x.process(1, 9), 2);
        CHECK.due("EXIT: trap", x.process(1, 1), 0);
        CHECK.due("a trap in the second activation", x.process(2, 0), 5);
        CHECK.due("a trap: steps", x.process(2, 9), 3);
        CHECK.due("a trap: which", x.process(2, 1), 1);
        CHECK.due("all steps", x.about(0), 12);
    }

    private static void blocksGo() {
        CHECK.sentence("Its blocks go then (those of its stack and locals, of all activations; not those of others)");
        int[][] ends = {{Op.EXIT}, {Op.NIL, Op.LENGTH}};
        for (int[] end : ends) {
            Build module = build().function(10, code().op(Op.BLOCK, 0, Op.BLOCK, 0, Op.STORE, 0, Op.BLOCK, 0, Op.STORE, 9, Op.CALL, 1, Op.EXIT))
                .function(1, code().op(Op.BLOCK, 0, Op.BLOCK, 0, Op.STORE, 0, Op.YIELD).op(end))
                .function(0, yields(code().op(Op.BLOCK, 0, Op.BLOCK, 0)));
            SealedProcesses x = Build.booted(module, 2, 0, 2);
            x.run(3 + 8 + 3);
            counts(x, "ahead", 0, 9);
            x.run(2 + 2 + 2 + 2 + 2);
            CHECK.due("over", x.about(2), 2);
            counts(x, "then", 0, 4);
            for (int b = 0; b < 9; b++) {
                int owner = x.block(b, 1);
                CHECK.due("block " + b, owner == -1 || owner == 0 || owner == 2, true);
            }
        }
        Build returns = build().function(1, Build.types(4, 0), NONE, 1, code().op(Op.LOAD, 0, Op.FREE, Op.RETURN))
            .function(0, code().op(Op.BLOCK, 0, Op.SPAWN, 0, Op.BLOCK, 0, Op.YIELD, Op.EXIT));
        SealedProcesses x = Build.booted(returns, 1);
        x.run(4);
        counts(x, "one is handed over", 0, 2);
        CHECK.due("to the child", x.block(0, 1), 1);
        x.run(3 + 1);
        counts(x, "both are over", 0, 0);
    }

    private static void endsAreClosed() {
        CHECK.sentence("A process is OVER ..: its ends are CLOSED");
        int[][] ends = {{Op.EXIT}, {Op.NIL, Op.LENGTH}};
        for (int[] end : ends) {
            Build module = build().function(10, code().op(Op.CHANNEL, 0, Op.CHANNEL, 0, Op.STORE, 0, Op.STORE, 9, Op.CALL, 1, Op.EXIT))
                .function(1, code().op(Op.CHANNEL, 0, Op.SWAP, Op.SPAWN, 2, Op.STORE, 0, Op.YIELD).op(end))
                .function(1, end(0, Op.CLIENT), NONE, 1, yields(code()));
            SealedProcesses x = Build.booted(module, 0);
            x.run(8 + 1);
            CHECK.due("channels", x.about(3), 3);
            x.run(8);
            CHECK.due("over", x.about(2), 1);
            CHECK.due("the child's channel stays", x.about(3), 1);
            CHECK.due("the child's end", x.channel(2, 0, 1), 1);
            CHECK.due("its other end is closed", x.channel(2, 1, 1), -1);
            for (int e = 0; e < 4; e++) {
                CHECK.due("end " + e, x.channel(e / 2, e % 2, 0), -1);
            }
        }
    }

    private static void inOrder() {
        CHECK.sentence("a message waits for the other end, in order, and has its load");
        for (int ahead = 0; ahead <= 3; ahead++) {
            // So many go through the channel first; then four more, which wait together.
            Code code = code().op(Op.CHANNEL, 3, Op.STORE, 0);
            for (int i = 0; i < ahead; i++) {
                code.push(90 + i).op(Op.SEND, 0, Op.LOAD, 0).receive("a" + i, "b" + i).label("b" + i).op(Op.EXIT).label("a" + i).op(Op.OUT, Op.STORE, 0);
            }
            for (int i = 0; i < 4; i++) {
                code.push(10 * i).op(Op.SEND, 0);
            }
            for (int i = 0; i < 4; i++) {
                code.op(Op.LOAD, 0).receive("c" + i, "d" + i).label("d" + i).op(Op.EXIT).label("c" + i).op(Op.OUT, Op.STORE, 0);
            }
            SealedProcesses x = Build.booted(build().function(1, code.op(Op.EXIT)), 0);
            x.run(500);
            CHECK.due("OUTs", x.about(6), ahead + 4);
            for (int i = 0; i < ahead + 4; i++) {
                CHECK.due("OUT " + i, x.output(i, 1), i < ahead ? 90 + i : 10 * (i - ahead));
            }
        }
    }

    /** The same in each channel, to either side: four wait, and come in their order; and so for the four that come then. */
    private static void inOrderInEach() {
        CHECK.sentence("a message waits for the other end, in order (of each channel, for each side)");
        for (int turn = Op.CLIENTS; turn <= Op.SERVERS; turn++) {
            for (int c = 0; c < 12; c++) {
                Code code = code().op(Op.CHANNEL, 0).op(turn == Op.CLIENTS ? new int[] {Op.STORE, 0} : new int[] {Op.SWAP, Op.STORE, 0});
                for (int round = 0; round < 2; round++) {
                    for (int i = 0; i < 4; i++) {
                        code.push(4 * round + i).op(Op.SEND, 0);
                    }
                    code.op(Op.LOAD, 0);
                    for (int i = 0; i < 4; i++) {
                        code.receive("r" + round + i).label("r" + round + i).op(Op.OUT);
                    }
                    code.op(Op.STORE, 0);
                }
                Build module = new Build().contract(1, turn, 1, 0, 0)
                    .function(0, code().times(Math.min(c, 6), Op.CHANNEL, 0).op(Op.CALL, c > 6 ? 1 : 2, Op.EXIT))
                    .function(0, code().times(Math.max(0, c - 6), Op.CHANNEL, 0).op(Op.CALL, 2, Op.EXIT))
                    .function(1, yields(code));
                SealedProcesses x = Build.booted(module, 0);
                x.run(200);
                CHECK.due("channels", x.about(3), c + 1);
                CHECK.due("OUTs", x.about(6), 8);
                for (int i = 0; i < 8; i++) {
                    CHECK.due("OUT " + i + " of channel " + c, x.output(i, 1), i);
                }
            }
        }
    }

    private static void owners() {
        CHECK.sentence("that block's, that end's OWNER is the waiting message's end (100 and twice the channel and the side that it waits for)");
        // Channel 0 to 11: the block waits for the server's end of each.
        for (int c = 0; c < 12; c++) {
            Build module = build().function(0, code().times(Math.min(c, 6), Op.CHANNEL, 3).op(c > 6 ? new int[] {Op.CALL, 1} : new int[] {Op.CALL, 2}).op(Op.EXIT))
                .function(0, code().times(Math.max(0, c - 6), Op.CHANNEL, 3).op(Op.CALL, 2, Op.EXIT))
                .function(0, yields(code().op(Op.CHANNEL, 0, Op.SWAP, Op.BLOCK, 0, Op.SEND, 0, Op.YIELD, Op.BLOCK, 0)));
            SealedProcesses x = Build.booted(module, 0);
            x.run(40);
            CHECK.due("channels", x.about(3), c + 1);
            CHECK.due("it waits for the server's end of " + c, x.block(0, 1), 100 + 2 * c + 1);
            CHECK.due("the other one's owner", x.block(1, 1), 0);
        }
        // The server sends: then it waits for the client's end; and an end that is sent is owned so, too.
        Build answers = new Build().record(1, 0).contract(2, Op.SERVERS, 2, 4, 0, 0, 5, 1, 0, Op.SERVER, 0, Op.NOBODYS, 0).contract(1, Op.NOBODYS, 0)
            .function(1, yields(code().op(Op.CHANNEL, 0, Op.BLOCK, 0, Op.SEND, 0, Op.CHANNEL, 1, Op.SWAP, Op.STORE, 0, Op.SEND, 1)));
        SealedProcesses x = Build.booted(answers, 0);
        x.run(8);
        CHECK.due("a block for the client's end", x.block(0, 1), 100);
        CHECK.due("an end for the client's end", x.channel(1, 1, 1), 100);
        CHECK.due("its other end", x.channel(1, 0, 1), 0);
        CHECK.due("two wait", x.channel(0, 0, 2), 2);
        CHECK.due("none waits", x.channel(0, 1, 2), 0);
    }

    private static void toTheClosed() {
        CHECK.sentence("When the other end is closed, a message goes at once, with what it has");
        for (int sends = 0; sends <= 6; sends++) {
            Code client = code().op(Op.YIELD, Op.LOAD, 0);
            for (int i = 0; i < sends; i++) {
                client.op(Op.BLOCK, 0, Op.SEND, 0);
            }
            Build module = build().function(1, end(0, Op.CLIENT), NONE, 1, yields(client.op(Op.BLOCK, 0)))
                .function(1, end(0, Op.SERVER), NONE, 1, code().op(Op.EXIT));
            SealedProcesses x = booted(module, 2, 0, 0, 1, 0, 0, 1, 1, 0);
            x.run(2);
            CHECK.due("the server's end is closed", x.channel(0, 1, 0), -1);
            for (int i = 0; i < 2 * sends + 2; i++) {
                x.run(1);
                counts(x, "behind " + i, 1, i % 2 == 1 ? 1 : 0);
                CHECK.due("it goes on", x.process(0, 0), 1);
            }
            CHECK.due("the client's state", x.channel(0, 0, 0), 0);
            CHECK.due("the client's owner", x.channel(0, 0, 1), 0);
            CHECK.due("none waits for it", x.channel(0, 0, 2), 0);
        }
        // The state goes on, though nobody is there.
        Build done = build().function(1, end(3, Op.CLIENT), NONE, 1, yields(code().op(Op.YIELD, Op.LOAD, 0).push(1).op(Op.SEND, 0, Op.SEND, 1, Op.YIELD, Op.CLOSE)))
            .function(1, end(3, Op.SERVER), NONE, 1, code().op(Op.EXIT));
        SealedProcesses x = booted(done, 2, 0, 0, 1, 0, 0, 1, 1, 0);
        x.run(1 + 1 + 5);
        CHECK.due("the state then", x.channel(0, 0, 0), 1);
        CHECK.due("channels", x.about(3), 1);
        x.run(1);
        CHECK.due("both ends are closed", x.about(3), 0);
    }

    /** The end that is sent to nobody is closed, and so goes what waits for it. */
    private static void toTheClosedWithEnds() {
        CHECK.sentence("a message goes at once, with what it has (ends are closed likewise)");
        for (int blocks = 0; blocks <= 4; blocks++) {
            Code client = code().op(Op.YIELD, Op.CHANNEL, 0, Op.STORE, 1);
            for (int i = 0; i < blocks; i++) {
                client.op(Op.BLOCK, 0, Op.SEND, 0);
            }
            Build module = build().function(1, end(2, Op.CLIENT), NONE, 2, yields(client.op(Op.LOAD, 0, Op.LOAD, 1, Op.SEND, 0)))
                .function(1, end(2, Op.SERVER), NONE, 1, code().op(Op.EXIT));
            SealedProcesses x = booted(module, 2, 0, 0, 1, 0, 0, 1, 1, 0);
            x.run(2 + 2 + 2 * blocks + 2);
            counts(x, "ahead", 2, blocks);
            CHECK.due("they wait for the server's end", x.channel(1, 1, 2), blocks);
            x.run(1);
            counts(x, "sent to nobody", 2, 0);
            CHECK.due("the end is closed", x.channel(1, 1, 0), -1);
            CHECK.due("its other end is not", x.channel(1, 0, 1), 0);
            CHECK.due("its number of blocks", x.block(0, 0), -1);
        }
    }

    private static void messagesGo() {
        CHECK.sentence("An end that is closed goes, and all messages that wait for it, with what they have: blocks go, ends are closed likewise");
        for (int count = 0; count <= 4; count++) {
            // So many blocks wait for the server's end; then that one is closed, or the client's.
            for (int side = 0; side < 2; side++) {
                Build module = build().function(1, end(0, Op.CLIENT), NONE, 1, sends(count, side == 0))
                    .function(1, end(0, Op.SERVER), NONE, 1, side == 0 ? yields(code()) : code().op(Op.YIELD, Op.YIELD, Op.EXIT));
                SealedProcesses x = booted(module, 2, 0, 0, 1, 0, 0, 1, 1, 0);
                x.run(40);
                CHECK.due("one is over", x.about(2), 1);
                counts(x, count + " waited for the end that side " + side + " closed", 1, side == 0 ? count : 0);
                CHECK.due("they wait still", x.channel(0, 1, 2), side == 0 ? count : -1);
                CHECK.due("the other end", x.channel(0, 0, 2), side == 0 ? -1 : 0);
            }
        }
    }

    private static Code sends(int count, boolean ends) {
        Code code = code().op(Op.LOAD, 0);
        for (int i = 0; i < count; i++) {
            code.op(Op.BLOCK, 0, Op.SEND, 0);
        }
        return ends ? code.op(Op.EXIT) : yields(code);
    }

    /** Four messages wait, of which one or more have an end or a block, at each place. */
    private static void messagesOfEachSort() {
        CHECK.sentence("all messages that wait for it, with what they have (each of the four, of whatever sort)");
        for (int sorts = 0; sorts < 81; sorts++) {
            // For each of four messages: 0 bare, 1 a block, 2 a client's end of contract 1.
            Code code = code().op(Op.LOAD, 0);
            int blocks = 0;
            int ends = 0;
            for (int i = 0, rest = sorts; i < 4; i++, rest /= 3) {
                int sort = rest % 3;
                if (sort == 1) {
                    code.op(Op.BLOCK, 0);
                    blocks++;
                } else if (sort == 2) {
                    code.op(Op.CHANNEL, 1, Op.STORE, 1 + ends);
                    ends++;
                }
                code.op(Op.SEND, sort);
            }
            Build module = new Build().record(1, 0).contract(1, Op.CLIENTS, 3, 255, 0, 4, 0, 0, 5, 1, 0, Op.CLIENT, 0).contract(1, Op.NOBODYS, 0)
                .function(1, end(0, Op.CLIENT), NONE, 5, yields(code.op(Op.YIELD, Op.BLOCK, 0)))
                .function(1, end(0, Op.SERVER), NONE, 1, code().times(7, Op.YIELD).op(Op.EXIT));
            SealedProcesses x = booted(module, 2, 0, 0, 1, 0, 0, 1, 1, 0);
            x.run(5 + blocks + 2 * ends + 1 + 6);
            counts(x, "sorts " + sorts, 1 + ends, blocks + 1);
            for (int i = 0; i < ends; i++) {
                CHECK.due("an end that waits", x.channel(1 + i, 0, 1), 101);
            }
            x.run(30);
            CHECK.due("the server is over", x.process(1, 0), 4);
            counts(x, "sorts " + sorts + ", closed", 1 + ends, 1);
            for (int i = 0; i < ends; i++) {
                CHECK.due("an end that waited", x.channel(1 + i, 0, 1), -1);
                CHECK.due("its other end", x.channel(1 + i, 1, 1), 0);
            }
        }
    }

    /** Contract c's messages have server's ends of contract c + 1, so that ends wait in messages for ends, four deep. */
    private static void howeverDeep() {
        CHECK.sentence("blocks go, ends are closed likewise (however deep, and however many)");
        Build module = new Build().record(1, 0)
            .contract(1, Op.CLIENTS, 1, 5, 1, 0, Op.SERVER, 0).contract(1, Op.CLIENTS, 1, 5, 2, 0, Op.SERVER, 0)
            .contract(1, Op.CLIENTS, 1, 5, 3, 0, Op.SERVER, 0).contract(1, Op.CLIENTS, 1, 4, 0, 0);
        // Channels 1 to 3 in locals 1 to 3: each server's end goes through the channel ahead.
        Code code = code().op(Op.CHANNEL, 1, Op.STORE, 5, Op.STORE, 1, Op.CHANNEL, 2, Op.STORE, 6, Op.STORE, 2, Op.CHANNEL, 3, Op.STORE, 7)
            .times(4, Op.BLOCK, 0, Op.SEND, 0).op(Op.STORE, 3)
            .op(Op.LOAD, 2, Op.LOAD, 7, Op.SEND, 0, Op.STORE, 2).op(Op.LOAD, 1, Op.LOAD, 6, Op.SEND, 0, Op.STORE, 1).op(Op.LOAD, 0, Op.LOAD, 5, Op.SEND, 0);
        module.function(1, end(0, Op.CLIENT), NONE, 8, yields(code)).function(1, end(0, Op.SERVER), NONE, 1, code().times(60, Op.YIELD).op(Op.EXIT));
        SealedProcesses x = booted(module, 2, 0, 0, 1, 0, 0, 1, 1, 0);
        x.run(45);
        counts(x, "all are sent", 4, 4);
        int[] owners = {1, 101, 103, 105};
        for (int c = 0; c < 4; c++) {
            CHECK.due("the owner of the server's end of " + c, x.channel(c, 1, 1), owners[c]);
        }
        CHECK.due("the owner of a block", x.block(0, 1), 107);
        x.run(300);
        CHECK.due("the second is over", x.process(1, 0), 4);
        counts(x, "all went", 4, 0);
        for (int c = 0; c < 4; c++) {
            CHECK.due("the server's end of " + c, x.channel(c, 1, 0), -1);
            CHECK.due("the client's end of " + c, x.channel(c, 0, 1), 0);
        }
    }

    private static void free() {
        CHECK.sentence("A channel without ends is free");
        Build module = new Build().contract(1, Op.NOBODYS, 0).function(0, code().op(Op.CHANNEL, 0, Op.YIELD, Op.CLOSE, Op.YIELD, Op.CLOSE, Op.YIELD, Op.EXIT));
        SealedProcesses x = Build.booted(module, 0);
        int[] channels = {1, 1, 1, 1, 0, 0, 0};
        for (int i = 0; i < channels.length; i++) {
            x.run(1);
            CHECK.due("channels behind step " + (i + 1), x.about(3), channels[i]);
        }
    }

    private static void waitsForEver() {
        CHECK.sentence("To an end whose other one is closed nothing comes any more: a RECEIVE there WAITS for ever, when nothing waits");
        for (int left = 0; left <= 3; left++) {
            Code client = code().op(Op.LOAD, 0);
            for (int i = 0; i < left; i++) {
                client.push(i).op(Op.SEND, 0);
            }
            Build module = build().function(1, end(3, Op.CLIENT), NONE, 1, client.op(Op.EXIT))
                .function(1, end(3, Op.SERVER), NONE, 1, code().op(Op.LOAD, 0).label("r").receive("a", "b").label("a").op(Op.OUT).jump("r").label("b").op(Op.CLOSE, Op.EXIT));
            SealedProcesses x = booted(module, 2, 0, 0, 1, 0, 0, 1, 1, 0);
            CHECK.due("steps", x.run(10000), 2 + 2 * left + 1 + 3 * left);
            CHECK.due("what came is told", x.about(6), left);
            CHECK.due("it waits", x.process(1, 0), 2);
            CHECK.due("still", x.about(1), 1);
            CHECK.due("not over", x.about(2), 1);
            CHECK.due("the channel is there", x.about(3), 1);
            CHECK.due("run again", x.run(10000), 0);
        }
    }

    /** Messages that wait are still there when their sender is over, and blocks among them are nobody's but theirs. */
    private static void whatIsLeft() {
        CHECK.sentence("all messages that wait for it [go] (not those that it sent)");
        Build module = build().function(1, end(0, Op.CLIENT), NONE, 1, code().op(Op.LOAD, 0, Op.BLOCK, 0).push(8).op(Op.SET, 0, Op.SEND, 0, Op.BLOCK, 0, Op.SEND, 0, Op.SEND, 1, Op.CLOSE, Op.RETURN))
            .function(1, end(0, Op.SERVER), NONE, 1, code().op(Op.YIELD, Op.YIELD, Op.LOAD, 0).label("r").receive("a", "b")
                .label("a").op(Op.SEE, 0, Op.OUT, Op.FREE).jump("r").label("b").op(Op.CLOSE, Op.RETURN));
        SealedProcesses x = booted(module, 2, 0, 0, 1, 0, 0, 1, 1, 0);
        x.run(8 + 1 + 2);
        CHECK.due("the sender is over", x.process(0, 0), 4);
        counts(x, "three wait", 1, 2);
        CHECK.due("three wait", x.channel(0, 1, 2), 3);
        CHECK.due("the first one's owner", x.block(0, 1), 101);
        x.run(100);
        CHECK.due("the first", x.output(0, 1), 8);
        CHECK.due("the second", x.output(1, 1), 0);
        CHECK.due("the receiver is over", x.process(1, 0), 4);
        counts(x, "all are gone", 0, 0);
    }

    /** A server's end that waits for itself is nobody's, and stays. */
    private static void itsOwnOtherEnd() {
        CHECK.sentence("that end's OWNER is the waiting message's end (its own, when it was sent to itself)");
        Build module = new Build().contract(1, Op.CLIENTS, 1, 5, 0, 0, Op.SERVER, 0).function(0, code().op(Op.CHANNEL, 0, Op.SEND, 0, Op.YIELD, Op.EXIT));
        SealedProcesses x = Build.booted(module, 0);
        x.run(3);
        CHECK.due("its owner", x.channel(0, 1, 1), 101);
        CHECK.due("it waits for itself", x.channel(0, 1, 2), 1);
        CHECK.due("the client's owner", x.channel(0, 0, 1), 0);
        x.run(1);
        CHECK.due("the process is over", x.about(2), 0);
        CHECK.due("the client's end is closed", x.channel(0, 0, 1), -1);
        CHECK.due("the server's is nobody's to close", x.channel(0, 1, 1), 101);
        CHECK.due("the channel is not free", x.about(3), 1);
    }

    private static void inARing() {
        CHECK.sentence("An end that is closed goes (in a ring of two, that wait for each other, none is closed)");
        Build module = new Build().contract(1, Op.CLIENTS, 1, 5, 0, 0, Op.SERVER, 0)
            .function(2, code().op(Op.CHANNEL, 0, Op.STORE, 0, Op.CHANNEL, 0, Op.STORE, 1, Op.LOAD, 0, Op.SEND, 0, Op.SWAP, Op.LOAD, 1, Op.SEND, 0, Op.YIELD, Op.EXIT));
        SealedProcesses x = Build.booted(module, 0);
        x.run(10);
        CHECK.due("the first's owner", x.channel(0, 1, 1), 103);
        CHECK.due("the second's owner", x.channel(1, 1, 1), 101);
        x.run(10);
        CHECK.due("the process is over", x.about(2), 0);
        CHECK.due("channels", x.about(3), 2);
        CHECK.due("the first's client", x.channel(0, 0, 0), -1);
        CHECK.due("the second's client", x.channel(1, 0, 0), -1);
        CHECK.due("the first's owner", x.channel(0, 1, 1), 103);
    }

    /** CLOSE by the instruction, of the server's end for which a done and blocks wait. */
    private static void closedLikewise() {
        CHECK.sentence("39 CLOSE: an end .. goes (with what waits for it)");
        Build module = new Build().record(1, 0)
            .contract(2, Op.CLIENTS, 1, 255, 1, Op.NOBODYS, 0).contract(3, Op.SERVERS, 1, 255, 1, Op.CLIENTS, 1, 4, 0, 2, Op.NOBODYS, 0)
            .function(0, code().op(Op.CHANNEL, 0, Op.SWAP, Op.SEND, 0, Op.CLOSE).receive("a").label("a").op(Op.CLOSE, Op.CHANNEL, 0, Op.YIELD, Op.EXIT));
        SealedProcesses x = Build.booted(module, 0);
        x.run(4);
        CHECK.due("the client's end is closed", x.channel(0, 0, 0), -1);
        CHECK.due("the server's has a message", x.channel(0, 1, 2), 1);
        x.run(2);
        CHECK.due("both are closed", x.about(3), 0);
        x.run(1);
        CHECK.due("the next channel has the number again", x.value(0, 0, 1), 1);
        CHECK.due("and nothing waits", x.channel(0, 1, 2), 0);
        CHECK.due("in state 0", x.channel(0, 0, 0), 0);
    }

    /** A number that was closed, and is given again, is closed no more: what is sent there waits. */
    private static void givenAgain() {
        CHECK.sentence("A channel without ends is free (and what has its number then is another)");
        for (int rounds = 1; rounds <= 30; rounds++) {
            Code code = code().push(rounds).op(Op.STORE, 0).label("a").op(Op.LOAD, 0).zero("b").op(Op.CHANNEL, 1, Op.CLOSE, Op.CLOSE)
                .op(Op.LOAD, 0).push(1).op(Op.SUB, Op.STORE, 0).jump("a").label("b").op(Op.CHANNEL, 0, Op.SWAP, Op.BLOCK, 0, Op.SEND, 0, Op.YIELD, Op.BLOCK, 0, Op.SEND, 0);
            SealedProcesses x = Build.booted(new Build().record(1, 0).contract(1, Op.CLIENTS, 1, 4, 0, 0).contract(1, Op.NOBODYS, 0).function(1, yields(code)), 0);
            x.run(2 + rounds * 10 + 2 + 8);
            CHECK.due("messages that wait", x.channel(0, 1, 2), 2);
            CHECK.due("the first one's owner", x.block(0, 1), 101);
            counts(x, "behind " + rounds, 1, 2);
        }
    }
}
