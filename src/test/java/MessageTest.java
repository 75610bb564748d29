/** Promise 9, the channels: what is handed over, what waits, and what goes when ends are closed. */
public final class MessageTest {
    private static final Check CHECK = new Check("promise 9, channels");

    /**
     * Record 0 has two INTs. Contract 0: the client sends blocks, as many as it likes, or is done.
     * Contract 1: the client sends client's ends of contract 0, as many as it likes, or is done.
     * Contract 2: the client asks with an INT, the server answers with one, and so on.
     */
    private static Build build() {
        return new Build().record(2, 0, 0)
            .contract(2, Op.CLIENTS, 2, 4, 0, 0, 255, 1, Op.NOBODYS, 0)
            .contract(2, Op.CLIENTS, 2, 5, 0, 0, Op.CLIENT, 0, 255, 1, Op.NOBODYS, 0)
            .contract(2, Op.CLIENTS, 1, 0, 1, Op.SERVERS, 1, 0, 0);
    }

    private static final int[] NO = {255};

    private static int[] end(int contract, int side) {
        return Build.types(5, contract, 0, side);
    }

    private static void dues(String what, int got, int want) {
        CHECK.due(what, got, want);
    }

    public static void main(String[] args) {
        asks();
        blocks();
        inOrder();
        full();
        toTheClosed();
        closedWithMessages();
        over();
        forEver();
        acrossModules();
        CHECK.end();
    }

    private static SealedProcesses booted(Build module, int... manifest) {
        SealedProcesses x = new SealedProcesses();
        dues("load", Build.load(x, module.bytes()), 0);
        dues("boot", Build.boot(x, Build.joined(new int[] {83, 70}, manifest)), manifest[0]);
        return x;
    }

    /** The server answers each number with its double. */
    private static void asks() {
        SealedProcesses x = booted(build()
            .function(1, end(2, Op.CLIENT), NO, 2, new Code().push(1).op(Op.STORE, 1).label("a")
                .op(Op.LOAD, 0, Op.LOAD, 1, Op.SEND, 0).receive("b").label("b")
                .op(Op.DUP, Op.OUT).op(Op.STORE, 1, Op.STORE, 0).jump("a"))
            .function(1, end(2, Op.SERVER), NO, 1, new Code().op(Op.LOAD, 0).label("a").receive("b").label("b")
                .op(Op.DUP, Op.ADD, Op.SEND, 0).jump("a")), 2, 0, 0, 1, 3, 0, 1, 1, 3);
        x.run(500);
        for (int i = 0; i < 20; i++) {
            dues("OUT " + i, x.output(i, 1), 2 << i);
            dues("of process", x.output(i, 0), 0);
        }
    }

    /** Four messages wait, of different kinds, and come in their order with what they have. */
    private static void inOrder() {
        SealedProcesses x = booted(new Build().record(1, 0).contract(1, Op.CLIENTS, 3, 0, 0, 255, 0, 4, 0, 0)
            .function(1, end(0, Op.CLIENT), NO, 1, new Code().op(Op.LOAD, 0, Op.SEND, 1).push(5).op(Op.SEND, 0)
                .op(Op.BLOCK, 0).push(8).op(Op.SET, 0, Op.SEND, 2).push(9).op(Op.SEND, 0).label("a").op(Op.YIELD).jump("a"))
            .function(1, end(0, Op.SERVER), NO, 1, new Code().times(6, Op.YIELD).op(Op.LOAD, 0).label("r").receive("i", "n", "b")
                .label("i").op(Op.OUT).jump("r").label("n").push(77).op(Op.OUT).jump("r")
                .label("b").op(Op.SEE, 0, Op.OUT, Op.FREE).jump("r")), 2, 0, 0, 1, 0, 0, 1, 1, 0);
        x.run(20);
        dues("four wait", x.channel(0, 1, 2), 4);
        x.run(400);
        int[] due = {77, 5, 8, 9};
        dues("OUTs", x.about(6), 4);
        for (int i = 0; i < 4; i++) {
            dues("message " + i, x.output(i, 1), due[i]);
        }
        dues("no block is left", x.about(4), 0);
    }

    private static Code sender(int blocks) {
        Code code = new Code().op(Op.LOAD, 0);
        for (int i = 0; i < blocks; i++) {
            code.op(Op.BLOCK, 0).push(10 + i).op(Op.SET, 1, Op.SEND, 0);
        }
        return code;
    }

    private static void blocks() {
        SealedProcesses x = booted(build()
            .function(1, end(0, Op.CLIENT), NO, 1, sender(2).label("a").op(Op.YIELD).jump("a"))
            .function(1, end(0, Op.SERVER), NO, 1, new Code().times(8, Op.YIELD).op(Op.LOAD, 0).receive("a", "b")
                .label("b").op(Op.EXIT).label("a").op(Op.SEE, 1, Op.OUT).label("c").op(Op.YIELD).jump("c")),
            2, 0, 0, 1, 0, 0, 1, 1, 0);
        x.run(3);
        dues("the sender owns it", x.block(0, 1), 0);
        x.run(2);
        dues("it waits for the server's end", x.block(0, 1), 101);
        dues("one waits", x.channel(0, 1, 2), 1);
        dues("the client's state", x.channel(0, 0, 0), 0);
        x.run(60);
        dues("the receiver owns it", x.block(0, 1), 1);
        dues("the second waits", x.block(1, 1), 101);
        dues("in order", x.output(0, 1), 10);
        dues("one waits", x.channel(0, 1, 2), 1);
        dues("blocks", x.about(4), 2);
        dues("cells", x.about(5), 6);
        dues("on the receiver's stack", x.value(1, 0, 1), 0);
    }

    /** The fifth message waits to be sent, till one of the four is received. */
    private static void full() {
        SealedProcesses y = booted(build().function(2, Build.joined(end(0, Op.CLIENT), end(0, Op.SERVER)), NO, 2,
            sender(5).op(Op.EXIT)), 1, 0, 0, 1, 0, 0);
        dues("till four wait", y.run(1000), 1 + 4 * 4 + 3);
        dues("it waits to send", y.process(0, 0), 3);
        dues("four wait", y.channel(0, 1, 2), 4);
        dues("its next instruction is SEND", y.process(0, 4), 2 + 4 * 11 + 9);
        dues("the fifth is its own", y.block(4, 1), 0);
        dues("its load is on the stack", y.value(0, 0, 1), 4);
        dues("still", y.about(1), 1);

        SealedProcesses x = booted(build()
            .function(1, end(0, Op.CLIENT), NO, 1, sender(5).label("a").op(Op.YIELD).jump("a"))
            .function(1, end(0, Op.SERVER), NO, 1, new Code().times(3, Op.YIELD).op(Op.LOAD, 0).receive("a", "b")
                .label("b").op(Op.EXIT).label("a").op(Op.FREE).label("c").op(Op.YIELD).jump("c")),
            2, 0, 0, 1, 0, 0, 1, 1, 0);
        x.run(8 + 1 + 8 + 1 + 4 + 1);
        dues("the sender waits", x.process(0, 0), 3);
        dues("the receiver did not receive", x.process(1, 9), 3);
        dues("run(4)", x.run(4), 4);
        dues("it did", x.channel(0, 1, 2), 3);
        dues("as it was found", x.process(0, 0), 3);
        x.run(1);
        dues("the sender goes on", x.process(0, 0), 1);
        dues("and sends", x.channel(0, 1, 2), 4);
        dues("the block that was freed is there no more", x.block(0, 0), -1);
    }

    /** What is sent to a closed end goes at once, with its block, or with its end. */
    private static void toTheClosed() {
        SealedProcesses x = booted(build()
            .function(1, end(0, Op.CLIENT), NO, 1, new Code().op(Op.YIELD).op(sender(6).bytes()).label("a").op(Op.YIELD).jump("a"))
            .function(1, end(0, Op.SERVER), NO, 1, new Code().op(Op.EXIT)), 2, 0, 0, 1, 0, 0, 1, 1, 0);
        x.run(2);
        dues("the server's end is closed", x.channel(0, 1, 0), -1);
        dues("the client's is not", x.channel(0, 0, 0), 0);
        dues("the channel is there", x.about(3), 1);
        x.run(26);
        dues("all were sent", x.process(0, 0), 1);
        dues("no block is left", x.about(4), 0);
        SealedProcesses y = booted(build()
            .function(1, end(1, Op.CLIENT), NO, 2, new Code().op(Op.YIELD, Op.LOAD, 0, Op.CHANNEL, 0, Op.STORE, 1)
                .op(Op.SEND, 0).label("a").op(Op.YIELD).jump("a"))
            .function(1, end(1, Op.SERVER), NO, 1, new Code().op(Op.EXIT)), 2, 0, 0, 1, 0, 0, 1, 1, 0);
        y.run(20);
        dues("the client's end that was sent is closed", y.channel(1, 0, 0), -1);
        dues("the server's end of it is not", y.channel(1, 1, 1), 0);
        dues("channels", y.about(3), 2);
    }

    /** An end that waits in a message has messages itself: all of it goes with the outer end. */
    private static void closedWithMessages() {
        // Channel 1 is of contract 0: two blocks wait for its server's end. Its client's end is sent
        // over channel 0, and waits there. Then the server's end of channel 0 is closed.
        Build module = build()
            .function(1, end(1, Op.CLIENT), NO, 2, new Code().op(Op.LOAD, 0, Op.CHANNEL, 0, Op.STORE, 1)
                .op(Op.BLOCK, 0, Op.SEND, 0, Op.BLOCK, 0, Op.SEND, 0, Op.SEND, 0).label("a").op(Op.YIELD).jump("a"))
            .function(1, end(1, Op.SERVER), NO, 1, new Code().times(2, Op.YIELD).op(Op.EXIT));
        SealedProcesses x = booted(module, 2, 0, 0, 1, 0, 0, 1, 1, 0);
        x.run(9);
        dues("a client's end waits", x.channel(1, 0, 1), 101);
        dues("two blocks wait", x.channel(1, 1, 2), 2);
        dues("for the end of the first process", x.channel(1, 1, 1), 0);
        dues("their owner", x.block(1, 1), 103);
        x.run(5);
        dues("the second process is over", x.process(1, 0), 4);
        dues("the end went with the message", x.channel(1, 0, 0), -1);
        dues("the other end stays", x.channel(1, 1, 2), 2);
        dues("with its blocks", x.about(4), 2);
        dues("channels", x.about(3), 2);

        // The same, but the server's end with the two blocks is what is sent.
        Build turned = new Build().record(2, 0, 0)
            .contract(2, Op.CLIENTS, 2, 4, 0, 0, 255, 1, Op.NOBODYS, 0)
            .contract(1, Op.CLIENTS, 1, 5, 0, 0, Op.SERVER, 0)
            .function(1, end(1, Op.CLIENT), NO, 2, new Code().op(Op.CHANNEL, 0, Op.STORE, 1)
                .op(Op.BLOCK, 0, Op.SEND, 0, Op.BLOCK, 0, Op.SEND, 0).op(Op.LOAD, 0, Op.LOAD, 1, Op.SEND, 0)
                .label("a").op(Op.YIELD).jump("a"))
            .function(1, end(1, Op.SERVER), NO, 1, new Code().times(3, Op.YIELD).op(Op.EXIT));
        SealedProcesses y = booted(turned, 2, 0, 0, 1, 0, 0, 1, 1, 0);
        y.run(10);
        dues("blocks", y.about(4), 2);
        y.run(3);
        dues("the server's end waits", y.channel(1, 1, 1), 101);
        y.run(10);
        dues("it is closed", y.channel(1, 1, 1), -1);
        dues("its blocks went", y.about(4), 0);
        dues("no cells", y.about(5), 0);
        dues("the client's end stays", y.channel(1, 0, 1), 0);
    }

    /** When a process is over its blocks go and its ends are closed, whatever function has them. */
    private static void over() {
        SealedProcesses x = booted(build()
            .function(0, new Code().op(Op.BLOCK, 0, Op.CHANNEL, 0, Op.CALL, 1, Op.EXIT))
            .function(0, new Code().op(Op.BLOCK, 0, Op.CHANNEL, 1).push(1).push(0).op(Op.DIV, Op.EXIT)), 1, 0, 0, 1);
        x.run(7);
        dues("blocks", x.about(4), 2);
        dues("channels", x.about(3), 2);
        x.run(10);
        dues("a trap", x.process(0, 1), 3);
        dues("blocks", x.about(4), 0);
        dues("channels", x.about(3), 0);
        dues("its block", x.block(0, 0), -1);
        dues("its channel", x.channel(0, 0, 0), -1);
        // Messages that were sent stay for the other end, which can still be received from.
        SealedProcesses y = booted(build()
            .function(1, end(0, Op.CLIENT), NO, 1, sender(1).op(Op.SEND, 1, Op.CLOSE, Op.RETURN))
            .function(1, end(0, Op.SERVER), NO, 1, new Code().times(2, Op.YIELD).op(Op.LOAD, 0).label("r").receive("a", "b")
                .label("a").op(Op.SEE, 1, Op.OUT, Op.FREE).jump("r").label("b").op(Op.CLOSE, Op.RETURN)), 2, 0, 0, 1, 0, 0, 1, 1, 0);
        y.run(9);
        dues("the client's end is closed", y.channel(0, 0, 0), -1);
        dues("two wait", y.channel(0, 1, 2), 2);
        y.run(100);
        dues("the block was received", y.output(0, 1), 10);
        dues("both are over", y.about(2), 0);
        dues("without a trap", y.process(1, 0), 4);
        dues("the channel is free", y.about(3), 0);
    }

    /** To an end whose other one is closed nothing comes: it waits for ever. */
    private static void forEver() {
        SealedProcesses x = booted(build()
            .function(1, end(0, Op.CLIENT), NO, 1, new Code().op(Op.EXIT))
            .function(1, end(0, Op.SERVER), NO, 1, new Code().op(Op.LOAD, 0).receive("a", "b").label("a").op(Op.EXIT).label("b").op(Op.EXIT)),
            2, 0, 0, 1, 0, 0, 1, 1, 0);
        dues("run", x.run(100), 2);
        dues("it waits", x.process(1, 0), 2);
        dues("still", x.about(1), 1);
        dues("not over", x.about(2), 1);
        dues("the channel", x.about(3), 1);
        // A number that is free is given again, the lowest first.
        SealedProcesses y = booted(new Build().contract(1, Op.NOBODYS, 0)
            .function(0, new Code().op(Op.CHANNEL, 0, Op.CHANNEL, 0, Op.CHANNEL, 0, Op.SWAP, Op.CLOSE, Op.CLOSE)
                .op(Op.CLOSE, Op.CLOSE, Op.CHANNEL, 0).label("a").op(Op.YIELD).jump("a")), 1, 0, 0, 1);
        y.run(20);
        dues("channels", y.about(3), 2);
        dues("the new one", y.value(0, 0, 2), 2);
    }

    /** Modules that were made apart: a block goes from the one's record to the other's. */
    private static void acrossModules() {
        SealedProcesses x = new SealedProcesses();
        Build.load(x, build().function(1, end(0, Op.CLIENT), NO, 1, sender(1).label("a").op(Op.YIELD).jump("a")).bytes());
        Build.load(x, new Build().record(1, 2).record(2, 0, 0)
            .contract(1, Op.NOBODYS, 0)
            .contract(2, Op.CLIENTS, 2, 4, 1, 0, 255, 1, Op.NOBODYS, 0)
            .function(1, end(1, Op.SERVER), NO, 1, new Code().op(Op.LOAD, 0).receive("a", "b")
                .label("a").op(Op.SEE, 1, Op.OUT, Op.EXIT).label("b").op(Op.EXIT)).bytes());
        dues("boot", Build.boot(x, 83, 70, 2, 0, 0, 1, 5, 1, 0, 1, 5), 2);
        x.discard(0);
        x.discard(1);
        x.run(50);
        dues("the block's field", x.output(0, 1), 10);
        dues("told by", x.output(0, 0), 1);
    }
}
