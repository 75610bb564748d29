/** Promise 14: what is told of a channel's ends. */
public final class ChannelTest {
    private static final Check CHECK = new Check("promise 14");

    private static void end(SealedProcesses x, String when, int c, int side, int... due) {
        for (int what = 0; what < 3; what++) {
            CHECK.due(when + ": channel(" + c + ", " + side + ", " + what + ")", x.channel(c, side, what), due[what]);
        }
        for (int what : new int[] {-1, 3, Integer.MIN_VALUE, Integer.MAX_VALUE}) {
            CHECK.due(when + ": channel(" + c + ", " + side + ", " + what + ")", x.channel(c, side, what), -1);
        }
    }

    public static void main(String[] args) {
        CHECK.due("nothing is booted", new SealedProcesses().channel(0, 0, 0), -1);
        // Contract 0: the client sends an INT, the server an end of contract 1, then nobody's.
        SealedProcesses x = Build.booted(new Build()
            .contract(3, Op.CLIENTS, 1, 0, 1, Op.SERVERS, 1, 5, 1, 0, Op.CLIENT, 2, Op.NOBODYS, 0)
            .contract(2, Op.SERVERS, 1, 255, 1, Op.NOBODYS, 0)
            .function(0, new Code().op(Op.CHANNEL, 0, Op.SPAWN, 1).push(6).op(Op.SEND, 0, Op.YIELD).receive("a")
                .label("a").op(Op.SWAP, Op.CLOSE).receive("b").label("b").op(Op.CLOSE, Op.YIELD, Op.RETURN))
            .function(1, Build.types(5, 0, 0, Op.SERVER), Build.types(255), 2, new Code().op(Op.LOAD, 0).receive("a")
                .label("a").op(Op.OUT, Op.CHANNEL, 1, Op.STORE, 1, Op.SEND, 0, Op.CLOSE, Op.YIELD)
                .op(Op.LOAD, 1, Op.SEND, 0, Op.CLOSE, Op.RETURN)), 0);
        x.run(1);
        end(x, "made", 0, 0, 0, 0, 0);
        end(x, "made", 0, 1, 0, 0, 0);
        end(x, "no other", 1, 0, -1, -1, -1);
        for (int odd : new int[] {-1, 2, 12, Integer.MIN_VALUE, Integer.MAX_VALUE}) {
            CHECK.due("channel " + odd, x.channel(odd, 0, 0), -1);
            CHECK.due("side " + odd, x.channel(0, odd, 0), -1);
        }
        x.run(1);
        end(x, "spawned with an end", 0, 1, 0, 1, 0);
        x.run(2);
        end(x, "sent", 0, 0, 1, 0, 0);
        end(x, "sent: it waits", 0, 1, 0, 1, 1);
        x.run(1 + 2);
        end(x, "received", 0, 1, 1, 1, 0);
        x.run(3);
        end(x, "a second channel", 1, 0, 0, 1, 0);
        end(x, "a second channel", 1, 1, 0, 1, 0);
        x.run(1);
        end(x, "an end waits", 1, 0, 0, 100, 0);
        end(x, "for the client's", 0, 0, 1, 0, 1);
        end(x, "the state then", 0, 1, 2, 1, 0);
        x.run(1);
        end(x, "closed", 0, 1, -1, -1, -1);
        end(x, "the other end stays", 0, 0, 1, 0, 1);
        CHECK.due("channels", x.about(3), 2);
        x.run(1 + 1);
        end(x, "the end was received", 1, 0, 0, 0, 0);
        end(x, "and the state then", 0, 0, 2, 0, 0);
        x.run(2);
        end(x, "both closed", 0, 0, -1, -1, -1);
        CHECK.due("the channel is free", x.about(3), 1);
        x.run(100);
        CHECK.due("all are over", x.about(2), 0);
        CHECK.due("no channel", x.about(3), 0);
        end(x, "none is left", 1, 0, -1, -1, -1);
        CHECK.end();
    }
}
