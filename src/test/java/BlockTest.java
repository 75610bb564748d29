/** Promise 13: what is told of a block. */
public final class BlockTest {
    public static void main(String[] args) {
        Check check = new Check("promise 13");
        SealedProcesses none = new SealedProcesses();
        check.due("nothing is booted", none.block(0, 0), -1);
        SealedProcesses x = Build.booted(new Build().record(2, 0, 0).record(6, 0, 0, 0, 0, 0, 0)
            .contract(1, Op.CLIENTS, 1, 4, 0, 0)
            .function(0, new Code().op(Op.BLOCK, 1).push(-1).op(Op.SET, 5).push(8).op(Op.SET, 0)
                .op(Op.BLOCK, 0, Op.SPAWN, 1).op(Op.CHANNEL, 0, Op.SWAP, Op.BLOCK, 0, Op.SEND, 0, Op.YIELD, Op.EXIT))
            .function(1, Build.types(4, 0), Build.types(255), 1, new Code().op(Op.LOAD, 0).push(3).op(Op.SET, 1, Op.FREE, Op.RETURN)), 0);
        check.due("none yet", x.block(0, 0), -1);
        x.run(6);
        int[] fields = {8, 0, 0, 0, 0, -1};
        check.due("fields", x.block(0, 0), 6);
        check.due("owner", x.block(0, 1), 0);
        for (int f = 0; f < 6; f++) {
            check.due("field " + f, x.block(0, 10 + f), fields[f]);
        }
        for (int what : new int[] {-1, 2, 9, 16, Integer.MIN_VALUE, Integer.MAX_VALUE}) {
            check.due("what " + what, x.block(0, what), -1);
        }
        check.due("the second: fields", x.block(1, 0), 2);
        check.due("the second: field 1", x.block(1, 11), 0);
        check.due("the second: no field 2", x.block(1, 12), -1);
        for (int b : new int[] {-1, 2, 127, 128, 256, Integer.MIN_VALUE, Integer.MAX_VALUE}) {
            check.due("block " + b, x.block(b, 0), -1);
        }
        x.run(1);
        check.due("handed to the spawned one", x.block(1, 1), 1);
        x.run(1 + 3);
        check.due("its field was set", x.block(1, 11), 3);
        x.run(1);
        check.due("it was freed", x.block(1, 0), -1);
        x.run(1 + 2);
        check.due("its number is given again", x.block(1, 0), 2);
        check.due("all 0", x.block(1, 11), 0);
        check.due("owner", x.block(1, 1), 0);
        x.run(1);
        check.due("it waits for the server's end", x.block(1, 1), 101);
        x.run(2);
        check.due("all went with their owners", x.block(0, 0), -1);
        check.due("all went with their owners", x.block(1, 0), -1);
        check.end();
    }
}
