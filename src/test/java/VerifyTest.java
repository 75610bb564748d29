/** Promise 3, verifying: which functions are right; the others are fault 2. */
public final class VerifyTest {
    private static final Check CHECK = new Check("promise 3, verifying");

    /** Record 0 has a node of its own kind and an INT, 1 two INTs, 2 rows, 3 one INT. */
    private static Build build() {
        return new Build()
            .record(2, 1, 0, 0).record(2, 0, 0).record(2, 2, 3, 0).record(1, 0)
            // contract 0: the client sends a bare 0 or an INT, the server answers a block, nobody's.
            .contract(3, Op.CLIENTS, 2, 255, 1, 0, 1, Op.SERVERS, 1, 4, 1, 2, Op.NOBODYS, 0)
            // contract 1: the client sends a bare 0, or a client's end of contract 0; nobody's then.
            .contract(2, Op.CLIENTS, 2, 255, 1, 5, 0, 0, 0, 1, Op.NOBODYS, 0);
    }

    private static void right(String what, int locals, Code code) {
        told(what, 0, build().function(locals, code));
    }

    private static void wrong(String what, int locals, Code code) {
        told(what, 2, build().function(locals, code));
    }

    private static void told(String what, int fault, Build module) {
        SealedProcesses x = new SealedProcesses();
        CHECK.due(what, Build.load(x, module.bytes()), fault == 0 ? 0 : -1);
        CHECK.due(what + ": fault", x.fault(0), fault);
        CHECK.due(what + ": place", x.fault(1), fault == 0 ? -1 : module.codeStart(0));
    }

    private static Code code() {
        return new Code();
    }

    public static void main(String[] args) {
        plain();
        flow();
        joins();
        pointers();
        nil();
        functions();
        blocks();
        ends();
        messages();
        CHECK.end();
    }

    private static void plain() {
        wrong("behind the last there is none", 0, code().push(1));
        wrong("behind the last there is none, when it is ZERO", 0, code().label("a").push(1).zero("a"));
        wrong("POP of nothing", 0, code().op(Op.POP, Op.RETURN));
        wrong("ADD of one", 0, code().push(1).op(Op.ADD, Op.POP, Op.RETURN));
        wrong("ADD of NIL", 0, code().push(1).op(Op.NIL, Op.ADD, Op.POP, Op.RETURN));
        for (int op = Op.ADD; op <= Op.SAME; op++) {
            right("two INTs, " + op, 0, code().push(1).push(2).op(op, Op.OUT, Op.RETURN));
            wrong("a NIL below, " + op, 0, code().op(Op.NIL).push(2).op(op, Op.OUT, Op.RETURN));
        }
        right("SWAP", 0, code().push(1).op(Op.NIL, Op.SWAP, Op.OUT, Op.POP, Op.RETURN));
        wrong("SWAP of one", 0, code().push(1).op(Op.SWAP, Op.POP, Op.RETURN));
        right("DUP", 0, code().push(1).op(Op.DUP, Op.POP, Op.POP, Op.RETURN));
        wrong("DUP of nothing", 0, code().op(Op.DUP, Op.EXIT));
        wrong("OUT of NIL", 0, code().op(Op.NIL, Op.OUT, Op.RETURN));
        wrong("LOAD of EMPTY", 1, code().op(Op.LOAD, 0, Op.EXIT));
        right("LOAD of what was stored", 1, code().push(1).op(Op.STORE, 0, Op.LOAD, 0, Op.OUT, Op.RETURN));
        right("16 on the stack", 0, code().times(16, Op.NIL).op(Op.EXIT));
        wrong("17 on the stack", 0, code().times(17, Op.NIL).op(Op.EXIT));
        wrong("17 by DUP", 0, code().times(16, Op.NIL).op(Op.DUP, Op.EXIT));
        wrong("17 by CHANNEL", 0, code().times(15, Op.NIL).op(Op.CHANNEL, 0, Op.EXIT));
        right("16 by CHANNEL", 0, code().times(14, Op.NIL).op(Op.CHANNEL, 0, Op.EXIT));
        wrong("RETURN with one on the stack", 0, code().push(1).op(Op.RETURN));
        right("EXIT with anything", 0, code().push(1).op(Op.BLOCK, 1, Op.CHANNEL, 0, Op.NIL, Op.EXIT));
    }

    private static void flow() {
        right("what is not come to is not looked at", 0, code().op(Op.EXIT, Op.ADD, Op.POP));
        right("behind JUMP", 0, code().jump("a").op(Op.POP).label("a").op(Op.RETURN));
        right("JUMP back", 0, code().label("a").op(Op.YIELD).jump("a"));
        wrong("JUMP back with one more", 0, code().label("a").push(1).jump("a"));
        wrong("ZERO of NIL", 0, code().op(Op.NIL).zero("a").label("a").op(Op.RETURN));
        right("ZERO", 0, code().push(0).zero("a").op(Op.YIELD).label("a").op(Op.RETURN));
        wrong("ZERO to another height", 0, code().push(0).zero("a").push(1).label("a").op(Op.EXIT));
        wrong("ZERO: what goes on is wrong", 0, code().push(0).zero("a").op(Op.POP).label("a").op(Op.RETURN));
        wrong("ZERO: what jumps is wrong", 0, code().push(0).zero("a").op(Op.RETURN).label("a").op(Op.POP, Op.RETURN));
    }

    /** A fork, of which one way does the one, and the other the other. */
    private static Code fork(Code one, Code other, Code then) {
        int[] first = one.bytes();
        int[] second = other.bytes();
        return code().push(0).zero("other").op(first).jump("then").label("other").op(second)
            .label("then").op(then.bytes());
    }

    private static void joins() {
        Code nil = code().op(Op.NIL);
        Code node = code().op(Op.NEW, 0);
        Code other = code().op(Op.NEW, 1);
        Code row = code().push(1).op(Op.ROW);
        Code rows = code().push(1).op(Op.ROWS, 0);
        Code number = code().push(1);
        Code block = code().op(Op.BLOCK, 1);
        Code exit = code().op(Op.EXIT);
        right("NIL and a node", 0, fork(nil, node, code().op(Op.GET, 1, Op.OUT, Op.RETURN)));
        right("a node and NIL", 0, fork(node, nil, code().op(Op.GET, 1, Op.OUT, Op.RETURN)));
        right("NIL and a row", 0, fork(nil, row, code().op(Op.LENGTH, Op.OUT, Op.RETURN)));
        right("NIL and rows", 0, fork(nil, rows, code().op(Op.LENGTH, Op.OUT, Op.RETURN)));
        right("rows and NIL", 0, fork(rows, nil, code().op(Op.LENGTH, Op.OUT, Op.RETURN)));
        wrong("nodes of two records", 0, fork(node, other, exit));
        wrong("a row and a node", 0, fork(row, node, exit));
        wrong("a row and rows", 0, fork(row, rows, exit));
        wrong("rows of two records", 0, fork(rows, code().push(1).op(Op.ROWS, 1), exit));
        wrong("an INT and NIL", 0, fork(number, nil, exit));
        wrong("an INT and a node", 0, fork(node, number, exit));
        wrong("a block and NIL", 0, fork(block, nil, exit));
        right("blocks alike", 0, fork(block, block, code().op(Op.FREE, Op.RETURN)));

        Code stored = code().push(1).op(Op.STORE, 0);
        Code nilStored = code().op(Op.NIL, Op.STORE, 0);
        Code nodeStored = code().op(Op.NEW, 0, Op.STORE, 0);
        Code blockStored = code().op(Op.BLOCK, 1, Op.STORE, 0);
        Code nothing = code();
        right("an INT or EMPTY, not loaded", 1, fork(stored, nothing, code().op(Op.RETURN)));
        wrong("an INT or EMPTY, loaded", 1, fork(stored, nothing, code().op(Op.LOAD, 0, Op.EXIT)));
        right("an INT or a node, not loaded", 1, fork(stored, nodeStored, code().op(Op.RETURN)));
        wrong("an INT or a node, loaded", 1, fork(nodeStored, stored, code().op(Op.LOAD, 0, Op.EXIT)));
        right("NIL or a node, loaded", 1, fork(nilStored, nodeStored, code().op(Op.LOAD, 0, Op.GET, 1, Op.OUT, Op.RETURN)));
        right("EMPTY, then stored", 1, fork(stored, nothing, code().push(1).op(Op.STORE, 0, Op.LOAD, 0, Op.OUT, Op.RETURN)));
        wrong("a block or EMPTY", 1, fork(blockStored, nothing, exit));
        wrong("EMPTY or a block", 1, fork(nothing, blockStored, exit));
        wrong("a block or NIL", 1, fork(nilStored, blockStored, exit));
        right("a block or a block", 1, fork(blockStored, blockStored, code().op(Op.LOAD, 0, Op.FREE, Op.RETURN)));
        // NIL comes first; only the loop's second round brings the row, and then a node is wanted.
        wrong("what comes later counts, too", 1, code().op(Op.NIL, Op.STORE, 0).label("a")
            .op(Op.LOAD, 0, Op.NONE).zero("b").push(1).op(Op.ROW, Op.STORE, 0).jump("a")
            .label("b").op(Op.LOAD, 0, Op.GET, 1, Op.OUT, Op.RETURN));
        right("the same with a node", 1, code().op(Op.NIL, Op.STORE, 0).label("a")
            .op(Op.LOAD, 0, Op.NONE).zero("b").op(Op.NEW, 0, Op.STORE, 0).jump("a")
            .label("b").op(Op.LOAD, 0, Op.GET, 1, Op.OUT, Op.RETURN));
    }

    private static void pointers() {
        right("GET of a node", 0, code().op(Op.NEW, 0, Op.GET, 0, Op.GET, 1, Op.OUT, Op.RETURN));
        wrong("GET of a field that is not there", 0, code().op(Op.NEW, 0, Op.GET, 2, Op.EXIT));
        wrong("GET of an INT", 0, code().push(1).op(Op.GET, 0, Op.EXIT));
        wrong("GET of a row", 0, code().push(1).op(Op.ROW, Op.GET, 0, Op.EXIT));
        wrong("GET of a block", 0, code().op(Op.BLOCK, 1, Op.GET, 0, Op.EXIT));
        right("PUT of an INT", 0, code().op(Op.NEW, 0).push(1).op(Op.PUT, 1, Op.RETURN));
        right("PUT of a node", 0, code().op(Op.NEW, 0, Op.NEW, 0, Op.PUT, 0, Op.RETURN));
        right("PUT of NIL", 0, code().op(Op.NEW, 0, Op.NIL, Op.PUT, 0, Op.RETURN));
        wrong("PUT of NIL to an INT", 0, code().op(Op.NEW, 0, Op.NIL, Op.PUT, 1, Op.RETURN));
        wrong("PUT of another node", 0, code().op(Op.NEW, 0, Op.NEW, 1, Op.PUT, 0, Op.RETURN));
        wrong("PUT of a block", 0, code().op(Op.NEW, 0, Op.BLOCK, 1, Op.PUT, 0, Op.RETURN));
        wrong("PUT of a field that is not there", 0, code().op(Op.NEW, 0).push(1).op(Op.PUT, 2, Op.RETURN));
        right("rows in fields", 0, code().op(Op.NEW, 2).push(2).op(Op.ROW, Op.PUT, 0, Op.NEW, 2).push(2)
            .op(Op.ROWS, 0, Op.PUT, 1, Op.RETURN));
        wrong("rows of others in fields", 0, code().op(Op.NEW, 2).push(2).op(Op.ROWS, 1, Op.PUT, 1, Op.RETURN));
        wrong("ROW of NIL", 0, code().op(Op.NIL, Op.ROW, Op.EXIT));
        right("TAKE of INTs", 0, code().push(2).op(Op.ROW).push(0).op(Op.TAKE, Op.OUT, Op.RETURN));
        right("TAKE of nodes", 0, code().push(2).op(Op.ROWS, 0).push(0).op(Op.TAKE, Op.GET, 1, Op.OUT, Op.RETURN));
        wrong("TAKE by NIL", 0, code().push(2).op(Op.ROW, Op.NIL, Op.TAKE, Op.EXIT));
        wrong("TAKE of a node", 0, code().op(Op.NEW, 0).push(0).op(Op.TAKE, Op.EXIT));
        right("LAY of an INT", 0, code().push(2).op(Op.ROW).push(0).push(1).op(Op.LAY, Op.RETURN));
        wrong("LAY of NIL among INTs", 0, code().push(2).op(Op.ROW).push(0).op(Op.NIL, Op.LAY, Op.RETURN));
        right("LAY of a node", 0, code().push(2).op(Op.ROWS, 1).push(0).op(Op.NEW, 1, Op.LAY, Op.RETURN));
        right("LAY of NIL", 0, code().push(2).op(Op.ROWS, 1).push(0).op(Op.NIL, Op.LAY, Op.RETURN));
        wrong("LAY of another node", 0, code().push(2).op(Op.ROWS, 1).push(0).op(Op.NEW, 0, Op.LAY, Op.RETURN));
        wrong("LENGTH of a node", 0, code().op(Op.NEW, 0, Op.LENGTH, Op.EXIT));
        right("NONE of a row", 0, code().push(2).op(Op.ROW, Op.NONE, Op.OUT, Op.RETURN));
        right("NONE of NIL", 0, code().op(Op.NIL, Op.NONE, Op.OUT, Op.RETURN));
        wrong("NONE of an INT", 0, code().push(2).op(Op.NONE, Op.EXIT));
        wrong("NONE of a block", 0, code().op(Op.BLOCK, 1, Op.NONE, Op.EXIT));
    }

    /** Behind a trap nothing goes on, not even off the end of the code. */
    private static void nil() {
        right("GET of NIL", 0, code().op(Op.NIL, Op.GET, 5));
        right("PUT of an INT to NIL", 0, code().op(Op.NIL).push(1).op(Op.PUT, 0));
        right("PUT of a block to NIL", 0, code().op(Op.NIL, Op.BLOCK, 1, Op.PUT, 0));
        right("LENGTH of NIL", 0, code().op(Op.NIL, Op.LENGTH));
        right("TAKE of NIL", 0, code().op(Op.NIL).push(0).op(Op.TAKE));
        wrong("TAKE of NIL by NIL", 0, code().op(Op.NIL, Op.NIL, Op.TAKE));
        right("LAY of a block to NIL", 0, code().op(Op.NIL).push(0).op(Op.BLOCK, 1, Op.LAY));
        wrong("LAY to NIL by NIL", 0, code().op(Op.NIL, Op.NIL).push(0).op(Op.LAY));
        wrong("PUT of one", 0, code().op(Op.NIL, Op.PUT, 0));
        right("behind it is not looked", 0, code().op(Op.NIL, Op.GET, 0, Op.ADD, Op.SEND, 0));
    }

    private static void functions() {
        Code exit = code().op(Op.EXIT);
        Build takes = build().function(0, code().push(1).op(Op.NIL, Op.CALL, 1, Op.GET, 1, Op.OUT, Op.RETURN))
            .function(2, Build.types(0, 1, 0), Build.types(1, 0), 2, code().op(Op.LOAD, 1, Op.RETURN));
        told("CALL", 0, takes);
        told("CALL with one of another type", 2, build().function(0, code().op(Op.NIL).push(1).op(Op.CALL, 1, Op.EXIT))
            .function(2, Build.types(0, 1, 0), Build.types(1, 0), 2, exit));
        told("CALL with one too few", 2, build().function(0, code().op(Op.NIL, Op.CALL, 1, Op.EXIT))
            .function(2, Build.types(0, 1, 0), Build.types(1, 0), 2, exit));
        told("CALL of another record", 2, build().function(0, code().push(1).op(Op.NEW, 1, Op.CALL, 1, Op.EXIT))
            .function(2, Build.types(0, 1, 0), Build.types(1, 0), 2, exit));
        told("17 by CALL", 2, build().function(0, code().times(16, Op.NIL).op(Op.CALL, 1, Op.EXIT))
            .function(0, Build.types(), Build.types(0), 0, exit));
        told("a result of NIL", 0, build().function(0, Build.types(), Build.types(3, 1), 0, code().op(Op.NIL, Op.RETURN)));
        told("no result", 2, build().function(0, Build.types(), Build.types(0), 0, code().op(Op.RETURN)));
        told("another result", 2, build().function(0, Build.types(), Build.types(0), 0, code().op(Op.NIL, Op.RETURN)));
        told("one below the result", 2, build().function(0, Build.types(), Build.types(0), 0, code().push(1).push(1).op(Op.RETURN)));
        told("a block as result", 0, build().function(0, Build.types(), Build.types(4, 1), 0, code().op(Op.BLOCK, 1, Op.RETURN)));
        told("a parameter that is left", 2, build().function(1, Build.types(4, 1), Build.types(255), 1, code().op(Op.RETURN)));
        told("parameters are in their locals", 0, build().function(1, Build.types(4, 1), Build.types(255), 2, code().op(Op.LOAD, 0, Op.FREE, Op.RETURN)));
        told("the other locals are EMPTY", 2, build().function(1, Build.types(0), Build.types(255), 2, code().op(Op.LOAD, 1, Op.EXIT)));
        told("SPAWN", 0, build().function(0, code().push(1).op(Op.BLOCK, 1, Op.SPAWN, 1, Op.RETURN))
            .function(2, Build.types(0, 4, 1), Build.types(255), 2, exit));
        told("SPAWN of one with a result", 2, build().function(0, code().op(Op.SPAWN, 1, Op.RETURN))
            .function(0, Build.types(), Build.types(0), 0, exit));
        told("SPAWN of one with a node", 2, build().function(0, code().op(Op.NIL, Op.SPAWN, 1, Op.RETURN))
            .function(1, Build.types(1, 0), Build.types(255), 1, exit));
        told("SPAWN of one with a row", 2, build().function(0, code().op(Op.NIL, Op.SPAWN, 1, Op.RETURN))
            .function(1, Build.types(2), Build.types(255), 1, exit));
        told("SPAWN that is not come to", 0, build().function(0, code().op(Op.EXIT, Op.SPAWN, 1))
            .function(1, Build.types(2), Build.types(0), 1, exit));
        told("SPAWN without its INT", 2, build().function(0, code().op(Op.SPAWN, 1, Op.RETURN))
            .function(1, Build.types(0), Build.types(255), 1, exit));
    }

    private static void blocks() {
        right("BLOCK, FREE", 0, code().op(Op.BLOCK, 1, Op.FREE, Op.RETURN));
        wrong("POP of a block", 0, code().op(Op.BLOCK, 1, Op.POP, Op.RETURN));
        wrong("DUP of a block", 0, code().op(Op.BLOCK, 1, Op.DUP, Op.EXIT));
        right("SEE", 0, code().op(Op.BLOCK, 1, Op.SEE, 1, Op.OUT, Op.FREE, Op.RETURN));
        wrong("SEE of a field that is not there", 0, code().op(Op.BLOCK, 1, Op.SEE, 2, Op.EXIT));
        wrong("SEE of a node", 0, code().op(Op.NEW, 1, Op.SEE, 0, Op.EXIT));
        wrong("SEE of NIL", 0, code().op(Op.NIL, Op.SEE, 0, Op.EXIT));
        right("SET", 0, code().op(Op.BLOCK, 1).push(1).op(Op.SET, 1, Op.FREE, Op.RETURN));
        wrong("SET of a field that is not there", 0, code().op(Op.BLOCK, 1).push(1).op(Op.SET, 2, Op.EXIT));
        wrong("SET of NIL", 0, code().op(Op.BLOCK, 1, Op.NIL, Op.SET, 1, Op.EXIT));
        wrong("SET with the INT below", 0, code().push(1).op(Op.BLOCK, 1, Op.SET, 1, Op.EXIT));
        wrong("FREE of a node", 0, code().op(Op.NEW, 1, Op.FREE, Op.RETURN));
        right("a block in a local, and out of it", 1, code().op(Op.BLOCK, 1, Op.STORE, 0, Op.LOAD, 0, Op.FREE, Op.RETURN));
        wrong("a block loaded twice", 1, code().op(Op.BLOCK, 1, Op.STORE, 0, Op.LOAD, 0, Op.LOAD, 0, Op.EXIT));
        wrong("STORE on a block", 1, code().op(Op.BLOCK, 1, Op.STORE, 0).push(1).op(Op.STORE, 0, Op.EXIT));
        right("STORE where a block was", 1, code().op(Op.BLOCK, 1, Op.STORE, 0, Op.LOAD, 0, Op.FREE).push(1).op(Op.STORE, 0, Op.RETURN));
        wrong("RETURN with a block in a local", 1, code().op(Op.BLOCK, 1, Op.STORE, 0, Op.RETURN));
        right("EXIT with a block in a local", 1, code().op(Op.BLOCK, 1, Op.STORE, 0, Op.EXIT));
    }

    private static void ends() {
        right("CHANNEL and EXIT", 0, code().op(Op.CHANNEL, 0, Op.EXIT));
        wrong("CHANNEL and RETURN", 0, code().op(Op.CHANNEL, 0, Op.RETURN));
        wrong("POP of an end", 0, code().op(Op.CHANNEL, 0, Op.POP, Op.EXIT));
        wrong("DUP of an end", 0, code().op(Op.CHANNEL, 0, Op.DUP, Op.EXIT));
        wrong("CLOSE when it is somebody's turn", 0, code().op(Op.CHANNEL, 0, Op.CLOSE, Op.EXIT));
        wrong("CLOSE of a block", 0, code().op(Op.BLOCK, 1, Op.CLOSE, Op.EXIT));
        right("CLOSE when it is nobody's turn", 0, code().op(Op.CHANNEL, 1, Op.SWAP, Op.SEND, 0, Op.CLOSE, Op.EXIT));
        right("both ends", 1, code().op(Op.CHANNEL, 1, Op.STORE, 0, Op.SEND, 0, Op.CLOSE, Op.LOAD, 0)
            .receive("a", "b").label("b").op(Op.EXIT).label("a").op(Op.CLOSE, Op.RETURN));
    }

    private static void messages() {
        Code client = code().op(Op.CHANNEL, 0, Op.STORE, 0);
        right("a bare message", 1, code().op(client.bytes()).op(Op.SEND, 0, Op.EXIT));
        right("a message with an INT", 1, code().op(client.bytes()).push(1).op(Op.SEND, 1, Op.EXIT));
        wrong("an INT with a bare message", 1, code().op(client.bytes()).push(1).op(Op.SEND, 0, Op.EXIT));
        wrong("a message without its INT", 1, code().op(client.bytes()).op(Op.SEND, 1, Op.EXIT));
        wrong("a message with NIL", 1, code().op(client.bytes()).op(Op.NIL, Op.SEND, 1, Op.EXIT));
        wrong("a message that is not there", 1, code().op(client.bytes()).op(Op.SEND, 2, Op.EXIT));
        wrong("the other side's turn", 0, code().op(Op.CHANNEL, 0, Op.SEND, 0, Op.EXIT));
        wrong("out of turn again", 1, code().op(client.bytes()).op(Op.SEND, 0, Op.SEND, 0, Op.EXIT));
        wrong("RECEIVE in one's own turn", 1, code().op(client.bytes()).receive("a", "a").label("a").op(Op.EXIT));
        wrong("RECEIVE with loads of two heights", 0, code().op(Op.CHANNEL, 0).receive("a", "a").label("a").op(Op.EXIT));
        right("RECEIVE", 0, code().op(Op.CHANNEL, 0).receive("a", "b").label("b").op(Op.OUT, Op.EXIT).label("a").op(Op.EXIT));
        wrong("RECEIVE: no load", 0, code().op(Op.CHANNEL, 0).receive("a", "b").label("b").op(Op.OUT, Op.EXIT).label("a").op(Op.OUT, Op.EXIT));
        wrong("RECEIVE of too few messages", 0, code().op(Op.CHANNEL, 0).receive("a").label("a").op(Op.EXIT));
        wrong("RECEIVE of too many messages", 0, code().op(Op.CHANNEL, 0).receive("a", "b", "b").label("b").op(Op.OUT).label("a").op(Op.EXIT));
        wrong("RECEIVE of a block", 0, code().op(Op.BLOCK, 1).receive("a").label("a").op(Op.EXIT));
        wrong("17 by RECEIVE", 0, code().times(14, Op.NIL).op(Op.CHANNEL, 0).receive("a", "b").label("a").op(Op.EXIT).label("b").op(Op.EXIT));
        Code server = code().op(Op.CHANNEL, 0).receive("a", "b").label("b").op(Op.POP).label("a");
        right("an answer with a block", 0, code().op(server.bytes()).op(Op.BLOCK, 1, Op.SEND, 0, Op.CLOSE, Op.EXIT));
        wrong("an answer with another block", 0, code().op(server.bytes()).op(Op.BLOCK, 3, Op.SEND, 0, Op.EXIT));
        wrong("RECEIVE of one message in the wrong state", 0, code().op(server.bytes()).receive("c").label("c").op(Op.EXIT));
        // Local 0 has the server's end of a channel of contract 0, local 1 the client's; on the
        // stack are the ends of one of contract 1, the client's above.
        Code two = code().op(Op.CHANNEL, 0, Op.STORE, 0, Op.STORE, 1, Op.CHANNEL, 1, Op.SWAP);
        right("an end as a load", 2, code().op(two.bytes()).op(Op.LOAD, 1, Op.SEND, 1, Op.CLOSE, Op.EXIT));
        wrong("another side's end as a load", 2, code().op(two.bytes()).op(Op.LOAD, 0, Op.SEND, 1, Op.EXIT));
        wrong("an end in another state as a load", 2,
            code().op(two.bytes()).op(Op.LOAD, 1, Op.SEND, 0, Op.SEND, 1, Op.EXIT));
        // The highest could send message 0 itself, so it is the end, and not a load.
        right("the highest is the end", 2,
            code().op(two.bytes()).op(Op.LOAD, 1, Op.SEND, 0, Op.SWAP, Op.SEND, 0, Op.CLOSE, Op.EXIT));
        wrong("the highest is not a load", 2, code().op(two.bytes()).op(Op.LOAD, 1, Op.SEND, 0, Op.CLOSE, Op.EXIT));
    }
}
