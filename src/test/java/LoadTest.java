/** Promise 3, decoding: where a module comes to stand, and fault 1 with its place. */
public final class LoadTest {
    private static final Check CHECK = new Check("promise 3, decoding");
    private static final Code RETURN = new Code().op(Op.RETURN);

    public static void main(String[] args) {
        shelf();
        everyStart();
        numbers();
        types();
        code();
        names();
        targets();
        CHECK.end();
    }

    /** Fault 1 at that place. */
    private static void faulty(String what, int place, int... bytes) {
        fault(what, 1, place, bytes);
    }

    private static void fault(String what, int fault, int place, int... bytes) {
        SealedProcesses x = new SealedProcesses();
        CHECK.due(what, Build.load(x, bytes), fault == 0 ? 0 : -1);
        CHECK.due(what + ": fault", x.fault(0), fault);
        CHECK.due(what + ": place", x.fault(1), place);
    }

    private static void right(String what, int... bytes) {
        fault(what, 0, -1, bytes);
    }

    private static void shelf() {
        SealedProcesses x = new SealedProcesses();
        int[] good = new Build().function(0, RETURN).bytes();
        for (int i = 0; i < 6; i++) {
            CHECK.due("place", Build.load(x, good), i);
        }
        CHECK.due("a full shelf", Build.load(x, good), -1);
        CHECK.due("a full shelf: fault", x.fault(0), 0);
        CHECK.due("a full shelf: place", x.fault(1), -1);
        CHECK.due("the tape is empty then", x.load(1), -2);
        CHECK.due("a full shelf, and a fault", Build.load(x, Build.changed(good, 9, 99)), -1);
        CHECK.due("its fault", x.fault(0), 1);
        Build.feed(x, good);
        CHECK.due("below 0", x.load(-1), -2);
        CHECK.due("more than there are", x.load(21), -2);
        CHECK.due("lowest number", x.load(Integer.MIN_VALUE), -2);
        CHECK.due("nothing was done", x.feed(0, 0, 0, 0, 0), 40);
        CHECK.due("bytes too many", x.load(11), -1);
        CHECK.due("their fault", x.fault(0), 1);
        CHECK.due("their place", x.fault(1), 10);
    }

    /** A module that is cut anywhere has its fault at the end. */
    private static void everyStart() {
        int[] whole = new Build()
            .record(3, 0, 1, 0, 3, 0).record(1, 0)
            .contract(2, 1, 2, 4, 1, 0, 255, 1, 0, 0)
            .function(2, Build.types(5, 0, 1, 1, 2), Build.types(1, 0), 3,
                new Code().op(Op.LOAD, 0, Op.CLOSE).push(3).op(Op.POP, Op.NIL, Op.RETURN))
            .function(1, new Code().op(Op.RETURN)).bytes();
        right("the whole", whole);
        for (int n = 0; n < whole.length; n++) {
            faulty("the first " + n, n, Build.first(whole, n));
        }
        faulty("one byte more", whole.length, Build.joined(whole, 0));
    }

    private static void numbers() {
        int[] least = {83, 77, 0, 0, 1, 0, 255, 0, 1, 31};
        right("the least module", least);
        faulty("not 83", 0, Build.changed(least, 0, 84));
        faulty("not 77", 1, Build.changed(least, 1, 70));
        faulty("9 records", 2, Build.changed(least, 2, 9));
        faulty("5 contracts", 3, Build.changed(least, 3, 5));
        faulty("no function", 4, Build.changed(least, 4, 0));
        faulty("11 functions", 4, Build.changed(least, 4, 11));
        faulty("5 parameters", 5, Build.changed(least, 5, 5));
        faulty("11 locals", 7, Build.changed(least, 7, 11));
        right("10 locals", Build.changed(least, 7, 10));
        faulty("no code", 8, Build.changed(least, 8, 0));
        faulty("241 bytes of code", 8, Build.changed(least, 8, 241));
        faulty("240 bytes of code that are not there", 10, Build.changed(least, 8, 240));
        faulty("fewer locals than parameters", 9, 83, 77, 0, 0, 1, 2, 0, 0, 255, 1, 1, 31);
        right("as many locals as parameters", 83, 77, 0, 0, 1, 2, 0, 0, 255, 2, 1, 31);
        faulty("a record without fields", 3, 83, 77, 1, 0, 0, 1, 0, 255, 0, 1, 31);
        faulty("a record of 7 fields", 3, 83, 77, 1, 7, 0, 0, 0, 0, 0, 0, 0, 0, 1, 0, 255, 0, 1, 31);
        right("a record of 6 fields", 83, 77, 1, 6, 0, 0, 0, 0, 0, 0, 0, 1, 0, 255, 0, 1, 31);
        faulty("a contract without states", 4, 83, 77, 0, 1, 0, 1, 0, 255, 0, 1, 31);
        faulty("a contract of 9 states", 4, 83, 77, 0, 1, 9);
        faulty("turn 3", 5, 83, 77, 0, 1, 1, 3, 1, 255, 0, 1, 0, 255, 0, 1, 31);
        faulty("nobody's turn, a message", 6, 83, 77, 0, 1, 1, 0, 1, 255, 0, 1, 0, 255, 0, 1, 31);
        right("nobody's turn", 83, 77, 0, 1, 1, 0, 0, 1, 0, 255, 0, 1, 31);
        faulty("the client's turn, no message", 6, 83, 77, 0, 1, 1, 1, 0, 1, 0, 255, 0, 1, 31);
        faulty("5 messages", 6, 83, 77, 0, 1, 1, 2, 5, 255, 0, 255, 0, 255, 0, 255, 0, 255, 0);
        right("4 messages", 83, 77, 0, 1, 1, 2, 4, 255, 0, 255, 0, 0, 0, 255, 0, 1, 0, 255, 0, 1, 31);
    }

    private static void types() {
        faulty("a field that is a block", 4, 83, 77, 1, 1, 4, 0, 0, 1, 0, 255, 0, 1, 31);
        faulty("a field that is an end", 4, 83, 77, 1, 1, 5, 0, 0, 0, 0, 1, 0, 255, 0, 1, 31);
        faulty("a field that is none", 4, 83, 77, 1, 1, 255, 0, 1, 0, 255, 0, 1, 31);
        faulty("a field of type 6", 4, 83, 77, 1, 1, 6, 0, 1, 0, 255, 0, 1, 31);
        for (int load = 1; load <= 3; load++) {
            faulty("a load of type " + load, 7, 83, 77, 0, 1, 1, 1, 1, load, 0, 0, 1, 0, 255, 0, 1, 31);
        }
        faulty("a load of type 6", 7, 83, 77, 0, 1, 1, 1, 1, 6, 0, 1, 0, 255, 0, 1, 31);
        faulty("a parameter that is none", 6, 83, 77, 0, 0, 1, 1, 255, 255, 1, 1, 31);
        faulty("a parameter of type 7", 6, 83, 77, 0, 0, 1, 1, 7, 255, 1, 1, 31);
        faulty("a result of type 6", 6, 83, 77, 0, 0, 1, 0, 6, 0, 1, 31);
        faulty("a result of type 254", 6, 83, 77, 0, 0, 1, 0, 254, 0, 1, 31);
        faulty("side 2", 12, 83, 77, 0, 1, 1, 0, 0, 1, 1, 5, 0, 0, 2, 255, 1, 1, 42);
        faulty("side 2 ahead of a contract that is not there", 9, 83, 77, 0, 0, 1, 1, 5, 9, 9, 2, 255, 1, 1, 42);
        right("an end", 83, 77, 0, 1, 1, 0, 0, 1, 1, 5, 0, 0, 1, 255, 1, 1, 42);
    }

    private static int[] coded(int locals, int... code) {
        return new Build().function(locals, new Code().op(code)).bytes();
    }

    private static void code() {
        faulty("no instruction", 9, coded(0, 44));
        faulty("no instruction, 255", 10, coded(0, 41, 255, 31));
        faulty("no instruction where none comes to", 10, coded(0, 31, 44));
        faulty("LOAD of a local that is none", 10, coded(2, Op.LOAD, 2));
        faulty("STORE to a local that is none", 10, coded(0, Op.STORE, 0));
        faulty("GET of field 6", 10, coded(0, Op.GET, 6));
        faulty("PUT of field 6", 10, coded(0, Op.PUT, 6));
        faulty("SEE of field 6", 10, coded(0, Op.SEE, 6));
        faulty("SET of field 255", 10, coded(0, Op.SET, 255));
        faulty("SEND of message 4", 10, coded(0, Op.SEND, 4));
        faulty("RECEIVE of no message", 10, coded(0, Op.RECEIVE, 0));
        faulty("RECEIVE of 5 messages", 10, coded(0, Op.RECEIVE, 5, 0, 0, 0, 0, 0));
        faulty("PUSH that does not end with the code", 12, coded(0, Op.PUSH, 0, 0));
        faulty("LOAD that does not end with the code", 10, coded(1, Op.LOAD));
        faulty("RECEIVE that does not end with the code", 12, coded(0, Op.RECEIVE, 2, 0));
        faulty("RECEIVE without a number", 10, coded(0, Op.RECEIVE));
        faulty("behind the code stands more", 12, Build.joined(coded(0, Op.PUSH, 0, 0), 0, 0, 31));
        faulty("the module ends first", 11, Build.first(coded(0, Op.PUSH, 0, 0), 11));
        fault("field 5 may be named", 2, 9, coded(0, Op.GET, 5, 31));
        fault("message 3 may be named", 2, 9, coded(0, Op.SEND, 3, 31));
        faulty("a shape ahead of a name", 11, coded(0, Op.NEW, 9, 44));
    }

    private static void names() {
        faulty("a field's record", 5, 83, 77, 1, 1, 1, 1, 0, 1, 0, 255, 0, 1, 31);
        right("a field of its own record", 83, 77, 1, 1, 1, 0, 0, 1, 0, 255, 0, 1, 31);
        faulty("a row's record", 5, 83, 77, 1, 1, 3, 7, 0, 1, 0, 255, 0, 1, 31);
        right("a record further on", 83, 77, 2, 1, 1, 1, 1, 0, 0, 1, 0, 255, 0, 1, 31);
        faulty("a state that comes next", 8, 83, 77, 0, 1, 1, 1, 1, 255, 1, 1, 0, 255, 0, 1, 31);
        faulty("a load's contract", 8, 83, 77, 0, 1, 1, 1, 1, 5, 1, 0, 0, 0, 1, 0, 255, 0, 1, 31);
        faulty("a load's state", 9, 83, 77, 0, 1, 1, 1, 1, 5, 0, 1, 0, 0, 1, 0, 255, 0, 1, 31);
        right("a load of a contract further on",
            83, 77, 0, 2, 1, 1, 1, 5, 1, 0, 0, 0, 1, 0, 0, 1, 0, 255, 0, 1, 31);
        faulty("a load's block", 8, 83, 77, 0, 1, 1, 1, 1, 4, 0, 0, 1, 0, 255, 0, 1, 31);
        faulty("a block of other fields", 11, 83, 77, 1, 2, 0, 2, 1, 1, 1, 1, 4, 0, 0, 1, 0, 255, 0, 1, 31);
        faulty("a parameter's record", 7, 83, 77, 0, 0, 1, 1, 1, 0, 255, 1, 1, 31);
        faulty("a parameter's contract", 7, 83, 77, 0, 0, 1, 1, 5, 0, 0, 0, 255, 1, 1, 42);
        faulty("a result's record", 7, 83, 77, 0, 0, 1, 0, 3, 0, 0, 1, 42);
        faulty("NEW", 10, coded(0, Op.NEW, 0, 31));
        faulty("ROWS", 10, coded(0, Op.ROWS, 0, 31));
        faulty("BLOCK", 10, coded(0, Op.BLOCK, 0, 31));
        faulty("CALL", 10, coded(0, Op.CALL, 1, 31));
        faulty("SPAWN", 10, coded(0, Op.SPAWN, 1, 31));
        faulty("CHANNEL", 10, coded(0, Op.CHANNEL, 0, 31));
        faulty("where none comes to", 11, coded(0, Op.RETURN, Op.CALL, 1));
        Build pointers = new Build().record(2, 0, 2).function(0, new Code().op(Op.EXIT, Op.BLOCK, 0));
        faulty("BLOCK of other fields", pointers.codeStart(0) + 2, pointers.bytes());
        faulty("the first name from the left", 10, coded(0, Op.CALL, 9, Op.NEW, 9));
        Build order = new Build().function(0, new Code().op(Op.POP)).function(0, new Code().op(Op.CALL, 2));
        faulty("a name ahead of what is not right", order.codeStart(1) + 1, order.bytes());
        Build second = new Build().function(0, RETURN).function(0, new Code().op(Op.POP, Op.RETURN));
        fault("the first function that is not right", 2, second.codeStart(1), second.bytes());
        Build both = new Build().function(0, new Code().op(Op.ADD)).function(0, new Code().op(Op.POP));
        fault("two that are not right", 2, both.codeStart(0), both.bytes());
    }

    private static void targets() {
        faulty("JUMP behind the code", 10, coded(0, Op.JUMP, 2));
        faulty("JUMP into an instruction", 10, coded(0, Op.JUMP, 1));
        faulty("ZERO into an instruction", 15, coded(0, Op.PUSH, 0, 0, 0, 0, Op.ZERO, 3, Op.RETURN));
        faulty("RECEIVE's second", 12, coded(0, Op.RECEIVE, 2, 4, 3, Op.RETURN));
        right("JUMP to itself", coded(0, Op.JUMP, 0));
        right("JUMP further on", coded(0, Op.JUMP, 3, Op.POP, Op.RETURN));
        faulty("JUMP to 255", 10, coded(0, Op.JUMP, 255));
    }
}
