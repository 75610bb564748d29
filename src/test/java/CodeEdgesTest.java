/** Promise 3, edges: instructions, the numbers in them, and how they end with the code. */
public final class CodeEdgesTest {
    private static final Check CHECK = new Check("edges of code");
    private static final Loads LOADS = new Loads(CHECK);
    /** Where the code begins in the modules here. */
    private static final int START = 9;
    /** All that stands behind EXIT is decoded, but nothing comes to it. */
    private static final int[] NOTHING = {};

    public static void main(String[] args) {
        instructions();
        constants();
        localsThatAreNone();
        fields();
        messagesOfSend();
        messagesOfReceive();
        notEnded();
        endedByTheModule();
        targets();
        targetsOfReceive();
        order();
        CHECK.end();
    }

    /** A module whose one function has as many locals, and this code. */
    private static int[] coded(int locals, int... code) {
        return new Build().function(locals, new Code().op(code)).bytes();
    }

    /** The same instruction where none comes to, and RETURN behind it. */
    private static int[] behindExit(int locals, int... instruction) {
        return coded(locals, Build.joined(Build.joined(new int[] {Op.EXIT}, instruction), Op.RETURN));
    }

    /** What may stand behind an instruction's first byte, in a function of ten locals. */
    private static int[] operands(int op) {
        switch (op) {
            case Op.PUSH: return new int[] {255, 0, 128, 1};
            case Op.LOAD: case Op.STORE: return new int[] {9};
            case Op.GET: case Op.PUT: case Op.SEE: case Op.SET: return new int[] {5};
            case Op.SEND: return new int[] {3};
            case Op.RECEIVE: return new int[] {4, 0, 0, 0, 0};
            case Op.JUMP: case Op.ZERO: case Op.NEW: case Op.ROWS: case Op.CALL: case Op.BLOCK: case Op.CHANNEL: case Op.SPAWN:
                return new int[] {0};
            default: return NOTHING;
        }
    }

    /** A module with a record of INTs, a contract, and the code, which begins at byte 14. */
    private static int[] named(int... code) {
        return new Build().record(1, 0).contract(1, 0, 0).function(10, new Code().op(code)).bytes();
    }

    private static void instructions() {
        CHECK.sentence("in code a byte that is no instruction (0 PUSH to 43 OUT)");
        for (int op = 0; op <= 43; op++) {
            int[] one = Build.joined(new int[] {Op.EXIT, op}, operands(op));
            LOADS.right("instruction " + op, named(Build.joined(one, Op.EXIT)));
        }
        for (int op = 44; op < 256; op++) {
            LOADS.faulty("instruction " + op, START, coded(10, op));
            LOADS.faulty("instruction " + op + ", where none comes to", START + 1, behindExit(10, op));
        }
        // The bytes behind each instruction's first belong to it: 44 would be none.
        for (int op = 0; op <= 43; op++) {
            int[] two = Build.joined(Build.joined(new int[] {Op.EXIT, op}, operands(op)), 44);
            LOADS.faulty("behind instruction " + op, 14 + two.length - 1, named(two));
        }
    }

    private static void constants() {
        CHECK.sentence("In them numbers are one byte (0 to 255), K are four, the highest first, with a sign");
        int[] numbers = {0, 1, -1, 127, 128, 255, 256, -128, -129, 32767, 32768, 65535, 65536, 8388607, 8388608, 16777215, 16777216,
            0x01020304, 0x80FF7F00, Integer.MAX_VALUE, Integer.MIN_VALUE, Integer.MIN_VALUE + 1};
        for (int number : numbers) {
            SealedProcesses x = Build.booted(new Build().function(0, new Code().push(number).op(Op.OUT, Op.RETURN)), 0);
            x.run(2);
            CHECK.due("PUSH " + number, x.output(0, 1), number);
        }
    }

    private static void localsThatAreNone() {
        CHECK.sentence("a local that is none");
        for (int locals : new int[] {0, 1, 2, 9, 10}) {
            for (int l : new int[] {0, 1, 2, 8, 9, 10, 11, 255}) {
                LOADS.told("LOAD " + l + " of " + locals, l < locals, START + 2, behindExit(locals, Op.LOAD, l));
                LOADS.told("STORE " + l + " of " + locals, l < locals, START + 2, behindExit(locals, Op.STORE, l));
            }
        }
        Build two = new Build().function(10, new Code().op(Op.EXIT)).function(1, new Code().op(Op.EXIT, Op.LOAD, 1));
        LOADS.faulty("a local of another function", two.codeStart(1) + 2, two.bytes());
    }

    private static void fields() {
        CHECK.sentence("of GET, PUT, SEE, SET an f above 5");
        for (int op : new int[] {Op.GET, Op.PUT, Op.SEE, Op.SET}) {
            for (int f : new int[] {0, 4, 5, 6, 7, 255}) {
                LOADS.told("instruction " + op + ", field " + f, f <= 5, START + 2, behindExit(0, op, f));
            }
        }
    }

    private static void messagesOfSend() {
        CHECK.sentence("of SEND a t above 3");
        for (int t : new int[] {0, 2, 3, 4, 5, 255}) {
            LOADS.told("SEND " + t, t <= 3, START + 2, behindExit(0, Op.SEND, t));
        }
    }

    private static void messagesOfReceive() {
        CHECK.sentence("of RECEIVE n not 1 to 4");
        for (int n : new int[] {0, 1, 2, 3, 4, 5, 6, 255}) {
            int[] receive = Build.joined(new int[] {Op.RECEIVE, n}, new int[Math.min(n, 6)]);
            LOADS.told("RECEIVE " + n, n >= 1 && n <= 4, START + 2, behindExit(0, receive));
        }
    }

    /** Cut at each byte: the module has another function behind, whose bytes would do as numbers. */
    private static void notEnded() {
        CHECK.sentence("an instruction that does not end with the code: the byte behind the code");
        for (int op = 0; op <= 43; op++) {
            int[] whole = Build.joined(new int[] {Op.EXIT, op}, operands(op));
            for (int length = 2; length < whole.length; length++) {
                Build two = new Build().record(1, 0).contract(1, 0, 0)
                    .function(10, new Code().op(Build.first(whole, length))).function(0, new Code().op(Op.RETURN));
                LOADS.faulty("the first " + length + " bytes with instruction " + op, two.codeStart(0) + length, two.bytes());
            }
            LOADS.right("all bytes of instruction " + op, new Build().record(1, 0).contract(1, 0, 0)
                .function(10, new Code().op(whole)).function(0, new Code().op(Op.RETURN)).bytes());
        }
        int[] full = new Code().op(Op.EXIT).times(238, Op.YIELD).op(Op.LOAD).bytes();
        LOADS.faulty("at 240 bytes", START + 240, coded(1, full));
    }

    private static void endedByTheModule() {
        CHECK.sentence("the first byte with which no module goes on, or the end (within an instruction)");
        for (int op = 0; op <= 43; op++) {
            int[] code = Build.joined(Build.joined(new int[] {Op.EXIT, op}, operands(op)), Op.EXIT);
            int[] whole = named(code);
            for (int n = whole.length - code.length; n < whole.length; n++) {
                LOADS.faulty("the first " + n + " bytes with instruction " + op, n, Build.first(whole, n));
            }
        }
    }

    /** Each byte of some code as a T: there an instruction begins, or not. */
    private static void targets() {
        CHECK.sentence("T is a byte of the code where an instruction begins");
        int[] code = {Op.EXIT, Op.JUMP, 0, Op.PUSH, 31, 31, 31, 31, Op.RECEIVE, 2, 0, 0, Op.LOAD, 0, Op.RETURN};
        boolean[] begins = new boolean[256];
        for (int place : new int[] {0, 1, 3, 8, 12, 14}) {
            begins[place] = true;
        }
        for (int op : new int[] {Op.JUMP, Op.ZERO}) {
            for (int t = 0; t < 256; t++) {
                LOADS.told("instruction " + op + " to " + t, begins[t], START + 2, coded(1, Build.changed(Build.changed(code, 1, op), 2, t)));
            }
        }
        // In the longest code the last byte is 239.
        int[] longest = new Code().op(Op.JUMP, 239).times(237, Op.YIELD).op(Op.EXIT).bytes();
        LOADS.right("JUMP to 239", coded(0, longest));
        for (int t : new int[] {240, 241, 255}) {
            LOADS.faulty("JUMP to " + t, START + 1, coded(0, Build.changed(longest, 1, t)));
        }
        LOADS.right("JUMP to itself", coded(0, Op.JUMP, 0));
        LOADS.faulty("JUMP into itself", START + 1, coded(0, Op.JUMP, 1));
        LOADS.faulty("JUMP to the byte behind the code", START + 1, coded(0, Op.JUMP, 2));
        Build two = new Build().function(0, new Code().op(Op.JUMP, 3, Op.EXIT)).function(0, new Code().times(9, Op.EXIT));
        LOADS.faulty("JUMP to a byte of the next function", two.codeStart(0) + 1, two.bytes());
    }

    private static void targetsOfReceive() {
        CHECK.sentence("RECEIVE n T .. (n of them): each T is there");
        for (int n = 1; n <= 4; n++) {
            int[] whole = Build.joined(Build.joined(new int[] {Op.RECEIVE, n}, new int[n]), Op.RETURN);
            for (int i = 0; i < n; i++) {
                for (int t : new int[] {0, 1, n + 1, n + 2, n + 3, n + 4, 255}) {
                    boolean there = t == 0 || t == 1 || t == n + 3;
                    int[] code = Build.joined(new int[] {Op.EXIT}, Build.changed(whole, 2 + i, t));
                    LOADS.told("T " + i + " of " + n + " is " + t, there, START + 3 + i, coded(0, code));
                }
            }
        }
    }

    private static void order() {
        CHECK.sentence("FAULTS: 1 ..: the first byte with which no module goes on, or the end; If there is none: 1 at the first byte that names "
            + "what is not there; If there is none: 2, .. the first function that is not RIGHT");
        Build all = new Build().function(0, new Code().op(Op.POP)).function(0, new Code().op(Op.CALL, 9)).function(0, new Code().op(Op.EXIT, 44));
        LOADS.faulty("a byte of the third", all.codeStart(2) + 1, all.bytes());
        Build names = new Build().function(0, new Code().op(Op.POP)).function(0, new Code().op(Op.CALL, 9)).function(0, new Code().op(Op.CALL, 8));
        LOADS.faulty("a name of the second", names.codeStart(1) + 1, names.bytes());
        LOADS.faulty("a name, and the module ends too early", names.bytes().length - 1, Build.first(names.bytes(), names.bytes().length - 1));
        LOADS.faulty("a name, and one byte too many", names.bytes().length, Build.joined(names.bytes(), 0));
        Build wrong = new Build().function(0, new Code().op(Op.EXIT)).function(0, new Code().op(Op.POP)).function(0, new Code().op(Op.ADD));
        LOADS.wrong("the second of three", wrong.codeStart(1), wrong.bytes());
        Build last = new Build().function(0, new Code().op(Op.EXIT)).function(0, new Code().op(Op.EXIT)).function(0, new Code().op(Op.ADD));
        LOADS.wrong("the third of three", last.codeStart(2), last.bytes());
        Build first = new Build().function(0, new Code().op(Op.OUT)).function(0, new Code().op(Op.POP)).function(0, new Code().op(Op.ADD));
        LOADS.wrong("the first of three", first.codeStart(0), first.bytes());
    }
}
