import java.util.ArrayList;
import java.util.Collections;
import java.util.EnumSet;
import java.util.List;
import java.util.Set;

/** Promise 3, edges: what each instruction wants on the stack and leaves there, with every sort of type in every place. */
public final class RightEdgesTest {
    private static final Check CHECK = new Check("edges of what instructions want");
    private static final Set<Sample> INTS = EnumSet.of(Sample.INT);
    /** Stands for the place behind what is done. */
    private static final int BEHIND = -1;
    private static final Set<Sample> POINTERS_OR_NIL = EnumSet.range(Sample.NIL, Sample.ROWS_B);

    public static void main(String[] args) {
        moves();
        reckoning();
        nodes();
        putting();
        rows();
        items();
        laying();
        calls();
        returns();
        blocks();
        ends();
        sending();
        receiving();
        closing();
        spawning();
        others();
        CHECK.end();
    }

    private static List<Sample> stack(Sample... samples) {
        return List.of(samples);
    }

    /** Whether a function is right that has the samples on its stack, then does this, and then ends by EXIT. */
    private static SealedProcesses told(String what, boolean right, List<Sample> stack, int[] does, Sample.Functions called) {
        int[] ahead = called.put(stack);
        Code code = new Code().op(ahead);
        for (int one : does) {
            code.op(one == BEHIND ? ahead.length + does.length : one);
        }
        Build module = Sample.module(1, code.op(Op.EXIT), called);
        SealedProcesses x = new SealedProcesses();
        String all = what + " " + stack;
        CHECK.due(all, Build.load(x, module.bytes()), right ? 0 : -1);
        CHECK.due(all + ": fault", x.fault(0), right ? 0 : 2);
        CHECK.due(all + ": place", x.fault(1), right ? -1 : module.codeStart(0));
        return x;
    }

    private static void right(String what, List<Sample> stack, int... does) {
        told(what, true, stack, does, new Sample.Functions());
    }

    private static void wrong(String what, List<Sample> stack, int... does) {
        told(what, false, stack, does, new Sample.Functions());
    }

    /** What stands on the stack then: by its first bytes, and whether it can be taken as just that. */
    private static void gives(String what, List<Sample> stack, int[] does, Sample... then) {
        Sample.Functions called = new Sample.Functions();
        int place = called.put(stack).length + does.length;
        int top = Math.min(4, then.length);
        List<Sample> taken = List.of(then).subList(then.length - top, then.length);
        int[] all = does;
        if (!taken.contains(Sample.NIL)) {
            all = Build.joined(does, Op.CALL, called.taker(taken));
        }
        SealedProcesses x = told(what + " gives", true, stack, all, called);
        for (int i = 0; i < then.length; i++) {
            CHECK.due(what + " " + stack + ": stack place " + i, x.typeAt(0, 0, place, 0, i), then[i].kind());
        }
        CHECK.due(what + " " + stack + ": above it", x.typeAt(0, 0, place, 0, then.length), -1);
    }

    /** Each sample in each place, where the others are as they should be; and too few of them. */
    @SafeVarargs
    private static void wants(String what, int[] does, List<Sample> filled, Set<Sample>... allowed) {
        for (int i = 0; i < allowed.length; i++) {
            for (Sample sample : Sample.ALL) {
                List<Sample> stack = new ArrayList<>(filled);
                stack.set(i, sample);
                told(what, allowed[i].contains(sample), stack, does, new Sample.Functions());
            }
        }
        for (int left = 0; left < filled.size(); left++) {
            wrong(what + ", too few", filled.subList(filled.size() - left, filled.size()), does);
        }
    }

    private static int[] op(int... bytes) {
        return bytes;
    }

    private static void moves() {
        CHECK.sentence("0 PUSH K: an INT.  1 NIL: NIL.  2 LOAD l: what local l has .. 6 SWAP: the two highest");
        gives("PUSH", stack(Sample.ROW), op(Op.PUSH, 0, 0, 0, 1), Sample.ROW, Sample.INT);
        gives("NIL", stack(Sample.ROW), op(Op.NIL), Sample.ROW, Sample.NIL);
        wants("POP", op(Op.POP), stack(Sample.INT), Sample.PLAIN);
        wants("DUP", op(Op.DUP), stack(Sample.INT), Sample.PLAIN);
        wants("STORE", op(Op.STORE, 0), stack(Sample.INT), Sample.ALL);
        wants("SWAP", op(Op.SWAP), stack(Sample.INT, Sample.INT), Sample.ALL, Sample.ALL);
        for (Sample sample : Sample.ALL) {
            gives("STORE, LOAD", stack(Sample.ROW, sample), op(Op.STORE, 0, Op.LOAD, 0), Sample.ROW, sample);
            gives("STORE", stack(Sample.ROW, sample), op(Op.STORE, 0), Sample.ROW);
            gives("SWAP", stack(sample, Sample.ROW), op(Op.SWAP), Sample.ROW, sample);
            told("LOAD twice", !sample.isLinear(), stack(sample), op(Op.STORE, 0, Op.LOAD, 0, Op.LOAD, 0), new Sample.Functions());
            told("STORE twice", !sample.isLinear(), stack(Sample.INT, sample), op(Op.STORE, 0, Op.STORE, 0), new Sample.Functions());
            right("STORE where it was", stack(Sample.INT, sample), Op.STORE, 0, Op.LOAD, 0, Op.SWAP, Op.STORE, 0);
            if (!sample.isLinear()) {
                gives("DUP", stack(Sample.ROW, sample), op(Op.DUP), Sample.ROW, sample, sample);
                gives("POP", stack(Sample.ROW, sample), op(Op.POP), Sample.ROW);
            }
        }
        CHECK.sentence("LOAD of EMPTY is wrong");
        wrong("LOAD of what was never stored", stack(), Op.LOAD, 0);
        right("LOAD of what was stored", stack(Sample.INT), Op.STORE, 0, Op.LOAD, 0);
    }

    private static void reckoning() {
        CHECK.sentence("7 ADD .. 18 SAME: two INTs become one; 19 NONE: whether a node or row is NIL; 21 ZERO T: an INT goes");
        for (int op = Op.ADD; op <= Op.SAME; op++) {
            wants("instruction " + op, op(op), stack(Sample.INT, Sample.INT), INTS, INTS);
            gives("instruction " + op, stack(Sample.ROW, Sample.INT, Sample.INT), op(op), Sample.ROW, Sample.INT);
        }
        wants("NONE", op(Op.NONE), stack(Sample.ROW), POINTERS_OR_NIL);
        gives("NONE", stack(Sample.ROW, Sample.NODE_A), op(Op.NONE), Sample.ROW, Sample.INT);
        wants("ZERO", op(Op.ZERO, BEHIND), stack(Sample.INT), INTS);
    }

    private static final Sample[] FIELDS_OF_A = {Sample.INT, Sample.NODE_A, Sample.ROW, Sample.ROWS_B, Sample.NODE_B, Sample.INT};

    private static void nodes() {
        CHECK.sentence("22 NEW r: a node; 23 GET f: a node becomes its field f; of GET .. a node; or just NIL");
        gives("NEW 0", stack(Sample.ROW), op(Op.NEW, 0), Sample.ROW, Sample.NODE_A);
        gives("NEW 1", stack(Sample.ROW), op(Op.NEW, 1), Sample.ROW, Sample.NODE_B);
        Set<Sample> any = EnumSet.of(Sample.NIL, Sample.NODE_A, Sample.NODE_B);
        Set<Sample> ofSix = EnumSet.of(Sample.NIL, Sample.NODE_A);
        for (int f = 0; f < 6; f++) {
            wants("GET " + f, op(Op.GET, f), stack(Sample.NODE_A), f == 0 ? any : ofSix);
            gives("GET " + f, stack(Sample.ROW, Sample.NODE_A), op(Op.GET, f), Sample.ROW, FIELDS_OF_A[f]);
        }
    }

    private static void putting() {
        CHECK.sentence("24 PUT f: a node and a value: its field f; a value for a place of type 1, 2, 3 is of that type, or NIL; "
            + "a value for [NIL] may be anything");
        for (int f = 0; f < 6; f++) {
            Set<Sample> values = EnumSet.of(FIELDS_OF_A[f]);
            if (FIELDS_OF_A[f].isPointer()) {
                values.add(Sample.NIL);
            }
            Set<Sample> nodes = f == 0 ? EnumSet.of(Sample.NIL, Sample.NODE_A, Sample.NODE_B) : EnumSet.of(Sample.NIL, Sample.NODE_A);
            wants("PUT " + f, op(Op.PUT, f), stack(Sample.NODE_A, FIELDS_OF_A[f]), nodes, values);
            gives("PUT " + f, stack(Sample.ROW, Sample.NODE_A, FIELDS_OF_A[f]), op(Op.PUT, f), Sample.ROW);
            for (Sample value : Sample.ALL) {
                right("PUT " + f + " to NIL", stack(Sample.NIL, value), Op.PUT, f);
            }
            wrong("PUT " + f + " to NIL of nothing", stack(Sample.NIL), Op.PUT, f);
        }
    }

    private static void rows() {
        CHECK.sentence("25 ROW: an INT n becomes a row; 26 ROWS r: likewise of nodes; 27 LENGTH: a row becomes an INT; of LENGTH .. a row; or just NIL");
        wants("ROW", op(Op.ROW), stack(Sample.INT), INTS);
        wants("ROWS", op(Op.ROWS, 0), stack(Sample.INT), INTS);
        gives("ROW", stack(Sample.NODE_A, Sample.INT), op(Op.ROW), Sample.NODE_A, Sample.ROW);
        gives("ROWS 0", stack(Sample.NODE_A, Sample.INT), op(Op.ROWS, 0), Sample.NODE_A, Sample.ROWS_A);
        gives("ROWS 1", stack(Sample.NODE_A, Sample.INT), op(Op.ROWS, 1), Sample.NODE_A, Sample.ROWS_B);
        Set<Sample> rows = EnumSet.of(Sample.NIL, Sample.ROW, Sample.ROWS_A, Sample.ROWS_B);
        wants("LENGTH", op(Op.LENGTH), stack(Sample.ROW), rows);
        for (Sample row : new Sample[] {Sample.ROW, Sample.ROWS_A, Sample.ROWS_B}) {
            gives("LENGTH", stack(Sample.NODE_A, row), op(Op.LENGTH), Sample.NODE_A, Sample.INT);
        }
    }

    private static void items() {
        CHECK.sentence("28 TAKE: a row and an INT become that one of its items");
        Set<Sample> rows = EnumSet.of(Sample.NIL, Sample.ROW, Sample.ROWS_A, Sample.ROWS_B);
        wants("TAKE", op(Op.TAKE), stack(Sample.ROW, Sample.INT), rows, INTS);
        gives("TAKE", stack(Sample.NODE_A, Sample.ROW, Sample.INT), op(Op.TAKE), Sample.NODE_A, Sample.INT);
        gives("TAKE", stack(Sample.ROW, Sample.ROWS_A, Sample.INT), op(Op.TAKE), Sample.ROW, Sample.NODE_A);
        gives("TAKE", stack(Sample.ROW, Sample.ROWS_B, Sample.INT), op(Op.TAKE), Sample.ROW, Sample.NODE_B);
    }

    private static void laying() {
        CHECK.sentence("29 LAY: a row, an INT and a value: that item; of .. LAY a row; or just NIL: .. and a value for it may be anything");
        Sample[] rows = {Sample.ROW, Sample.ROWS_A, Sample.ROWS_B};
        Sample[] items = {Sample.INT, Sample.NODE_A, Sample.NODE_B};
        for (int i = 0; i < rows.length; i++) {
            Set<Sample> values = EnumSet.of(items[i]);
            if (items[i].isPointer()) {
                values.add(Sample.NIL);
            }
            wants("LAY", op(Op.LAY), stack(rows[i], Sample.INT, items[i]), EnumSet.of(Sample.NIL, rows[i]), INTS, values);
            gives("LAY", stack(Sample.NODE_A, rows[i], Sample.INT, items[i]), op(Op.LAY), Sample.NODE_A);
        }
        for (Sample value : Sample.ALL) {
            right("LAY to NIL", stack(Sample.NIL, Sample.INT, value), Op.LAY);
        }
        right("LAY of NIL to rows", stack(Sample.ROWS_A, Sample.INT, Sample.NIL), Op.LAY);
        right("LAY of NIL to rows", stack(Sample.ROWS_B, Sample.INT, Sample.NIL), Op.LAY);
    }

    private static void calls() {
        CHECK.sentence("30 CALL f: the parameters become the result, if there is one");
        for (Sample wanted : Sample.ALL) {
            if (wanted == Sample.NIL) {
                continue;
            }
            for (Sample sample : Sample.ALL) {
                Sample.Functions called = new Sample.Functions();
                int f = called.taker(stack(Sample.INT, wanted, Sample.ROW));
                told("CALL with " + wanted, sample.fits(wanted), stack(Sample.INT, sample, Sample.ROW), op(Op.CALL, f), called);
            }
        }
        Sample.Functions called = new Sample.Functions();
        List<Sample> four = stack(Sample.INT, Sample.NODE_B, Sample.BLOCK_C, Sample.SERVER_3);
        int f = called.taker(four);
        for (int left = 0; left <= 4; left++) {
            told("CALL with too few", left == 4, four.subList(4 - left, 4), op(Op.CALL, f), called);
        }
        List<Sample> turned = new ArrayList<>(four);
        Collections.reverse(turned);
        told("CALL in another order", false, turned, op(Op.CALL, f), called);
    }

    /** A function of each result, and none: RETURN with each sample. */
    private static void returns() {
        CHECK.sentence("31 RETURN: just the result is on the stack, if there is one; no local has anything linear");
        Code exit = new Code().op(Op.EXIT);
        for (Sample wanted : Sample.ALL) {
            int[] result = wanted == Sample.NIL ? new int[] {Op.NOTHING} : wanted.bytes;
            for (Sample sample : Sample.ALL) {
                Code load = new Code().op(Op.CALL, 1, Op.RETURN);
                Code one = sample == Sample.NIL ? new Code().op(Op.NIL, Op.RETURN) : load;
                int[] given = sample == Sample.NIL ? Sample.INT.bytes : sample.bytes;
                Build module = Sample.declarations().function(0, Build.types(), result, 0, one).function(0, Build.types(), given, 0, exit);
                SealedProcesses x = new SealedProcesses();
                boolean right = wanted != Sample.NIL && sample.fits(wanted);
                CHECK.due("RETURN of " + sample + " for " + wanted, Build.load(x, module.bytes()), right ? 0 : -1);
                CHECK.due("its fault", x.fault(0), right ? 0 : 2);
            }
            Build none = Sample.declarations().function(0, Build.types(), result, 0, new Code().op(Op.RETURN));
            CHECK.due("RETURN of none for " + wanted, Build.load(new SealedProcesses(), none.bytes()), wanted == Sample.NIL ? 0 : -1);
            Build two = Sample.declarations().function(0, Build.types(), result, 0, new Code().op(Op.NIL, Op.CALL, 1, Op.RETURN))
                .function(0, Build.types(), wanted == Sample.NIL ? Sample.INT.bytes : wanted.bytes, 0, exit);
            CHECK.due("RETURN of two for " + wanted, Build.load(new SealedProcesses(), two.bytes()), -1);
        }
        for (Sample sample : Sample.ALL) {
            told("RETURN with a local", !sample.isLinear(), stack(sample), op(Op.STORE, 0, Op.RETURN), new Sample.Functions());
            right("EXIT with a local", stack(sample), Op.STORE, 0, Op.EXIT);
        }
        Build last = Sample.declarations().function(10, new Code().op(Op.BLOCK, 1, Op.STORE, 9, Op.RETURN));
        CHECK.due("RETURN with a block in the last local", Build.load(new SealedProcesses(), last.bytes()), -1);
    }

    private static void blocks() {
        CHECK.sentence("32 BLOCK r: a block; 33 SEE f: a block stays, its field f comes; 34 SET f: a block stays, an INT .. goes; 35 FREE: a block goes");
        gives("BLOCK 1", stack(Sample.ROW), op(Op.BLOCK, 1), Sample.ROW, Sample.BLOCK_B);
        gives("BLOCK 2", stack(Sample.ROW), op(Op.BLOCK, 2), Sample.ROW, Sample.BLOCK_C);
        wants("SEE 0", op(Op.SEE, 0), stack(Sample.BLOCK_B), Sample.BLOCKS);
        wants("SEE 1", op(Op.SEE, 1), stack(Sample.BLOCK_C), EnumSet.of(Sample.BLOCK_C));
        wants("SET 0", op(Op.SET, 0), stack(Sample.BLOCK_B, Sample.INT), Sample.BLOCKS, INTS);
        wants("SET 1", op(Op.SET, 1), stack(Sample.BLOCK_C, Sample.INT), EnumSet.of(Sample.BLOCK_C), INTS);
        for (int f = 2; f <= 5; f++) {
            for (Sample block : Sample.BLOCKS) {
                wrong("SEE " + f, stack(block), Op.SEE, f);
                wrong("SET " + f, stack(block, Sample.INT), Op.SET, f);
            }
        }
        wants("FREE", op(Op.FREE), stack(Sample.BLOCK_B), Sample.BLOCKS);
        gives("SEE", stack(Sample.ROW, Sample.BLOCK_C), op(Op.SEE, 1), Sample.ROW, Sample.BLOCK_C, Sample.INT);
        gives("SET", stack(Sample.ROW, Sample.BLOCK_C, Sample.INT), op(Op.SET, 1), Sample.ROW, Sample.BLOCK_C);
        gives("FREE", stack(Sample.ROW, Sample.BLOCK_C), op(Op.FREE), Sample.ROW);
    }

    private static void ends() {
        CHECK.sentence("36 CHANNEL c: a channel: its client's end, then its server's, both in state 0");
        gives("CHANNEL 0", stack(Sample.ROW), op(Op.CHANNEL, 0), Sample.ROW, Sample.CLIENT_0, Sample.SERVER_0);
        gives("CHANNEL 1", stack(Sample.ROW), op(Op.CHANNEL, 1), Sample.ROW, Sample.OTHER_CLIENT, Sample.OTHER_SERVER);
    }

    /** The load of message t, when the sample is an end whose turn it is, and has such a message: else null; NIL: none. */
    private static Sample load(Sample end, int t) {
        Sample[] ofClient = {Sample.NIL, Sample.INT, Sample.BLOCK_B, Sample.OTHER_CLIENT};
        if (end == Sample.CLIENT_0) {
            return ofClient[t];
        }
        if (end == Sample.SERVER_1) {
            return t == 0 ? Sample.NIL : null;
        }
        if (end == Sample.SERVER_3) {
            return t == 0 ? Sample.INT : t == 1 ? Sample.NIL : null;
        }
        return null;
    }

    private static Sample then(Sample end, int t) {
        Sample[] ofClient = {Sample.CLIENT_1, Sample.CLIENT_1, Sample.CLIENT_2, Sample.CLIENT_3};
        if (end == Sample.CLIENT_0) {
            return ofClient[t];
        }
        return end == Sample.SERVER_1 || t == 0 ? Sample.SERVER_0 : Sample.SERVER_2;
    }

    /** Each two samples, and each message. */
    private static void sending() {
        CHECK.sentence("37 SEND t: an end whose turn it is, and above it the load of message t of its state, if that has one: the end in the state then. "
            + "(The highest is the end if it is an end whose turn it is, with a message t without a load; else it is the load.)");
        for (int t = 0; t <= 3; t++) {
            for (Sample top : Sample.ALL) {
                boolean bare = load(top, t) == Sample.NIL;
                told("SEND " + t, bare, stack(top), op(Op.SEND, t), new Sample.Functions());
                for (Sample below : Sample.ALL) {
                    boolean loaded = !bare && top != Sample.NIL && load(below, t) == top;
                    if (bare) {
                        gives("SEND " + t, stack(below, top), op(Op.SEND, t), below, then(top, t));
                    } else if (loaded) {
                        gives("SEND " + t, stack(Sample.ROW, below, top), op(Op.SEND, t), Sample.ROW, then(below, t));
                    } else {
                        wrong("SEND " + t, stack(below, top), Op.SEND, t);
                    }
                }
            }
        }
    }

    /** RECEIVE of n messages, each of which goes on to an EXIT of its own. */
    private static void receiving() {
        CHECK.sentence("38 RECEIVE n T ..: an end whose state is the other side's turn, of n messages: when one comes, it is the end in the state then, "
            + "and above it the load, if there is one; on to the T of that message");
        for (int n = 1; n <= 4; n++) {
            for (Sample end : Sample.ALL) {
                int due = end == Sample.SERVER_0 ? 4 : end == Sample.CLIENT_1 ? 1 : end == Sample.CLIENT_3 ? 2 : 0;
                receive(end, n, n == due);
            }
        }
        wrong("RECEIVE of nothing", stack(), Op.RECEIVE, 1, 3);
        received(Sample.SERVER_0, new Sample[][] {{Sample.SERVER_1}, {Sample.SERVER_1, Sample.INT}, {Sample.SERVER_2, Sample.BLOCK_B}, {Sample.SERVER_3, Sample.OTHER_CLIENT}});
        received(Sample.CLIENT_1, new Sample[][] {{Sample.CLIENT_0}});
        received(Sample.CLIENT_3, new Sample[][] {{Sample.CLIENT_0, Sample.INT}, {Sample.CLIENT_2}});
    }

    private static void receive(Sample end, int n, boolean right) {
        Sample.Functions called = new Sample.Functions();
        int ahead = called.put(stack(end)).length;
        int[] does = {Op.RECEIVE, n};
        for (int i = 0; i < n; i++) {
            does = Build.joined(does, ahead + 2 + n + i);
        }
        for (int i = 0; i < n; i++) {
            does = Build.joined(does, Op.EXIT);
        }
        told("RECEIVE " + n, right, stack(end), does, called);
    }

    /** At each T a function takes just what is due there. */
    private static void received(Sample end, Sample[][] due) {
        Sample.Functions called = new Sample.Functions();
        int n = due.length;
        int first = called.put(stack(Sample.ROW, end)).length + 2 + n;
        int[] does = {Op.RECEIVE, n};
        for (int i = 0; i < n; i++) {
            does = Build.joined(does, first + 3 * i);
        }
        for (int i = 0; i < n; i++) {
            does = Build.joined(does, Op.CALL, called.taker(List.of(due[i])), Op.EXIT);
        }
        SealedProcesses x = told("RECEIVE " + n + " gives", true, stack(Sample.ROW, end), does, called);
        for (int i = 0; i < n; i++) {
            CHECK.due("at T " + i + ", below", x.typeAt(0, 0, first + 3 * i, 0, 0), 2);
            CHECK.due("at T " + i + ", the end", x.typeAt(0, 0, first + 3 * i, 0, 1), 5);
            CHECK.due("at T " + i + ", the load", x.typeAt(0, 0, first + 3 * i, 0, 2), due[i].length > 1 ? due[i][1].kind() : -1);
            CHECK.due("at T " + i + ", above", x.typeAt(0, 0, first + 3 * i, 0, 3), -1);
        }
    }

    private static void closing() {
        CHECK.sentence("39 CLOSE: an end in a state that is nobody's turn goes");
        Set<Sample> closed = EnumSet.of(Sample.CLIENT_2, Sample.SERVER_2, Sample.OTHER_CLIENT, Sample.OTHER_SERVER);
        wants("CLOSE", op(Op.CLOSE), stack(Sample.CLIENT_2), closed);
        gives("CLOSE", stack(Sample.ROW, Sample.CLIENT_2), op(Op.CLOSE), Sample.ROW);
    }

    private static void spawning() {
        CHECK.sentence("40 SPAWN f: the parameters, none of types 1 to 3, go; f has no result");
        for (Sample wanted : Sample.ALL) {
            for (Sample sample : Sample.ALL) {
                Sample.Functions called = new Sample.Functions();
                if (wanted != Sample.NIL) {
                    int f = called.taker(stack(Sample.INT, wanted));
                    boolean right = sample == wanted && !wanted.isPointer();
                    told("SPAWN with " + wanted, right, stack(Sample.INT, sample), op(Op.SPAWN, f), called);
                }
            }
            Sample.Functions called = new Sample.Functions();
            if (wanted != Sample.NIL) {
                told("SPAWN of one with a result", false, stack(), op(Op.SPAWN, called.giver(wanted)), called);
            }
        }
        Sample.Functions called = new Sample.Functions();
        List<Sample> four = stack(Sample.INT, Sample.BLOCK_B, Sample.BLOCK_C, Sample.SERVER_3);
        int f = called.taker(four);
        for (int left = 0; left <= 4; left++) {
            told("SPAWN with too few", left == 4, four.subList(4 - left, 4), op(Op.SPAWN, f), called);
        }
        for (int place = 0; place < 4; place++) {
            Sample.Functions more = new Sample.Functions();
            List<Sample> pointer = new ArrayList<>(four);
            pointer.set(place, Sample.ROW);
            told("SPAWN with a row among them", false, pointer, op(Op.SPAWN, more.taker(pointer)), more);
        }
    }

    private static void others() {
        CHECK.sentence("41 YIELD.  42 EXIT.  43 OUT: an INT goes; EXIT may leave anything");
        wants("OUT", op(Op.OUT), stack(Sample.INT), INTS);
        gives("OUT", stack(Sample.ROW, Sample.INT), op(Op.OUT), Sample.ROW);
        for (Sample sample : Sample.ALL) {
            gives("YIELD", stack(Sample.ROW, sample), op(Op.YIELD), Sample.ROW, sample);
            right("EXIT", stack(sample, sample), Op.EXIT);
        }
    }
}
