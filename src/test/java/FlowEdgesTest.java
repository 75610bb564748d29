import java.util.List;

/** Promises 3 and 7, edges: what comes to instructions, where it goes on, how much a stack holds, and how ways are joined. */
public final class FlowEdgesTest {
    private static final Check CHECK = new Check("edges of flow");
    private static final int[] NONE = {255};
    private static final int EMPTY = 7;

    public static void main(String[] args) {
        first();
        behindTheLast();
        trapsGoNowhere();
        notComeTo();
        sixteen();
        sixteenByOthers();
        heights();
        stacksJoined();
        localsJoined();
        threeJoined();
        tillNothingChanges();
        longWays();
        longRounds();
        oneBehindAnother();
        CHECK.end();
    }

    private static Code code() {
        return new Code();
    }

    private static SealedProcesses told(String what, boolean right, Build module) {
        SealedProcesses x = new SealedProcesses();
        CHECK.due(what, Build.load(x, module.bytes()), right ? 0 : -1);
        CHECK.due(what + ": fault", x.fault(0), right ? 0 : 2);
        CHECK.due(what + ": place", x.fault(1), right ? -1 : module.codeStart(0));
        return x;
    }

    private static SealedProcesses told(String what, boolean right, int locals, Code code) {
        return told(what, right, Sample.declarations().function(locals, code));
    }

    private static void first() {
        CHECK.sentence("To the first instruction comes an empty stack, parameters in their locals, the others EMPTY");
        for (Sample sample : Sample.ALL) {
            if (sample != Sample.NIL) {
                int[] types = Build.joined(Build.joined(new int[] {0}, sample.bytes), 0);
                SealedProcesses x = told("a parameter " + sample, true,
                    Sample.declarations().function(3, types, NONE, 10, code().op(Op.LOAD, 1, Op.EXIT)));
                CHECK.due("no stack", x.typeAt(0, 0, 0, 0, 0), -1);
                CHECK.due("local 0", x.typeAt(0, 0, 0, 1, 0), 0);
                CHECK.due("local 1", x.typeAt(0, 0, 0, 1, 1), sample.kind());
                CHECK.due("local 2", x.typeAt(0, 0, 0, 1, 2), 0);
                for (int l = 3; l < 10; l++) {
                    CHECK.due("local " + l, x.typeAt(0, 0, 0, 1, l), EMPTY);
                }
                CHECK.due("no local 10", x.typeAt(0, 0, 0, 1, 10), -1);
                CHECK.due("loaded", x.typeAt(0, 0, 2, 0, 0), sample.kind());
            }
        }
        int[] four = {0, 4, 1, 5, 0, 0, 1, 2};
        for (int l = 0; l < 10; l++) {
            told("LOAD " + l + " of four parameters", l < 4, Sample.declarations().function(4, four, NONE, 10, code().op(Op.LOAD, l, Op.EXIT)));
        }
    }

    /** Code in which the last instruction is each of all, with what it wants ahead of it. */
    private static void behindTheLast() {
        CHECK.sentence("go on .. to the next one (but JUMP, RETURN, EXIT, RECEIVE), and to its T's (behind the last one there is none to come to: wrong)");
        Code[] goOn = {code().push(1), code().op(Op.NIL), code().push(1).op(Op.STORE, 0), code().push(1).op(Op.STORE, 0, Op.LOAD, 0),
            code().op(Op.NIL, Op.POP), code().op(Op.NIL, Op.DUP), code().op(Op.NIL, Op.NIL, Op.SWAP), code().op(Op.NIL, Op.NONE),
            code().label("a").push(1).zero("a"), code().op(Op.NEW, 0), code().op(Op.NEW, 0, Op.GET, 0), code().op(Op.NEW, 0, Op.NIL, Op.PUT, 1),
            code().push(1).op(Op.ROW), code().push(1).op(Op.ROWS, 0), code().push(1).op(Op.ROW, Op.LENGTH), code().push(1).op(Op.ROW).push(0).op(Op.TAKE),
            code().push(1).op(Op.ROW).push(0).push(0).op(Op.LAY), code().op(Op.CALL, 0), code().op(Op.BLOCK, 1), code().op(Op.BLOCK, 1, Op.SEE, 0),
            code().op(Op.BLOCK, 1).push(1).op(Op.SET, 0), code().op(Op.BLOCK, 1, Op.FREE), code().op(Op.CHANNEL, 0),
            code().op(Op.CHANNEL, 0, Op.SWAP, Op.SEND, 0), code().op(Op.CHANNEL, 1, Op.CLOSE), code().op(Op.SPAWN, 0), code().op(Op.YIELD), code().push(1).op(Op.OUT)};
        for (int i = 0; i < goOn.length; i++) {
            told("the last goes on, " + i, false, 1, goOn[i]);
            told("then EXIT, " + i, true, 1, code().op(goOn[i].bytes()).op(Op.EXIT));
        }
        for (int op = Op.ADD; op <= Op.SAME; op++) {
            told("the last is " + op, false, 0, code().push(1).push(1).op(op));
        }
        told("the last is JUMP", true, 0, code().label("a").jump("a"));
        told("the last is RETURN", true, 0, code().op(Op.RETURN));
        told("the last is EXIT", true, 0, code().op(Op.EXIT));
        told("the last is RECEIVE", true, 0, code().jump("r").label("x").op(Op.EXIT).label("y").op(Op.EXIT).label("z").op(Op.EXIT).label("w").op(Op.EXIT)
            .label("r").op(Op.CHANNEL, 0).receive("x", "y", "z", "w"));
        Build two = Sample.declarations().function(0, code().op(Op.YIELD)).function(0, code().op(Op.RETURN));
        told("the next function's code is none to come to", false, two);
    }

    private static void trapsGoNowhere() {
        CHECK.sentence("or just NIL: then nothing goes on behind it (it is a trap)");
        Code[] traps = {code().op(Op.NIL, Op.GET, 0), code().op(Op.NIL).push(1).op(Op.PUT, 0), code().op(Op.NIL, Op.LENGTH),
            code().op(Op.NIL).push(1).op(Op.TAKE), code().op(Op.NIL).push(1).push(1).op(Op.LAY)};
        for (int i = 0; i < traps.length; i++) {
            int place = traps[i].bytes().length;
            told("the last is a trap, " + i, true, 0, traps[i]);
            SealedProcesses x = told("behind a trap, " + i, true, 1, code().op(traps[i].bytes()).op(Op.ADD, Op.LOAD, 0, Op.SEND, 3));
            CHECK.due("nothing comes behind it", x.typeAt(0, 0, place, 1, 0), -1);
        }
        told("NONE of NIL is no trap", false, 0, code().op(Op.NIL, Op.NONE));
        told("DUP of NIL is no trap", false, 0, code().op(Op.NIL, Op.DUP));
    }

    private static void notComeTo() {
        CHECK.sentence("From each instruction that is come to (what is not come to may be anything)");
        for (int[] stop : new int[][] {{Op.EXIT}, {Op.RETURN}, {Op.JUMP, 0}}) {
            SealedProcesses x = told("behind instruction " + stop[0], true, 1, code().op(stop).op(Op.ADD, Op.LOAD, 0, Op.CLOSE, Op.SPAWN, 0, Op.OUT));
            CHECK.due("nothing comes there", x.typeAt(0, 0, stop.length, 1, 0), -1);
            CHECK.due("this is come to", x.typeAt(0, 0, 0, 1, 0), EMPTY);
            CHECK.due("the most on the stack", x.module(0, 0, 14), 0);
        }
        Build called = Sample.declarations().function(0, code().op(Op.EXIT)).function(0, code().op(Op.POP));
        SealedProcesses y = new SealedProcesses();
        CHECK.due("a function that none calls is looked at, too", Build.load(y, called.bytes()), -1);
        CHECK.due("its place", y.fault(1), called.codeStart(1));
    }

    private static void sixteen() {
        CHECK.sentence("At most 16 are on a stack");
        int[][] pushes = {{Op.PUSH, 0, 0, 0, 1}, {Op.NIL}, {Op.LOAD, 0}, {Op.DUP}, {Op.NEW, 0}, {Op.CALL, 1}, {Op.BLOCK, 1}};
        for (int[] push : pushes) {
            for (int more = 0; more <= 2; more++) {
                Build module = Sample.declarations().function(1, code().op(Op.NIL, Op.STORE, 0).times(14, Op.NIL).times(more, push).op(Op.EXIT))
                    .function(0, Build.types(), Build.types(2), 0, code().op(Op.EXIT));
                SealedProcesses x = told(14 + more + " by instruction " + push[0], true, module);
                CHECK.due("the most on the stack", x.module(0, 0, 14), 14 + more);
            }
            Build module = Sample.declarations().function(1, code().op(Op.NIL, Op.STORE, 0).times(14, Op.NIL).times(3, push).op(Op.EXIT))
                .function(0, Build.types(), Build.types(2), 0, code().op(Op.EXIT));
            told("17 by instruction " + push[0], false, module);
        }
        SealedProcesses x = told("16 of them are told", true, 0, code().times(16, Op.NIL).op(Op.EXIT));
        CHECK.due("stack place 15", x.typeAt(0, 0, 16, 0, 15), 6);
        CHECK.due("stack place 16", x.typeAt(0, 0, 16, 0, 16), -1);
        told("17, and a POP ahead of it", true, 0, code().times(16, Op.NIL).op(Op.POP, Op.NIL, Op.EXIT));
    }

    private static void sixteenByOthers() {
        CHECK.sentence("At most 16 are on a stack (by what takes and puts)");
        for (int below = 12; below <= 16; below++) {
            Code full = code().times(below, Op.NIL);
            told("CHANNEL on " + below, below <= 14, 0, code().op(full.bytes()).op(Op.CHANNEL, 0, Op.EXIT));
            Code see = code().times(below - 1, Op.NIL).op(Op.BLOCK, 1, Op.SEE, 0, Op.EXIT);
            told("SEE with " + below, below <= 15, 0, see);
            Code receive = code().op(Op.CHANNEL, 1, Op.STORE, 0, Op.STORE, 1).times(below - 1, Op.NIL).op(Op.LOAD, 2).receive("a", "b", "c", "d")
                .label("a").op(Op.EXIT).label("b").op(Op.EXIT).label("c").op(Op.EXIT).label("d").op(Op.EXIT);
            told("RECEIVE with " + below, below <= 15, Sample.declarations().function(3, Build.types(0, 0, 5, 0, 0, 1), NONE, 3, receive));
            Code bare = code().times(below - 1, Op.NIL).op(Op.LOAD, 0).receive("a").label("a").op(Op.EXIT);
            told("RECEIVE without a load with " + below, true, Sample.declarations().function(1, Build.types(5, 0, 1, 0), NONE, 1, bare));
            Code same = code().times(below, Op.NIL).op(Op.SWAP, Op.NONE, Op.POP, Op.NIL, Op.CALL, 1, Op.YIELD, Op.EXIT);
            told("what puts no more than it takes, with " + below, true, Sample.declarations().function(0, same)
                .function(1, Build.types(2), Build.types(1, 0), 1, code().op(Op.EXIT)));
        }
    }

    private static void heights() {
        CHECK.sentence("JOINED ..: stacks of the same height");
        for (int here = 0; here <= 16; here++) {
            for (int there : new int[] {here - 1, here, here + 1}) {
                if (there >= 0 && there <= 15) {
                    Code fork = code().push(0).zero("other").times(here, Op.NIL).jump("then").label("other").times(there, Op.NIL).label("then").op(Op.EXIT);
                    told(here + " and " + there, here == there, 0, fork);
                }
            }
        }
        told("one more each round", false, 0, code().label("a").op(Op.NIL).jump("a"));
        told("one less each round", false, 0, code().times(9, Op.NIL).label("a").op(Op.POP).jump("a"));
        told("RECEIVE to one place, with and without a load", false, 0, code().op(Op.CHANNEL, 0).receive("a", "a", "a", "a").label("a").op(Op.EXIT));
    }

    private static Sample joined(Sample one, Sample other) {
        return one.fits(other) ? other : other.fits(one) ? one : null;
    }

    private static void stacksJoined() {
        CHECK.sentence("stacks .. place by place: alike ones; NIL and a type 1, 2 or 3: that one; others: wrong");
        for (Sample one : Sample.ALL) {
            for (Sample other : Sample.ALL) {
                Sample due = joined(one, other);
                Sample.Functions called = new Sample.Functions();
                Code fork = ways(called, -1, one, other);
                int then = fork.bytes().length;
                if (due != null && due != Sample.NIL) {
                    fork.op(Op.CALL, called.taker(List.of(due)));
                }
                SealedProcesses x = told(one + " and " + other, due != null, Sample.module(0, fork.op(Op.EXIT), called));
                if (due != null) {
                    CHECK.due(one + " and " + other + " become", x.typeAt(0, 0, then, 0, 0), due.kind());
                }
            }
        }
        told("the second of three places", false, 0, code().push(0).zero("b").op(Op.NIL, Op.NIL, Op.NIL).jump("then")
            .label("b").op(Op.NIL).push(1).op(Op.NIL).label("then").op(Op.EXIT));
    }

    private static void localsJoined() {
        CHECK.sentence("Locals: likewise, but others become EMPTY, if nothing linear is among them (else wrong)");
        for (Sample one : Sample.ALL) {
            for (Sample other : Sample.ALL) {
                localFork(one, other);
            }
            localFork(one, null);
            localFork(null, one);
        }
        localFork(null, null);
    }

    /** Null stands for a local that is EMPTY. The last of ten locals is joined like the first. */
    private static void localFork(Sample one, Sample other) {
        Sample due = one == null || other == null ? null : joined(one, other);
        boolean linear = one != null && one.isLinear() || other != null && other.isLinear();
        boolean right = due != null || !linear;
        String what = one + " or " + other;
        for (int local : new int[] {0, 9}) {
            Sample.Functions called = new Sample.Functions();
            Code fork = ways(called, local, one, other);
            int then = fork.bytes().length;
            SealedProcesses x = told(what, right, Sample.module(10, fork.op(Op.EXIT), called));
            if (right) {
                CHECK.due(what + " become", x.typeAt(0, 0, then, 1, local), due == null ? EMPTY : due.kind());
            }
            // What became something is taken as just that; what became EMPTY can't be loaded.
            Code loaded = ways(called, local, one, other).op(Op.LOAD, local);
            if (due != null && due != Sample.NIL) {
                loaded.op(Op.CALL, called.taker(List.of(due)));
            }
            told(what + ", loaded", due != null, Sample.module(10, loaded.op(Op.EXIT), called));
        }
    }

    /** As many ways as samples to one place: each stores its sample in the local, or leaves it on the stack when that is below 0. */
    private static Code ways(Sample.Functions called, int local, Sample... samples) {
        Code code = code();
        for (int i = 1; i < samples.length; i++) {
            code.push(0).zero("way" + i);
        }
        for (int i = 0; i < samples.length; i++) {
            code.label("way" + i);
            if (samples[i] != null) {
                code.op(called.put(List.of(samples[i])));
                code.op(local < 0 ? new int[0] : new int[] {Op.STORE, local});
            }
            if (i < samples.length - 1) {
                code.jump("then");
            }
        }
        return code.label("then");
    }

    private static void threeJoined() {
        CHECK.sentence("Where several come together they are JOINED (three, in each order)");
        Sample[][] threes = {{Sample.NIL, Sample.NODE_A, Sample.NODE_A}, {Sample.NIL, Sample.NODE_A, Sample.NODE_B},
            {Sample.NIL, Sample.ROW, Sample.INT}, {Sample.NIL, Sample.NIL, Sample.ROWS_B}, {Sample.INT, Sample.INT, Sample.NIL}};
        boolean[] alike = {true, false, false, true, false};
        int[][] orders = {{0, 1, 2}, {0, 2, 1}, {1, 0, 2}, {1, 2, 0}, {2, 0, 1}, {2, 1, 0}};
        for (int i = 0; i < threes.length; i++) {
            for (int[] order : orders) {
                Sample.Functions called = new Sample.Functions();
                Sample[] samples = {threes[i][order[0]], threes[i][order[1]], threes[i][order[2]]};
                String what = List.of(samples).toString();
                told(what + " on the stack", alike[i], Sample.module(0, ways(called, -1, samples).op(Op.EXIT), called));
                Code stored = ways(called, 0, samples);
                int then = stored.bytes().length;
                SealedProcesses x = told(what + " in a local", true, Sample.module(1, stored.op(Op.EXIT), called));
                CHECK.due(what + " become", x.typeAt(0, 0, then, 1, 0), alike[i] ? threes[i][2].kind() : EMPTY);
                told(what + ", loaded", alike[i], Sample.module(1, ways(called, 0, samples).op(Op.LOAD, 0, Op.EXIT), called));
            }
        }
    }

    /** What comes to the loop's head changes as many rounds as there are locals. */
    private static void tillNothingChanges() {
        CHECK.sentence("JOINED, till nothing changes");
        for (int locals = 2; locals <= 9; locals++) {
            Code shift = code();
            for (int l = 0; l < locals; l++) {
                shift.op(Op.NIL, Op.STORE, l);
            }
            shift.label("a");
            for (int l = locals - 1; l > 0; l--) {
                shift.op(Op.LOAD, l - 1, Op.STORE, l);
            }
            shift.op(Op.NEW, 0, Op.STORE, 0).push(0).zero("a");
            int[] loop = shift.bytes();
            Code asNode = code().op(loop).op(Op.LOAD, locals - 1, Op.GET, 5, Op.POP, Op.EXIT);
            Code asRow = code().op(loop).op(Op.LOAD, locals - 1, Op.LENGTH, Op.POP, Op.EXIT);
            SealedProcesses x = told("a node comes to local " + (locals - 1), true, locals, asNode);
            CHECK.due("its type at the head", x.typeAt(0, 0, 3 * locals, 1, locals - 1), 1);
            told("and no row", false, locals, asRow);
        }
        // The first round brings NIL, and a trap; only the node that comes later goes on, to what is wrong.
        told("what comes later goes on", false, 1, code().op(Op.NIL, Op.STORE, 0).jump("b").label("a").op(Op.NEW, 0, Op.STORE, 0)
            .label("b").push(1).zero("a").op(Op.LOAD, 0, Op.GET, 0, Op.POP, Op.POP, Op.EXIT));
        told("and what is right", true, 1, code().op(Op.NIL, Op.STORE, 0).jump("b").label("a").op(Op.NEW, 0, Op.STORE, 0)
            .label("b").push(1).zero("a").op(Op.LOAD, 0, Op.GET, 0, Op.POP, Op.EXIT));
        told("a local that becomes EMPTY in a later round", false, 2, code().push(1).op(Op.STORE, 0).label("a").op(Op.LOAD, 0, Op.OUT)
            .op(Op.NIL, Op.STORE, 0).push(0).zero("a").op(Op.EXIT));
    }

    /** In one object: what was looked at of a function that is wrong is nothing to the next one. */
    private static void oneBehindAnother() {
        CHECK.sentence("the first function that is not RIGHT (each is looked at by itself, and each module)");
        for (int ahead = 0; ahead <= 6; ahead++) {
            SealedProcesses x = new SealedProcesses();
            // ZERO leaves several ways open, of which one is wrong.
            Code open = code();
            for (int i = 0; i <= ahead; i++) {
                open.push(i).zero("w" + i);
            }
            open.op(Op.POP, Op.EXIT);
            for (int i = 0; i <= ahead; i++) {
                open.label("w" + i).op(Op.YIELD, Op.EXIT);
            }
            Build wrong = new Build().function(0, open);
            CHECK.due("a wrong one", Build.load(x, wrong.bytes()), -1);
            CHECK.due("its fault", x.fault(0), 2);
            Code unreached = code().op(Op.EXIT).times(open.bytes().length, Op.ADD);
            CHECK.due("then a right one, of which nothing is come to", Build.load(x, new Build().function(0, unreached).function(0, unreached).bytes()), 0);
            for (int place = 1; place < unreached.bytes().length; place++) {
                CHECK.due("nothing comes to " + place, x.typeAt(0, 0, place, 0, 0), -1);
            }
            CHECK.due("the most on its stack", x.module(0, 1, 14), 0);
            Build both = new Build().function(0, unreached).function(0, open).function(0, unreached);
            CHECK.due("and one that has both", Build.load(x, both.bytes()), -1);
            CHECK.due("its place", x.fault(1), both.codeStart(1));
            CHECK.due("then the right one again", Build.load(x, new Build().function(0, unreached).bytes()), 1);
        }
    }

    /** Each round of the loop is a long way back, and what comes to the last local changes in the last round alone. */
    private static void longRounds() {
        CHECK.sentence("JOINED, till nothing changes (however many rounds)");
        int locals = 5;
        for (boolean right : new boolean[] {true, false}) {
            Code code = code();
            for (int l = 0; l < locals; l++) {
                code.op(Op.NIL, Op.STORE, l);
            }
            code.jump("head").label("back0").jump("head");
            for (int i = 1; i < 90; i++) {
                code.label("back" + i).jump("back" + (i - 1));
            }
            code.label("head");
            for (int l = locals - 1; l > 0; l--) {
                code.op(Op.LOAD, l - 1, Op.STORE, l);
            }
            code.op(Op.NEW, 0, Op.STORE, 0).push(0).zero("back89").op(Op.LOAD, locals - 1).op(right ? new int[] {Op.GET, 5} : new int[] {Op.LENGTH}).op(Op.EXIT);
            SealedProcesses x = told("five rounds of 90 jumps back", right, locals, code);
            CHECK.due("what comes to the last local", x.typeAt(0, 0, code.place("head"), 1, locals - 1), right ? 1 : -1);
        }
    }

    /** A way that goes backwards through all of the code, place by place, to what is right or wrong at its end. */
    private static void longWays() {
        CHECK.sentence("From each instruction that is come to go on .. to its T's (however long the way)");
        for (boolean right : new boolean[] {true, false}) {
            Code back = code().jump("j77");
            back.label("end").op(right ? Op.EXIT : Op.POP, Op.EXIT);
            for (int i = 0; i < 78; i++) {
                back.label("j" + i).op(Op.YIELD).jump(i == 0 ? "end" : "j" + (i - 1));
            }
            SealedProcesses x = told("78 jumps back", right, 1, back.times(240 - back.bytes().length, Op.YIELD));
            CHECK.due("what comes to the end", x.typeAt(0, 0, 2, 1, 0), right ? EMPTY : -1);
        }
    }
}
