/** Promises 9 and 11, edges: how many cells a heap has, what takes them, and what of it is reached. */
public final class HeapEdgesTest {
    private static final Check CHECK = new Check("edges of heaps");
    private static final int[] NONE = {255};

    public static void main(String[] args) {
        rows();
        rowsOfNodes();
        rowsOfNone();
        nodes();
        nodesAndRows();
        belowZero();
        notReached();
        droppedOften();
        stackAndLocals();
        allActivations();
        emptyByJoining();
        fields();
        items();
        intsAreNotFollowed();
        once();
        whatWasTaken();
        ofItsOwn();
        spawned();
        kept();
        CHECK.end();
    }

    private static Code code() {
        return new Code();
    }

    /** Records 0 to 5 have 1 to 6 INTs; 6 a node of its own record and an INT; 7 a node, a row, a row of nodes and an INT. */
    private static Build build() {
        Build build = new Build();
        for (int f = 1; f <= 6; f++) {
            build.record(f, new int[f]);
        }
        return build.record(2, 1, 6, 0).record(6, 0, 1, 7, 0, 2, 3, 7, 0);
    }

    /** Boots function 0 with a heap of 16 s cells, and runs it to its end, or to where it goes on for ever. */
    private static SealedProcesses run(Build module, int s) {
        SealedProcesses x = new SealedProcesses();
        CHECK.due("load", Build.load(x, module.bytes()), 0);
        CHECK.due("boot", Build.boot(x, 83, 70, 1, 0, 0, s), 1);
        CHECK.due("cells", x.process(0, 8), 16 * s);
        x.run(5000);
        return x;
    }

    /** How many cells are reached then, or that there was no room. */
    private static void due(String what, int s, int cells, Build module) {
        SealedProcesses x = run(module, s);
        boolean room = cells <= 16 * s;
        CHECK.due(what + ": how it is", x.process(0, 0), room ? 1 : 5);
        CHECK.due(what + ": trap", x.process(0, 1), room ? 0 : 5);
        CHECK.due(what + ": cells that it reaches", x.process(0, 7), room ? cells : 0);
    }

    private static void due(String what, int s, int cells, int locals, Code code) {
        due(what, s, cells, build().function(locals, forEver(code)));
    }

    private static Code forEver(Code code) {
        return code.label("end").op(Op.YIELD).jump("end");
    }

    private static void rows() {
        CHECK.sentence("5 its HEAP: .. a row [takes] as [many cells as] items and 1: no room, when all that [it] reaches, and what is asked, are more than its heap has");
        for (int s : new int[] {1, 2, 63, 64}) {
            for (int n : new int[] {0, 1, 16 * s - 2, 16 * s - 1, 16 * s, 16 * s + 1}) {
                due("a row of " + n, s, n + 1, 0, code().push(n).op(Op.ROW));
                due("a row of " + n + " on one of none", s, n + 2, 0, code().push(0).op(Op.ROW).push(n).op(Op.ROW));
                due("a row of none on one of " + n, s, n + 2, 0, code().push(n).op(Op.ROW).push(0).op(Op.ROW));
            }
        }
        for (int n : new int[] {1000, 65535, 65536, 65537, 1 << 20, (1 << 20) + 1, 1 << 30, Integer.MAX_VALUE - 1, Integer.MAX_VALUE}) {
            due("a row of " + n, 1, Math.max(n, 17), 0, code().push(n).op(Op.ROW));
            due("a row of " + n, 64, n == 1000 ? 1001 : n, 0, code().push(n).op(Op.ROW));
        }
    }

    private static void rowsOfNodes() {
        CHECK.sentence("26 ROWS r: likewise of nodes, all NIL");
        for (int s : new int[] {1, 64}) {
            for (int n : new int[] {0, 1, 16 * s - 2, 16 * s - 1, 16 * s, Integer.MAX_VALUE - 1}) {
                due("a row of nodes of " + n, s, n + 1, 0, code().push(n).op(Op.ROWS, 7));
            }
        }
    }

    private static void rowsOfNone() {
        CHECK.sentence("a row as items and 1 (one without items takes 1)");
        for (int count = 1; count <= 17; count++) {
            // Ten of them in locals, the others on the stack.
            Code code = code();
            for (int i = 0; i < count; i++) {
                code.push(0).op(i % 2 == 0 ? new int[] {Op.ROW} : new int[] {Op.ROWS, 0});
                code.op(i < 10 ? new int[] {Op.STORE, i} : new int[0]);
            }
            due(count + " rows of none", 1, count, 10, code);
        }
    }

    private static void nodes() {
        CHECK.sentence("a node takes as many cells as fields and 1");
        for (int fields = 1; fields <= 6; fields++) {
            int most = 16 / (fields + 1);
            for (int count = most - 1; count <= most + 1; count++) {
                due(count + " nodes of " + fields, 1, count * (fields + 1), 0, code().times(count, Op.NEW, fields - 1));
            }
        }
    }

    private static void nodesAndRows() {
        CHECK.sentence("no room, when all .. are more than its heap has (to the last cell, by nodes and rows)");
        for (int n = 0; n <= 3; n++) {
            due("two nodes of 6 and a row of " + n, 1, 15 + n, 0, code().times(2, Op.NEW, 5).push(n).op(Op.ROW));
            due("a row of " + (7 + n) + " and a node of 6", 1, 15 + n, 0, code().push(7 + n).op(Op.ROWS, 0, Op.NEW, 5));
        }
    }

    private static void belowZero() {
        CHECK.sentence("4 a ROW of less than 0");
        for (int n : new int[] {Integer.MIN_VALUE, Integer.MIN_VALUE + 1, -65536, -2, -1, 0}) {
            for (int[] op : new int[][] {{Op.ROW}, {Op.ROWS, 0}}) {
                SealedProcesses x = run(build().function(0, forEver(code().push(n).op(op))), 1);
                CHECK.due("instruction " + op[0] + " of " + n, x.process(0, 1), n < 0 ? 4 : 0);
                CHECK.due("its steps", x.process(0, 9), n < 0 ? 2 : x.about(0));
            }
        }
    }

    private static void notReached() {
        CHECK.sentence("(what is not reached takes no room)");
        for (int rest = 13; rest <= 16; rest++) {
            due("POP, then " + rest, 1, rest + 1, 0, code().push(15).op(Op.ROW, Op.POP).push(rest).op(Op.ROW));
            due("a hundred times, then " + rest, 1, rest + 1, 1, again(100, code().push(15).op(Op.ROW, Op.POP)).push(rest).op(Op.ROW));
            due("STORE over it, then " + rest, 1, rest + 1, 1, code().push(15).op(Op.ROW, Op.STORE, 0, Op.NIL, Op.STORE, 0).push(rest).op(Op.ROW));
            due("an INT over it, then " + rest, 1, rest + 1, 1, code().push(15).op(Op.ROW, Op.STORE, 0).push(15).op(Op.STORE, 0).push(rest).op(Op.ROW));
        }
    }

    /** Lists of nodes and rows of nodes are made and dropped, again and again; what is reached then is just the last. */
    private static void droppedOften() {
        CHECK.sentence("(what is not reached takes no room): lists and rows of nodes that were dropped");
        for (int times = 0; times <= 12; times++) {
            Code list = code().op(Op.NIL, Op.STORE, 1);
            for (int i = 0; i < 5; i++) {
                list.op(Op.NEW, 6, Op.STORE, 2, Op.LOAD, 2, Op.LOAD, 1, Op.PUT, 0, Op.LOAD, 2, Op.STORE, 1, Op.NIL, Op.STORE, 2);
            }
            Code dropped = again(times, code().op(list.bytes()).op(Op.NIL, Op.STORE, 1));
            for (int n = 14; n <= 16; n++) {
                due("a list dropped " + times + " times, then a row", 1, n + 1, 3, code().op(dropped.bytes()).push(n).op(Op.ROW));
                due("a list dropped " + times + " times, then two rows", 1, n + 1, 3, code().op(dropped.bytes()).push(3).op(Op.ROWS, 6).push(n - 4).op(Op.ROW));
            }
            due("a list of five", 1, 15, 3, code().op(dropped.bytes()).op(list.bytes()));
            Code rows = again(times, code().push(3).op(Op.ROWS, 6, Op.STORE, 1).op(Op.LOAD, 1).push(0).op(Op.NEW, 6, Op.LAY, Op.LOAD, 1).push(2).op(Op.NEW, 6, Op.LAY, Op.NIL, Op.STORE, 1));
            for (int n = 14; n <= 16; n++) {
                due("a row of nodes dropped " + times + " times", 1, n + 1, 2, code().op(rows.bytes()).op(Op.NEW, 6).push(n - 3).op(Op.ROW));
            }
        }
    }

    /** Does it so often, with local 0 to count. */
    private static Code again(int count, Code does) {
        return code().push(count).op(Op.STORE, 0).label("again").op(Op.LOAD, 0).zero("done").op(does.bytes())
            .op(Op.LOAD, 0).push(1).op(Op.SUB, Op.STORE, 0).jump("again").label("done");
    }

    private static void stackAndLocals() {
        CHECK.sentence("all that its stack, locals .. reach (each place of both)");
        for (int n = 14; n <= 15; n++) {
            for (int place = 0; place < 15; place++) {
                // One row of none in that place of the stack, and INTs in the others.
                due("stack place " + place, 1, n + 2, 1, code().times(place, Op.PUSH, 0, 0, 0, 7).push(0).op(Op.ROW)
                    .times(14 - place, Op.PUSH, 0, 0, 0, 7).push(n).op(Op.ROW));
            }
            for (int local = 0; local < 10; local++) {
                due("local " + local, 1, n + 2, 10, code().push(0).op(Op.ROW, Op.STORE, local).push(n).op(Op.ROW));
            }
        }
    }

    private static void allActivations() {
        CHECK.sentence("locals (of all activations)");
        for (int n = 6; n <= 12; n += 2) {
            Build module = build()
                .function(1, code().push(0).op(Op.ROW, Op.STORE, 0).push(1).op(Op.ROW, Op.CALL, 1, Op.EXIT))
                .function(1, code().push(0).op(Op.ROW, Op.STORE, 0).push(1).op(Op.ROW, Op.CALL, 2, Op.EXIT))
                .function(0, forEver(code().push(n).op(Op.ROW)));
            due("a row of " + n + " in the third", 1, 2 * 3 + n + 1, module);
            Build returned = build()
                .function(1, forEver(code().push(0).op(Op.ROW, Op.STORE, 0, Op.CALL, 1).push(n + 2).op(Op.ROW)))
                .function(1, code().push(7).op(Op.ROW, Op.STORE, 0, Op.RETURN));
            due("what was returned from is none", 1, 1 + n + 3, returned);
        }
        Build given = build().function(1, code().push(6).op(Op.ROW, Op.CALL, 1, Op.EXIT))
            .function(1, Build.types(2), NONE, 1, forEver(code().op(Op.LOAD, 0).push(8).op(Op.ROW)));
        due("a parameter", 1, 16, given);
        Build result = build().function(0, forEver(code().op(Op.CALL, 1).push(8).op(Op.ROW))).function(0, Build.types(), Build.types(2), 0, code().push(6).op(Op.ROW, Op.RETURN));
        due("a result", 1, 16, result);
        Build more = build().function(0, forEver(code().op(Op.CALL, 1).push(9).op(Op.ROW))).function(0, Build.types(), Build.types(2), 0, code().push(6).op(Op.ROW, Op.RETURN));
        due("a result, and one cell more", 1, 17, more);
    }

    private static void emptyByJoining() {
        CHECK.sentence("EMPTY .. (a local is so till something is stored .. whatever JOINING made of its type; that is reached, too)");
        for (int n = 6; n <= 9; n++) {
            for (int way = 0; way <= 1; way++) {
                Code code = code().push(7).op(Op.ROW, Op.STORE, 1).push(way).zero("a").push(3).op(Op.STORE, 1).label("a").push(n).op(Op.ROW);
                due("the way " + way, 1, way == 0 ? 8 + n + 1 : n + 1, 2, code);
            }
        }
    }

    private static void fields() {
        CHECK.sentence("all that its stack, locals .. reach (through fields)");
        int[][] asked = {{Op.NEW, 7}, {Op.PUSH, 0, 0, 0, 2, Op.ROW}, {Op.PUSH, 0, 0, 0, 3, Op.ROWS, 7}};
        int[] sizes = {7, 3, 4};
        int[] places = {1, 3, 4};
        for (int i = 0; i < asked.length; i++) {
            // A node of record 7 in local 0 has it in its field, and nothing else has it.
            Code code = code().op(Op.NEW, 7, Op.STORE, 0, Op.LOAD, 0).op(asked[i]).op(Op.PUT, places[i]);
            due("field " + places[i], 2, 7 + sizes[i], 1, code().op(code.bytes()));
            for (int n = 30; n <= 32; n++) {
                int left = n - 7 - sizes[i];
                due("field " + places[i] + ", and a row", 2, n + 1, 1, code().op(code.bytes()).push(left).op(Op.ROW));
                due("field " + places[i] + ", and a node and a row", 2, n + 1, 1, code().op(code.bytes()).op(Op.NEW, 6).push(left - 3).op(Op.ROW));
                due("field " + places[i] + " that is NIL again", 2, n + 1, 1,
                    code().op(code.bytes()).op(Op.LOAD, 0, Op.NIL, Op.PUT, places[i]).push(n - 7).op(Op.ROW));
            }
            // What GET gives is reached by itself, when the node is not any more.
            for (int n = 14; n <= 16; n++) {
                due("what GET gave", 1, n + 1, 1, code().op(code.bytes()).op(Op.LOAD, 0, Op.GET, places[i], Op.NIL, Op.STORE, 0).push(n - sizes[i]).op(Op.ROW));
            }
        }
    }

    private static void items() {
        CHECK.sentence("all that its stack, locals .. reach (through items)");
        for (int item = 0; item < 3; item++) {
            Code code = code().push(3).op(Op.ROWS, 6, Op.STORE, 0, Op.LOAD, 0).push(item).op(Op.NEW, 6, Op.LAY);
            for (int n = 14; n <= 16; n++) {
                due("item " + item, 1, n + 1, 1, code().op(code.bytes()).push(n - 7).op(Op.ROW));
                due("item " + item + " that is NIL again", 1, n + 1, 1, code().op(code.bytes()).op(Op.LOAD, 0).push(item).op(Op.NIL, Op.LAY).push(n - 4).op(Op.ROW));
                due("what TAKE gave", 1, n + 1, 1, code().op(code.bytes()).op(Op.LOAD, 0).push(item).op(Op.TAKE, Op.NIL, Op.STORE, 0).push(n - 3).op(Op.ROW));
            }
        }
    }

    /** Rows that are not reached stand in the heap first; no INT is taken for one of them, whatever number it is. */
    private static void intsAreNotFollowed() {
        CHECK.sentence("all that its stack, locals .. reach (an INT reaches nothing, and stays as it is)");
        for (int number = 0; number <= 16; number++) {
            Code gone = code().push(2).op(Op.ROW, Op.POP).push(3).op(Op.ROW, Op.POP);
            Code node = code().op(gone.bytes()).op(Op.NEW, 7, Op.STORE, 0);
            for (int f : new int[] {0, 2, 5}) {
                node.op(Op.LOAD, 0).push(number).op(Op.PUT, f);
            }
            due("INTs in fields, " + number, 1, 16, 1, code().op(node.bytes()).push(8).op(Op.ROW));
            due("an INT that GET gave, " + number, 1, 16, 1, code().op(node.bytes()).op(Op.LOAD, 0, Op.GET, 2, Op.NIL, Op.STORE, 0).push(15).op(Op.ROW));
            for (int f : new int[] {0, 2, 5}) {
                stays(number, code().op(node.bytes()).push(8).op(Op.ROW, Op.POP).push(8).op(Op.ROW, Op.POP, Op.LOAD, 0, Op.GET, f));
            }
            Code row = code().op(gone.bytes()).push(3).op(Op.ROW, Op.STORE, 0);
            for (int i = 0; i < 3; i++) {
                row.op(Op.LOAD, 0).push(i).push(number).op(Op.LAY);
            }
            due("INTs in items, " + number, 1, 16, 1, code().op(row.bytes()).push(11).op(Op.ROW));
            due("an INT that TAKE gave, " + number, 1, 16, 1, code().op(row.bytes()).op(Op.LOAD, 0).push(1).op(Op.TAKE, Op.NIL, Op.STORE, 0).push(15).op(Op.ROW));
            for (int i = 0; i < 3; i++) {
                stays(number, code().op(row.bytes()).push(8).op(Op.ROW, Op.POP).push(8).op(Op.ROW, Op.POP, Op.LOAD, 0).push(i).op(Op.TAKE));
            }
            due("INTs on the stack and in locals, " + number, 1, 16, 2, code().op(gone.bytes()).push(number).push(number).op(Op.STORE, 1).push(15).op(Op.ROW));
            stays(number, code().op(gone.bytes()).push(number).op(Op.STORE, 0).push(15).op(Op.ROW, Op.POP).push(15).op(Op.ROW, Op.POP, Op.LOAD, 0));
            stays(number, code().op(gone.bytes()).push(number).push(15).op(Op.ROW, Op.POP).push(15).op(Op.ROW, Op.POP));
        }
    }

    /** The highest on the stack is that INT, as value() and OUT tell it. */
    private static void stays(int number, Code code) {
        SealedProcesses x = run(build().function(1, code.label("a").op(Op.DUP, Op.OUT).label("end").op(Op.YIELD).jump("end")), 1);
        CHECK.due("an INT told by value()", x.value(0, 0, 0), number);
        CHECK.due("an INT told by OUT", x.output(0, 1), number);
    }

    private static void once() {
        CHECK.sentence("all that .. reach (what is reached twice, or by itself, takes its cells once)");
        for (int n = 14; n <= 16; n++) {
            due("DUP", 1, n + 1, 0, code().push(4).op(Op.ROW, Op.DUP, Op.DUP).push(n - 5).op(Op.ROW));
            due("a local and a stack place", 1, n + 1, 1, code().push(4).op(Op.ROW, Op.DUP, Op.STORE, 0).push(n - 5).op(Op.ROW));
            due("a node that has itself", 1, n + 1, 0, code().op(Op.NEW, 6, Op.DUP, Op.DUP, Op.PUT, 0).push(n - 3).op(Op.ROW));
            due("two nodes that have each other", 1, n + 1, 2, code().op(Op.NEW, 6, Op.STORE, 0, Op.NEW, 6, Op.STORE, 1, Op.LOAD, 0, Op.LOAD, 1, Op.PUT, 0)
                .op(Op.LOAD, 1, Op.LOAD, 0, Op.PUT, 0, Op.NIL, Op.STORE, 0).push(n - 6).op(Op.ROW));
            due("two nodes that have each other, and none has them", 1, n + 1, 2, code().op(Op.NEW, 6, Op.STORE, 0, Op.NEW, 6, Op.STORE, 1, Op.LOAD, 0, Op.LOAD, 1, Op.PUT, 0)
                .op(Op.LOAD, 1, Op.LOAD, 0, Op.PUT, 0, Op.NIL, Op.STORE, 0, Op.NIL, Op.STORE, 1).push(n).op(Op.ROW));
            due("a row that has one node three times", 1, n + 1, 1, code().op(Op.NEW, 6, Op.STORE, 0).push(3).op(Op.ROWS, 6)
                .op(Op.DUP).push(0).op(Op.LOAD, 0, Op.LAY, Op.DUP).push(1).op(Op.LOAD, 0, Op.LAY, Op.DUP).push(2).op(Op.LOAD, 0, Op.LAY).push(n - 7).op(Op.ROW));
        }
    }

    private static void whatWasTaken() {
        CHECK.sentence("of the instruction's own what it took is no longer there");
        for (int n = 14; n <= 16; n++) {
            // The row that CALL took is the callee's alone, and goes with its local.
            Build module = build().function(0, code().push(9).op(Op.ROW, Op.CALL, 1, Op.EXIT))
                .function(1, Build.types(2), NONE, 1, forEver(code().op(Op.NIL, Op.STORE, 0).push(n).op(Op.ROW)));
            due("a parameter that is gone", 1, n + 1, module);
            due("what LENGTH took", 1, n + 1, 0, code().push(9).op(Op.ROW, Op.LENGTH).push(n).op(Op.ROW));
            due("what NONE took", 1, n + 1, 0, code().push(9).op(Op.ROW, Op.NONE).push(n).op(Op.ROW));
            due("what PUT took", 1, n + 1, 0, code().op(Op.NEW, 6, Op.NEW, 6, Op.PUT, 0).push(n).op(Op.ROW));
            due("what LAY took", 1, n + 1, 0, code().push(5).op(Op.ROWS, 0).push(0).op(Op.NEW, 0, Op.LAY).push(n).op(Op.ROW));
            due("the INT that ROW takes", 1, n + 1, 0, code().push(n).op(Op.ROW));
        }
    }

    private static void ofItsOwn() {
        CHECK.sentence("heaps that are collected, each of its own process");
        Build module = build().function(0, forEver(code().push(15).op(Op.ROW))).function(0, forEver(code().push(31).op(Op.ROW)));
        SealedProcesses x = new SealedProcesses();
        Build.load(x, module.bytes());
        Build.boot(x, 83, 70, 4, 0, 0, 1, 0, 1, 2, 0, 1, 1, 0, 0, 1);
        x.run(100);
        int[] trap = {0, 0, 5, 0};
        int[] cells = {16, 32, 0, 16};
        for (int p = 0; p < 4; p++) {
            CHECK.due("trap of " + p, x.process(p, 1), trap[p]);
            CHECK.due("cells of " + p, x.process(p, 7), cells[p]);
        }
    }

    private static void spawned() {
        CHECK.sentence("(A process that was spawned has a heap of its parent's size ..)");
        for (int s : new int[] {1, 2, 64}) {
            for (int more = -1; more <= 0; more++) {
                Build module = build().function(0, forEver(code().push(16 * s - 1).op(Op.ROW, Op.SPAWN, 1)))
                    .function(0, code().op(Op.SPAWN, 2).label("y").op(Op.YIELD).jump("y"))
                    .function(0, forEver(code().push(16 * s + more).op(Op.ROW)));
                SealedProcesses x = run(module, s);
                CHECK.due("a child's child", x.process(2, 1), more < 0 ? 0 : 5);
                CHECK.due("its heap", x.process(2, 8), 16 * s);
                CHECK.due("its child's heap", x.process(1, 8), 16 * s);
                CHECK.due("its own", x.process(0, 7), 16 * s);
            }
        }
    }

    /** In a full heap of the largest size, a list of nodes keeps its numbers, whatever else is made and goes. */
    private static void kept() {
        CHECK.sentence("heaps that are collected (what is reached stays as it is)");
        int nodes = 250;
        Code list = again(nodes, code().op(Op.NEW, 6, Op.STORE, 2, Op.LOAD, 2, Op.LOAD, 0, Op.PUT, 1, Op.LOAD, 2, Op.LOAD, 1, Op.PUT, 0, Op.LOAD, 2, Op.STORE, 1)
            .push(3).op(Op.ROW, Op.POP));
        Code head = code().op(Op.NIL, Op.STORE, 1, Op.NIL, Op.STORE, 2);
        Code tell = code().op(list.bytes()).op(Op.NIL, Op.STORE, 2).push(nodes).op(Op.STORE, 0);
        // Each number is looked at: the first node has 1, the second 2, and so on; the sum of all is told.
        Code all = code().op(Op.CALL, 1, Op.EXIT);
        Build module = build().function(0, all).function(4, code().op(head.bytes()).op(shifted(tell, head.bytes().length))
            .push(0).op(Op.STORE, 3).label("sum").op(Op.LOAD, 1, Op.NONE).zero("one").op(Op.LOAD, 3, Op.OUT).label("end").op(Op.YIELD).jump("end")
            .label("one").op(Op.LOAD, 3).push(3).op(Op.MUL, Op.LOAD, 1, Op.GET, 1, Op.ADD, Op.STORE, 3, Op.LOAD, 1, Op.GET, 0, Op.STORE, 1).jump("sum"));
        SealedProcesses x = run(module, 64);
        x.run(10000);
        int due = 0;
        for (int i = 1; i <= nodes; i++) {
            due = due * 3 + i;
        }
        CHECK.due("no trap", x.process(0, 1), 0);
        CHECK.due("the numbers in their order", x.output(0, 1), due);
    }

    /** The same code further on: its jumps go as much further. */
    private static int[] shifted(Code code, int by) {
        int[] bytes = code.bytes();
        for (int at = 0; at < bytes.length; at += lengthOf(bytes[at])) {
            if (bytes[at] == Op.JUMP || bytes[at] == Op.ZERO) {
                bytes[at + 1] += by;
            }
        }
        return bytes;
    }

    private static int lengthOf(int op) {
        switch (op) {
            case Op.PUSH: return 5;
            case Op.LOAD: case Op.STORE: case Op.JUMP: case Op.ZERO: case Op.NEW: case Op.GET: case Op.PUT: case Op.ROWS: return 2;
            default: return 1;
        }
    }
}
