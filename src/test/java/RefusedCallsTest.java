import java.util.function.Consumer;

/** Calls that are refused: two objects, of which one is called so, tell the same then and go on alike. */
public final class RefusedCallsTest {
    private static final Check CHECK = new Check("refused calls");
    private static final int[] FAR = {Integer.MIN_VALUE, -1, Integer.MAX_VALUE};

    public static void main(String[] args) {
        feed();
        loadDoingNothing();
        bootDoingNothing();
        loadWithAFault();
        loadOnAFullShelf();
        bootWithAFault();
        discard();
        run();
        questions();
        throughAll();
        CHECK.end();
    }

    private static int[] module() {
        return new Build().record(2, 0, 1, 0).record(1, 0).contract(2, Op.CLIENTS, 2, 4, 1, 0, 255, 1, Op.NOBODYS, 0)
            .function(1, Build.types(5, 0, 0, Op.CLIENT), Build.types(255), 1, new Code().op(Op.LOAD, 0)
                .label("a").op(Op.BLOCK, 1).push(5).op(Op.SET, 0, Op.SEND, 0, Op.SPAWN, 2).jump("a"))
            .function(1, Build.types(5, 0, 0, Op.SERVER), Build.types(255), 3, new Code().push(4).op(Op.ROW, Op.STORE, 1, Op.LOAD, 0)
                .label("r").receive("b", "d").label("b").op(Op.SEE, 0, Op.OUT, Op.FREE, Op.YIELD).jump("r").label("d").op(Op.EXIT))
            .function(0, new Code().op(Op.NEW, 0, Op.POP).times(9, Op.YIELD).op(Op.NIL, Op.LENGTH))
            .bytes();
    }

    /** Two modules on the shelf, two processes that have run for 41 steps, and 40 bytes on the tape. */
    private static SealedProcesses ran() {
        SealedProcesses x = new SealedProcesses();
        Build.load(x, module());
        Build.load(x, module());
        Build.boot(x, 83, 70, 2, 0, 0, 1, 3, 1, 1, 2, 3);
        x.run(41);
        x.feed(0x534D0000, 0x0100FF00, 0x012A0000, 0, 0);
        x.feed(1, 2, 3, 4, 5);
        return x;
    }

    private static SealedProcesses full(Consumer<SealedProcesses> refused) {
        SealedProcesses x = ran();
        for (int i = 2; i < 100; i++) {
            x.feed(i, 0, 0, 0, 0);
        }
        refused.accept(x);
        return x;
    }

    private static void same(String what, Consumer<SealedProcesses> refused) {
        Answers.same(CHECK, what, RefusedCallsTest::ran, () -> {
            SealedProcesses x = ran();
            refused.accept(x);
            return x;
        });
        SealedProcesses x = ran();
        refused.accept(x);
        CHECK.due(what + ": the tape's bytes", x.load(10), 2);
    }

    private static void feed() {
        CHECK.sentence("A call that answers NONE .. changes nothing but what is said: feed");
        Answers.same(CHECK, "feed", () -> full(x -> { }), () -> full(x -> CHECK.due("feed", x.feed(-1, -1, -1, -1, -1), -1)));
        SealedProcesses x = full(y -> y.feed(-1, -1, -1, -1, -1));
        CHECK.due("as much as there was", x.load(2001), -2);
        CHECK.due("the tape's bytes", x.load(10), 2);
    }

    private static void loadDoingNothing() {
        CHECK.sentence("load: -2, doing nothing");
        for (int n : new int[] {Integer.MIN_VALUE, -1, 41, Integer.MAX_VALUE}) {
            same("load(" + n + ")", x -> CHECK.due("load(" + n + ")", x.load(n), -2));
        }
    }

    private static void bootDoingNothing() {
        CHECK.sentence("boot: -2, doing nothing");
        for (int n : new int[] {Integer.MIN_VALUE, -1, 41, Integer.MAX_VALUE}) {
            same("boot(" + n + ")", x -> CHECK.due("boot(" + n + ")", x.boot(n), -2));
        }
    }

    /** What is said to change: the tape is empty then, and the fault is told; both objects have the same fault ahead of it. */
    private static void faulted(String what, int fault, int place, Consumer<SealedProcesses> refused, Consumer<SealedProcesses> alike) {
        Answers.same(CHECK, what, () -> {
            SealedProcesses x = ran();
            alike.accept(x);
            return x;
        }, () -> {
            SealedProcesses x = ran();
            refused.accept(x);
            CHECK.due(what + ": fault", x.fault(0), fault);
            CHECK.due(what + ": place", x.fault(1), place);
            alike.accept(x);
            return x;
        });
        SealedProcesses x = ran();
        refused.accept(x);
        CHECK.due(what + ": the tape is empty", x.load(1), -2);
    }

    private static void loadWithAFault() {
        CHECK.sentence("load: NONE with a fault (changes nothing but the fault and the tape)");
        faulted("load of 9 bytes", 1, 9, x -> CHECK.due("load", x.load(9), -1), x -> x.load(0));
        faulted("load of 40 bytes", 1, 10, x -> CHECK.due("load", x.load(40), -1), x -> x.load(0));
        int[] wrong = new Build().function(0, new Code().op(Op.POP)).bytes();
        faulted("load of what is not right", 2, 9, x -> {
            x.load(0);
            CHECK.due("load", Build.load(x, wrong), -1);
        }, x -> x.load(0));
    }

    private static void loadOnAFullShelf() {
        CHECK.sentence("load: NONE .. (0, place NONE; of one without a fault) when the shelf is full");
        Consumer<SealedProcesses> fill = x -> {
            x.load(0);
            for (int i = 0; i < 4; i++) {
                Build.load(x, module());
            }
        };
        Answers.same(CHECK, "a full shelf", () -> {
            SealedProcesses x = ran();
            fill.accept(x);
            return x;
        }, () -> {
            SealedProcesses x = ran();
            fill.accept(x);
            CHECK.due("load", Build.load(x, new Build().function(0, new Code().op(Op.RETURN)).bytes()), -1);
            CHECK.due("the tape is empty", x.load(1), -2);
            return x;
        });
    }

    private static void bootWithAFault() {
        CHECK.sentence("boot: NONE with a fault: what runs stays");
        int[][] manifests = {{83, 70, 7}, {83, 70, 1, 2, 0, 1}, {83, 70, 1, 1, 3, 1}, {83, 70, 2, 1, 0, 1, 0, 1, 0, 1, 0}, {83, 70, 2, 1, 2, 64, 1, 0, 1, 0}};
        int[] places = {2, 3, 4, 10, 10};
        int[] faults = {1, 3, 4, 5, 6};
        for (int i = 0; i < manifests.length; i++) {
            int[] manifest = manifests[i];
            faulted("boot with fault " + faults[i], faults[i], places[i], x -> {
                x.load(0);
                CHECK.due("boot", Build.boot(x, manifest), -1);
            }, x -> x.load(0));
        }
    }

    private static void discard() {
        CHECK.sentence("A call that answers .. false, changes nothing: discard");
        for (int m : new int[] {Integer.MIN_VALUE, -1, 2, 3, 5, 6, Integer.MAX_VALUE}) {
            same("discard(" + m + ")", x -> CHECK.due("discard(" + m + ")", x.discard(m), false));
        }
    }

    private static void run() {
        CHECK.sentence("run: NONE for others");
        for (int n : new int[] {Integer.MIN_VALUE, -1, 10001, Integer.MAX_VALUE}) {
            same("run(" + n + ")", x -> CHECK.due("run(" + n + ")", x.run(n), -1));
        }
        same("run(0)", x -> CHECK.due("run(0)", x.run(0), 0));
    }

    /** Those that only ask, whether they are answered or not. */
    private static void questions() {
        CHECK.sentence("A call that answers NONE .. changes nothing (nor does one that only asks)");
        same("far numbers", x -> {
            for (int far : FAR) {
                CHECK.due("fault", x.fault(far), -1);
                CHECK.due("module", x.module(far, far, far), -1);
                CHECK.due("typeAt", x.typeAt(0, 0, far, 1, 0), -1);
                CHECK.due("about", x.about(far), -1);
                CHECK.due("process", x.process(far, far), -1);
                CHECK.due("value", x.value(far, far, far), Integer.MIN_VALUE);
                CHECK.due("block", x.block(far, far), -1);
                CHECK.due("channel", x.channel(far, far, far), -1);
                CHECK.due("output", x.output(far, far), -1);
            }
        });
        same("near numbers", x -> {
            for (int i = 0; i < 10; i++) {
                CHECK.due("cells that it reaches", x.process(1, 7), 5);
                CHECK.due("whether all is still", x.about(1), 0);
                CHECK.due("a value", x.value(1, 1, 1), 1);
                CHECK.due("a type", x.typeAt(1, 0, 0, 1, 0), 5);
            }
        });
    }

    /** In a new object, where all but feed is refused. */
    private static void throughAll() {
        CHECK.sentence("A new object: An empty shelf, nothing booted, an empty tape (each call on it is refused)");
        Answers.same(CHECK, "a new object", SealedProcesses::new, () -> {
            SealedProcesses x = new SealedProcesses();
            CHECK.due("load", x.load(1), -2);
            CHECK.due("boot", x.boot(1), -2);
            CHECK.due("discard", x.discard(0), false);
            CHECK.due("run", x.run(1), -1);
            CHECK.due("run(0)", x.run(0), -1);
            CHECK.due("fault", x.fault(0), -1);
            CHECK.due("fault", x.fault(1), -1);
            return x;
        });
    }
}
