/** Promise 8: manifests, their faults, and what is there when one is booted. */
public final class BootTest {
    private static final Check CHECK = new Check("promise 8");

    /**
     * Module 0: function 0 takes nothing, 1 two INTs, 2 the client's end, 3 the server's, 4 a node,
     * 5 has a result, 6 an end in state 1, 7 a block, 8 both ends.
     */
    private static int[] module() {
        Code exit = new Code().op(Op.EXIT);
        int[] none = {255};
        return new Build().record(2, 0, 0)
            .contract(2, Op.CLIENTS, 1, 4, 0, 1, Op.NOBODYS, 0)
            .function(0, exit)
            .function(2, Build.types(0, 0), none, 2, exit)
            .function(1, Build.types(5, 0, 0, Op.CLIENT), none, 1, exit)
            .function(1, Build.types(5, 0, 0, Op.SERVER), none, 1, exit)
            .function(1, Build.types(1, 0), none, 1, exit)
            .function(0, Build.types(), Build.types(0), 0, exit)
            .function(1, Build.types(5, 0, 1, Op.CLIENT), none, 1, exit)
            .function(1, Build.types(4, 0), none, 1, exit)
            .function(2, Build.types(5, 0, 0, Op.CLIENT, 5, 0, 0, Op.SERVER), none, 2, exit)
            .bytes();
    }

    public static void main(String[] args) {
        faults();
        right();
        alike();
        state();
        CHECK.end();
    }

    private static void fault(String what, int fault, int place, int... bytes) {
        SealedProcesses x = new SealedProcesses();
        Build.load(x, module());
        told(x, what, fault, place, bytes);
        CHECK.due(what + ": nothing is booted", x.about(0), -1);
    }

    private static void told(SealedProcesses x, String what, int fault, int place, int... bytes) {
        CHECK.due(what, Build.boot(x, bytes), fault == 0 ? bytes[2] : -1);
        CHECK.due(what + ": fault", x.fault(0), fault);
        CHECK.due(what + ": place", x.fault(1), place);
    }

    private static void faults() {
        int[] whole = {83, 70, 3, 0, 1, 64, 0, 0, 0, 1, 0, 0, 0, 2, 0, 2, 1, 7, 0, 3, 1, 7};
        for (int n = 0; n < whole.length; n++) {
            fault("the first " + n, 1, n, Build.first(whole, n));
        }
        fault("one byte more", 1, whole.length, Build.joined(whole, 0));
        fault("not 83", 1, 0, Build.changed(whole, 0, 82));
        fault("not 83", 1, 0, Build.changed(whole, 0, 84));
        fault("not 70", 1, 1, Build.changed(whole, 1, 77));
        fault("not 70", 1, 1, Build.changed(whole, 1, 71));
        fault("no process", 1, 2, Build.changed(whole, 2, 0));
        fault("7 processes", 1, 2, Build.changed(whole, 2, 7));
        fault("a module that is not there", 3, 3, Build.changed(whole, 3, 1));
        fault("a module beyond the shelf", 3, 3, Build.changed(whole, 3, 6));
        fault("a module 255", 3, 3, Build.changed(whole, 3, 255));
        fault("a function that is not there", 4, 4, Build.changed(whole, 4, 9));
        fault("a function with a node", 4, 4, Build.changed(whole, 4, 4));
        fault("a function with a result", 4, 4, Build.changed(whole, 4, 5));
        fault("a function with an end in state 1", 4, 4, Build.changed(whole, 4, 6));
        fault("a function with a block", 4, 4, Build.changed(whole, 4, 7));
        fault("no heap", 1, 5, Build.changed(whole, 5, 0));
        fault("a heap of 65", 1, 5, Build.changed(whole, 5, 65));
        fault("an end of number 8", 1, 17, Build.changed(whole, 17, 8));
        fault("numbers used once", 6, 22, Build.changed(whole, 21, 6));
        fault("a number used once", 6, 7, 83, 70, 1, 0, 2, 1, 3);
        fault("the same side", 5, 10, 83, 70, 2, 0, 2, 1, 3, 0, 2, 1, 3);
        fault("a number used three times", 5, 14, 83, 70, 3, 0, 2, 1, 3, 0, 3, 1, 3, 0, 2, 1, 3);
        fault("used once, and a byte more", 1, 7, 83, 70, 1, 0, 2, 1, 3, 0);
        fault("the first from the left", 3, 7, 83, 70, 2, 0, 2, 1, 3, 1, 9, 99);
    }

    private static void right() {
        SealedProcesses x = new SealedProcesses();
        Build.load(x, module());
        told(x, "six processes", 0, -1,
            83, 70, 6, 0, 0, 1, 0, 1, 64, 127, 255, 255, 255, 128, 0, 0, 0, 0, 3, 2, 7, 0, 8, 1, 7, 4, 0, 2, 1, 4, 0, 0, 1);
        told(x, "one process with both ends", 0, -1, 83, 70, 1, 0, 8, 5, 0, 0);
        CHECK.due("one channel", x.about(3), 1);
        CHECK.due("the client's owner", x.channel(0, 0, 1), 0);
        CHECK.due("the server's owner", x.channel(0, 1, 1), 0);
        Build.feed(x, 83, 70, 1, 0, 0, 1);
        CHECK.due("boot(-1)", x.boot(-1), -2);
        CHECK.due("boot(21)", x.boot(21), -2);
        CHECK.due("nothing was done", x.about(3), 1);
        CHECK.due("boot(6)", x.boot(6), 1);
        CHECK.due("no channel", x.about(3), 0);
        CHECK.due("the tape is empty", x.boot(1), -2);
        x.run(10);
        CHECK.due("steps", x.about(0), 1);
        CHECK.due("a fault", Build.boot(x, 83, 70, 0), -1);
        CHECK.due("what ran stays", x.about(0), 1);
        CHECK.due("the tape is empty", x.boot(1), -2);
        told(x, "boot again", 0, -1, 83, 70, 1, 0, 0, 1);
        CHECK.due("no steps", x.about(0), 0);
    }

    /** A module whose function 0 has the end of contract 0 of that side. */
    private static int[] ended(int side, int[] record, int[]... contracts) {
        Build build = new Build().record(record.length, record);
        for (int[] contract : contracts) {
            build.contract(contract[0], java.util.Arrays.copyOfRange(contract, 1, contract.length));
        }
        return build.function(1, Build.types(5, 0, 0, side), Build.types(255), 1, new Code().op(Op.EXIT)).bytes();
    }

    private static void pair(String what, boolean alike, int[] client, int[] server) {
        SealedProcesses x = new SealedProcesses();
        CHECK.due(what + ": client", Build.load(x, client), 0);
        CHECK.due(what + ": server", Build.load(x, server), 1);
        told(x, what, alike ? 0 : 5, alike ? -1 : 10, 83, 70, 2, 0, 0, 1, 0, 1, 0, 1, 0);
        told(x, what + ", turned", alike ? 0 : 5, alike ? -1 : 10, 83, 70, 2, 1, 0, 1, 0, 0, 0, 1, 0);
    }

    private static void alike() {
        int[] one = {0};
        int[] two = {0, 0};
        int[] plain = {2, 1, 2, 255, 1, 0, 0, 0, 0};
        pair("the same", true, ended(0, one, plain), ended(1, one, plain));
        pair("more states", false, ended(0, one, plain), ended(1, one, new int[] {3, 1, 2, 255, 1, 0, 0, 0, 0, 0, 0}));
        pair("another turn", false, ended(0, one, plain), ended(1, one, new int[] {2, 2, 2, 255, 1, 0, 0, 0, 0}));
        pair("fewer messages", false, ended(0, one, plain), ended(1, one, new int[] {2, 1, 1, 255, 1, 0, 0}));
        pair("another state then", false, ended(0, one, plain), ended(1, one, new int[] {2, 1, 2, 255, 1, 0, 1, 0, 0}));
        pair("another load", false, ended(0, one, plain), ended(1, one, new int[] {2, 1, 2, 0, 1, 0, 0, 0, 0}));
        int[] block = {1, 1, 1, 4, 0, 0};
        pair("blocks of as many fields", true, ended(0, two, block), ended(1, two, block));
        pair("blocks of more fields", false, ended(0, two, block), ended(1, one, block));
        int[] end = {2, 1, 1, 5, 1, 0, 0, 0, 0, 0};
        int[] leaf = {1, 0, 0};
        int[] other = {1, 1, 1, 255, 0};
        pair("ends of alike contracts", true, ended(0, one, end, leaf), ended(1, one, end, leaf));
        pair("ends of others", false, ended(0, one, end, leaf), ended(1, one, end, other));
        pair("ends of another side", false, ended(0, one, end, leaf),
            ended(1, one, new int[] {2, 1, 1, 5, 1, 0, 1, 0, 0, 0}, leaf));
        int[] longer = {2, 0, 0, 0, 0};
        pair("ends of another state", false, ended(0, one, end, longer),
            ended(1, one, new int[] {2, 1, 1, 5, 1, 1, 0, 0, 0, 0}, longer));
        // Contracts that name themselves, or one another: they are alike as long as nothing is unlike.
        int[] self = {1, 1, 1, 5, 0, 0, 0, 0};
        int[] toOther = {1, 1, 1, 5, 1, 0, 0, 0};
        pair("a ring of one and a ring of two", true, ended(0, one, self), ended(1, one, toOther, self));
        int[] toThird = {1, 1, 1, 5, 2, 0, 0, 0};
        pair("a ring that ends", false, ended(0, one, self), ended(1, one, toOther, toThird, leaf));
        int[] deepBlock = {1, 1, 1, 4, 0, 0};
        pair("unlike far down", false, ended(0, one, toOther, toThird, deepBlock), ended(1, two, toOther, toThird, deepBlock));
        pair("alike far down", true, ended(0, two, toOther, toThird, deepBlock), ended(1, two, toOther, toThird, deepBlock));
    }

    private static void state() {
        SealedProcesses x = new SealedProcesses();
        Build.load(x, module());
        Build.load(x, module());
        CHECK.due("boot", Build.boot(x, 83, 70, 4, 1, 1, 64, 255, 255, 255, 254, 128, 0, 0, 1,
            0, 3, 1, 5, 0, 8, 2, 2, 2, 1, 2, 3, 5), 4);
        int[] heaps = {1024, 16, 32, 48};
        int[] places = {1, 0, 0, 1};
        int[] functions = {1, 3, 8, 2};
        for (int p = 0; p < 4; p++) {
            int[] due = {1, 0, places[p], functions[p], 0, 1, 0, 0, heaps[p], 0};
            for (int what = 0; what < 10; what++) {
                CHECK.due("process(" + p + ", " + what + ")", x.process(p, what), due[what]);
            }
        }
        CHECK.due("process(4, 0)", x.process(4, 0), -1);
        CHECK.due("an INT", x.value(0, 1, 0), -2);
        CHECK.due("an INT", x.value(0, 1, 1), Integer.MIN_VALUE + 1);
        CHECK.due("the first number's server", x.value(1, 1, 0), 1);
        CHECK.due("the second number's client", x.value(2, 1, 0), 2);
        CHECK.due("the second number's server", x.value(2, 1, 1), 3);
        CHECK.due("the first number's client", x.value(3, 1, 0), 0);
        CHECK.due("channels", x.about(3), 2);
        int[] owners = {3, 1, 2, 2};
        for (int e = 0; e < 4; e++) {
            CHECK.due("state of " + e, x.channel(e / 2, e % 2, 0), 0);
            CHECK.due("owner of " + e, x.channel(e / 2, e % 2, 1), owners[e]);
            CHECK.due("waiting for " + e, x.channel(e / 2, e % 2, 2), 0);
        }
        CHECK.due("channel(2, 0, 0)", x.channel(2, 0, 0), -1);
    }
}
