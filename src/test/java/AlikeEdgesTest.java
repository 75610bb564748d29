/** Promise 8, edges: contracts that are alike, and such that are unlike by one thing, wherever it stands. */
public final class AlikeEdgesTest {
    private static final Check CHECK = new Check("edges of alike contracts");
    private static final int[] NONE = {255};

    public static void main(String[] args) {
        states();
        turns();
        messages();
        loads();
        statesThen();
        blocks();
        ends();
        howeverFar();
        manyPairs();
        rings();
        sameModule();
        others();
        CHECK.end();
    }

    /** A module of records of 1 to 6 INTs, whose functions 0 and 1 have the client's and the server's end of contract 0. */
    private static Build module(int[]... contracts) {
        Build build = new Build();
        for (int fields = 1; fields <= 6; fields++) {
            build.record(fields, new int[fields]);
        }
        for (int[] contract : contracts) {
            build.contract(contract[0], java.util.Arrays.copyOfRange(contract, 1, contract.length));
        }
        Code exit = new Code().op(Op.EXIT);
        return build.function(1, Build.types(5, 0, 0, Op.CLIENT), NONE, 1, exit).function(1, Build.types(5, 0, 0, Op.SERVER), NONE, 1, exit);
    }

    /** The first use is of the one module's contract 0, the second of the other's; and turned. */
    private static void pair(String what, boolean alike, int[][] one, int[][] other) {
        SealedProcesses x = new SealedProcesses();
        CHECK.due(what + ": the one", Build.load(x, module(one).bytes()), 0);
        CHECK.due(what + ": the other", Build.load(x, module(other).bytes()), 1);
        for (int turned = 0; turned < 2; turned++) {
            for (int side = 0; side < 2; side++) {
                int due = Build.boot(x, 83, 70, 2, turned, side, 1, 0, 1 - turned, 1 - side, 1, 0);
                CHECK.due(what, due, alike ? 2 : -1);
                CHECK.due(what + ": fault", x.fault(0), alike ? 0 : 5);
                CHECK.due(what + ": place", x.fault(1), alike ? -1 : 10);
            }
        }
    }

    private static void alike(String what, int[] one, int[] other) {
        pair(what, true, new int[][] {one}, new int[][] {other});
    }

    private static void unlike(String what, int[] one, int[] other) {
        pair(what, false, new int[][] {one}, new int[][] {other});
    }

    private static int[] bytes(int... bytes) {
        return bytes;
    }

    private static void states() {
        CHECK.sentence("of a contract that is not alike: as many states");
        for (int one = 1; one <= 8; one++) {
            for (int other : new int[] {one - 1, one, one + 1}) {
                if (other >= 1 && other <= 8) {
                    pair(one + " states and " + other, one == other, new int[][] {Build.joined(bytes(one), new int[2 * one])},
                        new int[][] {Build.joined(bytes(other), new int[2 * other])});
                }
            }
        }
    }

    /** Eight states of the client's turn with one bare message each, but one of them changed. */
    private static int[] eight(int changed, int... state) {
        int[] made = {8};
        for (int s = 0; s < 8; s++) {
            made = Build.joined(made, s == changed ? state : bytes(1, 1, 255, 0));
        }
        return made;
    }

    private static void turns() {
        CHECK.sentence("each with the same turn");
        int[] plain = eight(-1);
        alike("all the same", plain, plain);
        for (int s = 0; s < 8; s++) {
            unlike("the server's turn in state " + s, plain, eight(s, 2, 1, 255, 0));
            unlike("nobody's turn in state " + s, plain, eight(s, 0, 0));
            unlike("nobody's and the server's in state " + s, eight(s, 0, 0), eight(s, 2, 1, 255, 0));
        }
    }

    private static void messages() {
        CHECK.sentence("as many messages");
        for (int s = 0; s < 8; s++) {
            for (int one = 1; one <= 4; one++) {
                for (int other = 1; other <= 4; other++) {
                    int[] first = eight(s, bare(one));
                    int[] second = eight(s, bare(other));
                    pair(one + " messages and " + other + " in state " + s, one == other, new int[][] {first}, new int[][] {second});
                }
            }
        }
    }

    private static int[] bare(int messages) {
        int[] made = {2, messages};
        for (int t = 0; t < messages; t++) {
            made = Build.joined(made, 255, 0);
        }
        return made;
    }

    /** Four messages, all bare but one, which goes to that state. */
    private static int[] four(int changed, int[] load, int then) {
        int[] made = {1, 4};
        for (int t = 0; t < 4; t++) {
            made = t == changed ? Build.joined(Build.joined(made, load), then) : Build.joined(made, 255, 0);
        }
        return made;
    }

    private static void loads() {
        CHECK.sentence("these with alike loads (INT, blocks of as many fields, or ends ..)");
        int[][] loads = {{255}, {0}, {4, 2}, {5, 0, 0, 0}};
        for (int one = 0; one < loads.length; one++) {
            for (int other = 0; other < loads.length; other++) {
                for (int t = 0; t < 4; t++) {
                    int[] first = eight(7, four(t, loads[one], 0));
                    int[] second = eight(7, four(t, loads[other], 0));
                    pair("loads " + loads[one][0] + " and " + loads[other][0] + " of message " + t, one == other, new int[][] {first}, new int[][] {second});
                }
            }
        }
    }

    private static void statesThen() {
        CHECK.sentence("these with alike .. states then");
        for (int s : new int[] {0, 7}) {
            for (int t = 0; t < 4; t++) {
                for (int then : new int[] {0, 1, 6, 7}) {
                    pair("message " + t + " of state " + s + " to 7 and " + then, then == 7,
                        new int[][] {eight(s, four(t, NONE, 7))}, new int[][] {eight(s, four(t, NONE, then))});
                }
            }
        }
    }

    private static void blocks() {
        CHECK.sentence("loads are alike when they are .. blocks of as many fields");
        for (int one = 0; one < 6; one++) {
            for (int other = 0; other < 6; other++) {
                pair("blocks of records " + one + " and " + other, one == other,
                    new int[][] {bytes(1, 1, 1, 4, one, 0)}, new int[][] {bytes(1, 1, 1, 4, other, 0)});
            }
        }
        // The records' numbers may differ, and so may their modules' other records.
        SealedProcesses x = new SealedProcesses();
        Code exit = new Code().op(Op.EXIT);
        Build.load(x, new Build().record(2, 0, 0).contract(1, 1, 1, 4, 0, 0).function(1, Build.types(5, 0, 0, 0), NONE, 1, exit).bytes());
        Build.load(x, new Build().record(1, 2).record(3, 0, 0, 0).record(2, 0, 0).contract(1, 1, 1, 4, 2, 0)
            .function(1, Build.types(5, 0, 0, 1), NONE, 1, exit).bytes());
        CHECK.due("blocks of records of other numbers", Build.boot(x, 83, 70, 2, 0, 0, 1, 0, 1, 0, 1, 0), 2);
    }

    private static void ends() {
        CHECK.sentence("ends of one state and side of alike contracts");
        int[] leaf = {3, 0, 0, 0, 0, 0, 0};
        for (int state = 0; state < 3; state++) {
            for (int side = 0; side < 2; side++) {
                for (int state2 = 0; state2 < 3; state2++) {
                    for (int side2 = 0; side2 < 2; side2++) {
                        pair("ends in states " + state + " and " + state2 + ", of sides " + side + " and " + side2, state == state2 && side == side2,
                            new int[][] {bytes(1, 1, 1, 5, 1, state, side, 0), leaf}, new int[][] {bytes(1, 1, 1, 5, 1, state2, side2, 0), leaf});
                    }
                }
            }
        }
        int[] end = {1, 1, 1, 5, 1, 0, 0, 0};
        pair("of contracts of more states", false, new int[][] {end, leaf}, new int[][] {end, bytes(2, 0, 0, 0, 0)});
        // The contracts' numbers may differ.
        pair("of contracts of other numbers", true, new int[][] {end, leaf}, new int[][] {bytes(1, 1, 1, 5, 3, 0, 0, 0), bytes(1, 0, 0), bytes(2, 0, 0, 0, 0), leaf});
    }

    /** Each contract's load is the next one's end; the last one's is what is told. */
    private static int[][] chain(int length, int... last) {
        int[][] made = new int[length][];
        for (int c = 0; c < length - 1; c++) {
            made[c] = bytes(2, 1, 1, 5, c + 1, 0, 1, 1, 0, 0);
        }
        made[length - 1] = last;
        return made;
    }

    private static void howeverFar() {
        CHECK.sentence("two are unlike when there is anything in them, however far, that is not so");
        for (int length = 1; length <= 4; length++) {
            pair("alike at depth " + length, true, chain(length, 1, 1, 1, 4, 3, 0), chain(length, 1, 1, 1, 4, 3, 0));
            pair("other blocks at depth " + length, false, chain(length, 1, 1, 1, 4, 3, 0), chain(length, 1, 1, 1, 4, 4, 0));
            pair("another turn at depth " + length, false, chain(length, 1, 1, 1, 0, 0), chain(length, 1, 2, 1, 0, 0));
            pair("another state then at depth " + length, false, chain(length, 2, 1, 1, 255, 0, 0, 0), chain(length, 2, 1, 1, 255, 1, 0, 0));
        }
        // What is unlike stands behind the second load, and behind an end that is alike.
        int[] two = {1, 1, 2, 5, 1, 0, 0, 0, 5, 2, 0, 0, 0};
        pair("the second load's contract", false, new int[][] {two, bytes(1, 0, 0), bytes(1, 0, 0)}, new int[][] {two, bytes(1, 0, 0), bytes(2, 0, 0, 0, 0)});
        pair("the first load's contract", false, new int[][] {two, bytes(2, 0, 0, 0, 0), bytes(1, 0, 0)}, new int[][] {two, bytes(1, 0, 0), bytes(1, 0, 0)});
        pair("both alike", true, new int[][] {two, bytes(1, 0, 0), bytes(2, 0, 0, 0, 0)}, new int[][] {two, bytes(1, 0, 0), bytes(2, 0, 0, 0, 0)});
        // A contract that was found alike to one may be unlike another.
        int[] self = {1, 1, 2, 5, 0, 0, 0, 0, 5, 1, 0, 0, 0};
        pair("alike to the one, unlike the other", false, new int[][] {self, bytes(1, 0, 0)}, new int[][] {two, bytes(1, 0, 0), bytes(1, 0, 0)});
    }

    /** Three contracts of three states each, all of one shape, whose loads bring together each with each, and only then a fourth with a fourth. */
    private static void manyPairs() {
        CHECK.sentence("two are unlike when there is anything in them, however far (behind all pairs of three, and behind the same pair again and again)");
        int[] one = {0, 0, 1, 1, 1, 2, 2, 2, 2, 2, 2, 3};
        int[] other = {1, 2, 0, 1, 2, 0, 1, 2, 2, 2, 2, 3};
        for (boolean alike : new boolean[] {true, false}) {
            int[] last = alike ? bytes(1, 1, 1, 255, 0) : bytes(1, 2, 1, 255, 0);
            pair("a fourth behind all pairs of three", alike, new int[][] {loaded(one), loaded(one), loaded(one), bytes(1, 1, 1, 255, 0)},
                new int[][] {loaded(other), loaded(other), loaded(other), last});
            int[] same = new int[32];
            java.util.Arrays.fill(same, 1);
            same[31] = 2;
            pair("the last of 32 loads", alike, new int[][] {loaded(same), bytes(1, 0, 0), bytes(1, 1, 1, 255, 0)}, new int[][] {loaded(same), bytes(1, 0, 0), last});
        }
    }

    /** A contract of as many messages, four in a state, with client's ends of such contracts. */
    private static int[] loaded(int... contracts) {
        int[] made = {contracts.length / 4};
        for (int i = 0; i < contracts.length; i++) {
            made = Build.joined(i % 4 == 0 ? Build.joined(made, 1, 4) : made, 5, contracts[i], 0, 0, 0);
        }
        return made;
    }

    private static void rings() {
        CHECK.sentence("two are unlike when there is anything in them, however far, that is not so (in rings there is nothing)");
        for (int one = 1; one <= 4; one++) {
            for (int other = 1; other <= 4; other++) {
                pair("rings of " + one + " and " + other, true, ring(one), ring(other));
                int[][] broken = ring(other);
                broken[other - 1] = bytes(1, 1, 1, 5, 0, 0, 0, 0);
                pair("rings of " + one + " and " + other + ", of another side in the last", false, ring(one), broken);
            }
        }
    }

    private static int[][] ring(int length) {
        int[][] made = new int[length][];
        for (int c = 0; c < length; c++) {
            made[c] = bytes(1, 1, 1, 5, (c + 1) % length, 0, 1, 0);
        }
        return made;
    }

    /** Two contracts of one module may be alike, too. */
    private static void sameModule() {
        CHECK.sentence("of a contract that is not alike (in one module)");
        Code exit = new Code().op(Op.EXIT);
        for (int then = 0; then < 2; then++) {
            SealedProcesses x = new SealedProcesses();
            Build.load(x, new Build().contract(2, 1, 1, 0, 1, 0, 0).contract(2, 1, 1, 0, then, 0, 0)
                .function(1, Build.types(5, 0, 0, 0), NONE, 1, exit).function(1, Build.types(5, 1, 0, 1), NONE, 1, exit).bytes());
            CHECK.due("the state then is " + then, Build.boot(x, 83, 70, 2, 0, 0, 1, 4, 0, 1, 1, 4), then == 1 ? 2 : -1);
            CHECK.due("its fault", x.fault(0), then == 1 ? 0 : 5);
        }
    }

    /** What is unlike is looked at for each number by itself. */
    private static void others() {
        CHECK.sentence("5 a number of an end .. whose other use is .. of a contract that is not alike (at that number)");
        SealedProcesses x = new SealedProcesses();
        Build.load(x, module(bytes(1, 1, 1, 255, 0)).bytes());
        Build.load(x, module(bytes(1, 1, 1, 0, 0)).bytes());
        CHECK.due("each with its own", Build.boot(x, 83, 70, 4, 0, 0, 1, 1, 1, 0, 1, 2, 0, 1, 1, 1, 1, 1, 1, 2), 4);
        CHECK.due("the second pair", Build.boot(x, 83, 70, 4, 0, 0, 1, 1, 1, 0, 1, 2, 0, 1, 1, 1, 0, 1, 1, 2), -1);
        CHECK.due("its fault", x.fault(0), 5);
        CHECK.due("its place", x.fault(1), 18);
        CHECK.due("crossed", Build.boot(x, 83, 70, 4, 0, 0, 1, 1, 1, 0, 1, 2, 0, 1, 1, 2, 1, 1, 1, 1), -1);
        CHECK.due("its fault", x.fault(0), 5);
        CHECK.due("its place", x.fault(1), 14);
    }
}
