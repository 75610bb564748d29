/** Promise 3, edges: names of records, contracts, states and functions, the last that is there and the first that is not. */
public final class NameEdgesTest {
    private static final Check CHECK = new Check("edges of names");
    private static final Loads LOADS = new Loads(CHECK);
    private static final int[] NONE = {255};
    private static final Code EXIT = new Code().op(Op.EXIT);

    public static void main(String[] args) {
        recordsInFields();
        recordsInSignatures();
        recordsInCode();
        contracts();
        contractsInCode();
        states();
        statesThen();
        functions();
        blocksOfInts();
        anywhere();
        firstFromTheLeft();
        CHECK.end();
    }

    /** A name on both sides of the edge: those below the count are there. */
    private interface Named {
        void look(int name, boolean there);
    }

    private static void around(int count, Named named) {
        for (int name : new int[] {0, count - 1, count, count + 1, 16, 128, 255}) {
            if (name >= 0) {
                named.look(name, name < count);
            }
        }
    }

    /** As many records as that, each of one INT. */
    private static Build records(int count) {
        Build build = new Build();
        for (int r = 0; r < count; r++) {
            build.record(1, 0);
        }
        return build;
    }

    private static Build contracts(int count, int states) {
        Build build = new Build();
        for (int c = 0; c < count; c++) {
            build.contract(states, new int[2 * states]);
        }
        return build;
    }

    private static void recordsInFields() {
        CHECK.sentence("Records .. that are named are there: in fields (1 r, 3 r)");
        for (int kind : new int[] {1, 3}) {
            for (int count : new int[] {1, 2, 7, 8}) {
                around(count, (name, there) -> LOADS.told("type " + kind + " of record " + name + " of " + count, there, 2 * count + 3,
                    records(count - 1).record(1, kind, name).function(0, EXIT).bytes()));
                int[] firstNames = Build.joined(new int[] {83, 77, count, 2, 0, kind, count - 1}, new int[0]);
                for (int r = 1; r < count; r++) {
                    firstNames = Build.joined(firstNames, 1, 0);
                }
                LOADS.right("the first names the last of " + count, Build.joined(firstNames, 0, 1, 0, 255, 0, 1, Op.EXIT));
            }
        }
    }

    private static void recordsInSignatures() {
        CHECK.sentence("Records .. that are named are there: of loads, parameters and results (1 r, 3 r, 4 r)");
        for (int count : new int[] {0, 1, 8}) {
            around(count, (name, there) -> {
                LOADS.told("a load of a block of record " + name + " of " + count, there, 2 * count + 8,
                    records(count).contract(1, 1, 1, 4, name, 0).function(0, EXIT).bytes());
                for (int kind : new int[] {1, 3, 4}) {
                    LOADS.told("a parameter of type " + kind + " of record " + name + " of " + count, there, 2 * count + 7,
                        records(count).function(1, Build.types(kind, name), NONE, 1, EXIT).bytes());
                    LOADS.told("a result of type " + kind + " of record " + name + " of " + count, there, 2 * count + 7,
                        records(count).function(0, Build.types(), Build.types(kind, name), 0, EXIT).bytes());
                }
            });
        }
    }

    private static void recordsInCode() {
        CHECK.sentence("Records .. that are named are there: by NEW, ROWS and BLOCK");
        for (int op : new int[] {Op.NEW, Op.ROWS, Op.BLOCK}) {
            for (int count : new int[] {0, 1, 8}) {
                around(count, (name, there) -> {
                    Build build = records(count).function(0, new Code().op(Op.EXIT, op, name));
                    LOADS.told("instruction " + op + " of record " + name + " of " + count, there, build.codeStart(0) + 2, build.bytes());
                });
            }
        }
    }

    private static void contracts() {
        CHECK.sentence("contracts .. that are named are there: in types (5 c s d)");
        for (int count : new int[] {1, 2, 3, 4}) {
            around(count, (name, there) -> {
                LOADS.told("a load's contract " + name + " of " + count, there, 4 + 3 * (count - 1) + 4,
                    contracts(count - 1, 1).contract(1, 1, 1, 5, name, 0, 0, 0).function(0, EXIT).bytes());
                LOADS.told("a parameter's contract " + name + " of " + count, there, 7 + 3 * count,
                    contracts(count, 1).function(1, Build.types(5, name, 0, 1), NONE, 1, EXIT).bytes());
                LOADS.told("a result's contract " + name + " of " + count, there, 7 + 3 * count,
                    contracts(count, 1).function(0, Build.types(), Build.types(5, name, 0, 1), 0, EXIT).bytes());
            });
        }
        LOADS.faulty("a parameter's contract of none", 7, new Build().function(1, Build.types(5, 0, 0, 0), NONE, 1, EXIT).bytes());
    }

    private static void contractsInCode() {
        CHECK.sentence("contracts .. that are named are there: by CHANNEL");
        for (int count = 0; count <= 4; count++) {
            int contracts = count;
            around(count, (name, there) -> {
                Build build = contracts(contracts, 1).function(0, new Code().op(Op.EXIT, Op.CHANNEL, name));
                LOADS.told("CHANNEL of contract " + name + " of " + contracts, there, build.codeStart(0) + 2, build.bytes());
            });
        }
    }

    /** Contract 0 has eight states, contract 1 as many as are told. */
    private static void states() {
        CHECK.sentence("states that are named are there: in types (5 c s d), each of its own contract");
        for (int count : new int[] {1, 2, 7, 8}) {
            around(count, (name, there) -> {
                LOADS.told("a load's state " + name + " of " + count, there, 4 + 17 + 1 + 2 * (count - 1) + 4,
                    contracts(1, 8).contract(count, Build.joined(new int[2 * (count - 1)], 1, 1, 5, 1, name, 0, 0))
                        .function(0, EXIT).bytes());
                LOADS.told("a parameter's state " + name + " of " + count, there, 4 + 17 + 1 + 2 * count + 4,
                    contracts(1, 8).contract(count, new int[2 * count]).function(1, Build.types(5, 1, name, 0), NONE, 1, EXIT).bytes());
                LOADS.told("a result's state " + name + " of " + count, there, 4 + 17 + 1 + 2 * count + 4,
                    contracts(1, 8).contract(count, new int[2 * count]).function(0, Build.types(), Build.types(5, 1, name, 0), 0, EXIT).bytes());
            });
        }
    }

    private static void statesThen() {
        CHECK.sentence("a state (also one that comes next)");
        for (int count : new int[] {1, 2, 7, 8}) {
            around(count, (name, there) -> LOADS.told("the state then is " + name + " of " + count, there, 4 + 17 + 1 + 2 * (count - 1) + 3,
                contracts(1, 8).contract(count, Build.joined(new int[2 * (count - 1)], 2, 1, 255, name)).function(0, EXIT).bytes()));
            // It may be one that stands further on.
            LOADS.right("the first state goes to the last of " + count, new Build()
                .contract(count, Build.joined(new int[] {1, 2, 255, 0, 0, count - 1}, new int[2 * (count - 1)])).function(0, EXIT).bytes());
        }
    }

    private static void functions() {
        CHECK.sentence("names what is not there: a .. function");
        for (int op : new int[] {Op.CALL, Op.SPAWN}) {
            for (int count : new int[] {1, 2, 9, 10}) {
                around(count, (name, there) -> {
                    Build build = new Build();
                    for (int f = 1; f < count; f++) {
                        build.function(0, EXIT);
                    }
                    build.function(0, new Code().op(Op.EXIT, op, name));
                    LOADS.told("instruction " + op + " of function " + name + " of " + count, there, build.codeStart(count - 1) + 2, build.bytes());
                });
            }
        }
        LOADS.right("the first calls the last", new Build().function(0, new Code().op(Op.CALL, 1, Op.RETURN)).function(0, EXIT).bytes());
    }

    /** One other field is enough, wherever it stands among the six. */
    private static void blocksOfInts() {
        CHECK.sentence("a record of a block that has other fields than INTs");
        for (int size : new int[] {1, 2, 6}) {
            LOADS.right("a block of " + size + " INTs", new Build().record(size, new int[size]).function(0, new Code().op(Op.EXIT, Op.BLOCK, 0)).bytes());
            for (int f = 0; f < size; f++) {
                for (int[] other : new int[][] {{1, 0}, {2}, {3, 0}}) {
                    int[] types = Build.joined(Build.joined(new int[f], other), new int[size - f - 1]);
                    Build code = new Build().record(size, types).function(0, new Code().op(Op.EXIT, Op.BLOCK, 0));
                    LOADS.faulty("BLOCK, field " + f + " of " + size, code.codeStart(0) + 2, code.bytes());
                    Build load = new Build().record(size, types).contract(1, 1, 1, 4, 0, 0).function(0, EXIT);
                    LOADS.faulty("a load, field " + f + " of " + size, 4 + types.length + 5, load.bytes());
                    Build parameter = new Build().record(size, types).function(1, Build.types(4, 0), NONE, 1, EXIT);
                    LOADS.faulty("a parameter, field " + f + " of " + size, 4 + types.length + 4, parameter.bytes());
                    Build result = new Build().record(size, types).function(0, Build.types(), Build.types(4, 0), 0, EXIT);
                    LOADS.faulty("a result, field " + f + " of " + size, 4 + types.length + 4, result.bytes());
                    LOADS.right("nodes of it", new Build().record(size, types).function(0, new Code().op(Op.EXIT, Op.NEW, 0, Op.ROWS, 0)).bytes());
                }
            }
        }
    }

    private static void anywhere() {
        CHECK.sentence("that are named are there (anywhere in the module)");
        LOADS.right("a record of the next one's nodes", new Build().record(1, 1, 1).record(1, 3, 0).function(0, EXIT).bytes());
        LOADS.right("a load of the next contract's last state", new Build().contract(1, 1, 1, 5, 1, 1, 1, 0).contract(2, 0, 0, 0, 0).function(0, EXIT).bytes());
        LOADS.faulty("a load of the next contract's state that is none", 9,
            new Build().contract(1, 1, 1, 5, 1, 2, 1, 0).contract(2, 0, 0, 0, 0).function(0, EXIT).bytes());
        LOADS.right("a load of its own contract's next state", new Build().contract(2, 1, 1, 5, 0, 1, 1, 1, 0, 0).function(0, EXIT).bytes());
    }

    private static void firstFromTheLeft() {
        CHECK.sentence("1 at the first byte that names what is not there");
        LOADS.faulty("a field ahead of a load", 5, new Build().record(1, 1, 9).contract(1, 1, 1, 4, 9, 9).function(0, EXIT).bytes());
        LOADS.faulty("a load ahead of its state then", 10, new Build().record(1, 0).contract(1, 1, 1, 4, 9, 9).function(0, EXIT).bytes());
        LOADS.faulty("a state then ahead of a parameter", 11,
            new Build().record(1, 0).contract(1, 1, 1, 4, 0, 9).function(1, Build.types(1, 9), NONE, 1, EXIT).bytes());
        LOADS.faulty("a contract ahead of its state", 10, new Build().contract(1, 0, 0).function(1, Build.types(5, 9, 9, 0), NONE, 1, EXIT).bytes());
        LOADS.faulty("a parameter ahead of a result", 7, new Build().function(1, Build.types(1, 9), Build.types(1, 9), 1, EXIT).bytes());
        LOADS.faulty("a result ahead of code", 7, new Build().function(0, Build.types(), Build.types(1, 9), 1, new Code().op(Op.CALL, 9)).bytes());
        LOADS.faulty("a function's code ahead of the next one's parameter", 10,
            new Build().function(0, new Code().op(Op.CALL, 9)).function(1, Build.types(1, 9), NONE, 1, EXIT).bytes());
        LOADS.faulty("a T ahead of a function", 10, new Build().function(0, new Code().op(Op.JUMP, 9, Op.CALL, 9)).bytes());
    }
}
