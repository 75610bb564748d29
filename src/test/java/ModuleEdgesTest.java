/** Promise 3, edges: the least and the most of everything that a module may hold. */
public final class ModuleEdgesTest {
    private static final Check CHECK = new Check("edges of modules");
    private static final Loads LOADS = new Loads(CHECK);
    private static final int[] NONE = {255};
    /** A function without parameters, result and locals, whose code is RETURN. */
    private static final int[] LEAST = {0, 255, 0, 1, Op.RETURN};

    public static void main(String[] args) {
        firstBytes();
        records();
        fields();
        contracts();
        states();
        turns();
        messages();
        functions();
        parameters();
        locals();
        bytesOfCode();
        typesOfFields();
        typesOfLoads();
        typesOfParameters();
        typesOfResults();
        sides();
        behind();
        theEnd();
        largest();
        CHECK.end();
    }

    private static Code returns() {
        return new Code().op(Op.RETURN);
    }

    /** The bytes ahead, then as many times the same bytes, then the bytes behind. */
    private static int[] many(int[] ahead, int count, int[] each, int... behind) {
        int[] made = ahead;
        for (int i = 0; i < count; i++) {
            made = Build.joined(made, each);
        }
        return Build.joined(made, behind);
    }

    private static int[] bytes(int... bytes) {
        return bytes;
    }

    private static void firstBytes() {
        CHECK.sentence("module = 83, 77");
        int[] least = Build.joined(bytes(83, 77, 0, 0, 1), LEAST);
        LOADS.right("83, 77", least);
        for (int other : new int[] {0, 82, 84, 255}) {
            LOADS.faulty("first " + other, 0, Build.changed(least, 0, other));
        }
        for (int other : new int[] {0, 70, 76, 78, 255}) {
            LOADS.faulty("second " + other, 1, Build.changed(least, 1, other));
        }
    }

    private static void records() {
        CHECK.sentence("R (0 to 8), R records");
        for (int r : new int[] {0, 1, 7, 8, 9, 10}) {
            int[] made = many(bytes(83, 77, r), r, bytes(1, 0), Build.joined(bytes(0, 1), LEAST));
            LOADS.told(r + " records", r <= 8, 2, made);
        }
        LOADS.faulty("255 records", 2, many(bytes(83, 77, 255), 255, bytes(1, 0), Build.joined(bytes(0, 1), LEAST)));
        LOADS.faulty("8 records that are told, of 7: the next byte is no number of fields", 17, many(bytes(83, 77, 8), 7, bytes(1, 0), Build.joined(bytes(0, 1), LEAST)));
    }

    private static void fields() {
        CHECK.sentence("record = how many fields (1 to 6), for each a type");
        for (int f : new int[] {0, 1, 2, 5, 6, 7, 255}) {
            int[] made = many(bytes(83, 77, 1, f), f, bytes(0), Build.joined(bytes(0, 1), LEAST));
            LOADS.told(f + " fields", f >= 1 && f <= 6, 3, made);
        }
        int[] eight = many(bytes(83, 77, 8), 8, bytes(6, 0, 2, 0, 2, 0, 2), Build.joined(bytes(0, 1), LEAST));
        LOADS.right("8 records of 6 fields", eight);
        LOADS.faulty("the last record's number of fields", 3 + 7 * 7, Build.changed(eight, 3 + 7 * 7, 7));
        LOADS.faulty("the last record's last field", 3 + 8 * 7 - 1, Build.changed(eight, 3 + 8 * 7 - 1, 4));
    }

    private static void contracts() {
        CHECK.sentence("C (0 to 4), C contracts");
        for (int c : new int[] {0, 1, 3, 4, 5, 255}) {
            int[] made = many(bytes(83, 77, 0, c), c, bytes(1, 0, 0), Build.joined(bytes(1), LEAST));
            LOADS.told(c + " contracts", c <= 4, 3, made);
        }
    }

    private static void states() {
        CHECK.sentence("contract = how many states (1 to 8)");
        for (int s : new int[] {0, 1, 2, 7, 8, 9, 255}) {
            int[] made = many(bytes(83, 77, 0, 1, s), s, bytes(0, 0), Build.joined(bytes(1), LEAST));
            LOADS.told(s + " states", s >= 1 && s <= 8, 4, made);
        }
    }

    private static void turns() {
        CHECK.sentence("whose TURN it is (0 nobody's, 1 the client's, 2 the server's)");
        LOADS.right("nobody's", Build.joined(bytes(83, 77, 0, 1, 1, 0, 0, 1), LEAST));
        for (int turn : new int[] {1, 2, 3, 4, 255}) {
            LOADS.told("turn " + turn, turn <= 2, 5, Build.joined(bytes(83, 77, 0, 1, 1, turn, 1, 255, 0, 1), LEAST));
            LOADS.told("turn " + turn + " of the eighth state", turn <= 2, 19,
                many(bytes(83, 77, 0, 1, 8), 7, bytes(0, 0), Build.joined(bytes(turn, 1, 255, 0, 1), LEAST)));
        }
    }

    private static void messages() {
        CHECK.sentence("how many messages (0 to 4: none if it is nobody's, else at least one)");
        for (int turn = 0; turn <= 2; turn++) {
            for (int t : new int[] {0, 1, 2, 3, 4, 5, 255}) {
                boolean right = turn == 0 ? t == 0 : t >= 1 && t <= 4;
                int[] made = many(bytes(83, 77, 0, 1, 1, turn, t), t, bytes(255, 0), Build.joined(bytes(1), LEAST));
                LOADS.told("turn " + turn + ", messages " + t, right, 6, made);
            }
        }
        // 8 states, of which each has 4 messages, are the most that a contract holds.
        int[] state = {1, 4, 255, 0, 255, 7, 0, 0, 0, 7};
        int[] most = many(bytes(83, 77, 0, 1, 8), 8, state, Build.joined(bytes(1), LEAST));
        LOADS.right("32 messages", most);
        LOADS.faulty("the last message's load", 5 + 80 - 2, Build.changed(most, 5 + 80 - 2, 1));
        LOADS.faulty("the last message's state then", 5 + 80 - 1, Build.changed(most, 5 + 80 - 1, 8));
    }

    private static void functions() {
        CHECK.sentence("F (1 to 10), F functions");
        for (int f : new int[] {0, 1, 2, 9, 10, 11, 255}) {
            LOADS.told(f + " functions", f >= 1 && f <= 10, 4, many(bytes(83, 77, 0, 0, f), f, LEAST));
        }
        SealedProcesses x = LOADS.right("10 functions", many(bytes(83, 77, 0, 0, 10), 10, LEAST));
        CHECK.due("functions", x.module(0, 0, 2), 10);
        CHECK.due("where the last one's code begins", x.module(0, 9, 13), 5 + 10 * 5 - 1);
        CHECK.due("there is no eleventh", x.module(0, 10, 13), -1);
    }

    private static void parameters() {
        CHECK.sentence("function = how many parameters (0 to 4), for each a type");
        for (int p : new int[] {0, 1, 3, 4, 5, 255}) {
            int[] made = many(bytes(83, 77, 0, 0, 1, p), p, bytes(0), 255, 10, 1, Op.RETURN);
            LOADS.told(p + " parameters", p <= 4, 5, made);
        }
    }

    private static void locals() {
        CHECK.sentence("how many locals (as many as parameters to 10)");
        for (int p = 0; p <= 4; p++) {
            for (int locals : new int[] {0, 1, 2, 3, 4, 5, 9, 10, 11, 255}) {
                int[] made = many(bytes(83, 77, 0, 0, 1, p), p, bytes(0), 255, locals, 1, Op.RETURN);
                LOADS.told(p + " parameters, " + locals + " locals", locals >= p && locals <= 10, 7 + p, made);
            }
        }
    }

    private static void bytesOfCode() {
        CHECK.sentence("how many bytes of code (1 to 240); the code");
        for (int length : new int[] {0, 1, 2, 239, 240, 241, 255}) {
            int[] code = many(bytes(), Math.max(0, length - 1), bytes(Op.YIELD), length > 0 ? bytes(Op.RETURN) : bytes());
            int[] made = Build.joined(bytes(83, 77, 0, 0, 1, 0, 255, 0, length), code);
            LOADS.told(length + " bytes of code", length >= 1 && length <= 240, 8, made);
        }
        int[] most = Build.joined(bytes(83, 77, 0, 0, 1, 0, 255, 0, 240), many(bytes(), 239, bytes(Op.YIELD), Op.RETURN));
        LOADS.wrong("the last byte of 240 is looked at", 9, Build.changed(most, 9 + 239, Op.YIELD));
        LOADS.faulty("the last byte of 240 is an instruction", 9 + 239, Build.changed(most, 9 + 239, 44));
    }

    /** What stands behind the first byte of a type, for one of record 0, and of contract 0 in state 0. */
    private static int[] typed(int first) {
        switch (first) {
            case 1: case 3: case 4: return bytes(first, 0);
            case 5: return bytes(5, 0, 0, 1);
            default: return bytes(first);
        }
    }

    private static void typesOfFields() {
        CHECK.sentence("a type that may not stand there (at its first byte): Fields have types 0 to 3");
        for (int first = 0; first < 256; first++) {
            int[] made = Build.joined(bytes(83, 77, 2, 1, 0, 2, 0), typed(first));
            LOADS.told("a field of type " + first, first <= 3, 7, Build.joined(made, Build.joined(bytes(1, 1, 0, 0, 1), LEAST)));
        }
    }

    private static void typesOfLoads() {
        CHECK.sentence("its load (a type, or 255: none): loads 0, 4 or 5");
        for (int first = 0; first < 256; first++) {
            boolean right = first == 0 || first == 4 || first == 5 || first == 255;
            int[] made = Build.joined(bytes(83, 77, 1, 1, 0, 1, 1, 1, 1), typed(first));
            LOADS.told("a load of type " + first, right, 9, Build.joined(made, Build.joined(bytes(0, 1), LEAST)));
        }
    }

    private static void typesOfParameters() {
        CHECK.sentence("a type that may not stand there: type = 0 (INT) to 5 (an END); a parameter is not none");
        for (int first = 0; first < 256; first++) {
            int[] made = Build.joined(bytes(83, 77, 1, 1, 0, 1, 1, 0, 0, 1, 1), typed(first));
            LOADS.told("a parameter of type " + first, first <= 5, 11, Build.joined(made, bytes(255, 1, 1, Op.EXIT)));
        }
    }

    private static void typesOfResults() {
        CHECK.sentence("its result (a type, or 255: none)");
        for (int first = 0; first < 256; first++) {
            int[] made = Build.joined(bytes(83, 77, 1, 1, 0, 1, 1, 0, 0, 1, 0), typed(first));
            LOADS.told("a result of type " + first, first <= 5 || first == 255, 11, Build.joined(made, bytes(0, 1, Op.EXIT)));
        }
    }

    private static void sides() {
        CHECK.sentence("a side above 1 (of side d: 0 the client's, 1 the server's)");
        for (int side : new int[] {0, 1, 2, 3, 254, 255}) {
            LOADS.told("a load of side " + side, side <= 1, 10,
                Build.joined(bytes(83, 77, 0, 1, 1, 1, 1, 5, 0, 0, side, 0, 1), LEAST));
            LOADS.told("a parameter of side " + side, side <= 1, 12,
                bytes(83, 77, 0, 1, 1, 0, 0, 1, 1, 5, 0, 0, side, 255, 1, 1, Op.EXIT));
            LOADS.told("a result of side " + side, side <= 1, 12,
                bytes(83, 77, 0, 1, 1, 0, 0, 1, 0, 5, 0, 0, side, 0, 1, Op.EXIT));
        }
    }

    private static void behind() {
        CHECK.sentence("Nothing stands behind the last function");
        int[] one = new Build().function(0, returns()).bytes();
        for (int more : new int[] {0, 31, 83, 255}) {
            LOADS.faulty("behind it " + more, one.length, Build.joined(one, more));
        }
        LOADS.faulty("behind it a whole function", one.length, Build.joined(one, LEAST));
        LOADS.faulty("behind it a thousand bytes", one.length, many(one, 1000, bytes(Op.RETURN)));
        LOADS.right("nothing", one);
    }

    /** Each byte of a module that holds something of all is needed. */
    private static void theEnd() {
        CHECK.sentence("the first byte with which no module goes on, or the end");
        int[] whole = new Build().record(2, 0, 1, 1).record(1, 0)
            .contract(2, 2, 3, 4, 1, 1, 5, 0, 1, 1, 0, 255, 1, 0, 0)
            .function(3, Build.types(0, 5, 0, 0, 1, 4, 1), Build.types(3, 0), 4,
                new Code().push(-2).op(Op.POP, Op.NIL, Op.STORE, 3, Op.NEW, 0, Op.GET, 1, Op.POP, Op.EXIT))
            .function(0, Build.types(), NONE, 10, new Code().op(Op.CHANNEL, 0, Op.SWAP).receive("a", "b", "c")
                .label("a").op(Op.EXIT).label("b").op(Op.EXIT).label("c").op(Op.EXIT)).bytes();
        for (int n = 0; n < whole.length; n++) {
            LOADS.faulty("the first " + n, n, Build.first(whole, n));
        }
        LOADS.right("the whole", whole);
    }

    /** A module of all bytes that a tape holds, and one of the most records, contracts and functions. */
    private static void largest() {
        CHECK.sentence("MODULES are bytes (as many as a tape holds: 2,000)");
        int[] made = {83, 77, 0, 0, 10};
        for (int f = 0; f < 10; f++) {
            made = Build.joined(made, many(bytes(0, 255, 0, f < 5 ? 195 : 196), f < 5 ? 194 : 195, bytes(Op.YIELD), Op.RETURN));
        }
        SealedProcesses x = LOADS.right("2,000 bytes", made);
        CHECK.due("bytes", x.module(0, 0, 3), 2000);
        CHECK.due("where the last one's code begins", x.module(0, 9, 13), 2000 - 196);
        LOADS.faulty("the last byte counts", 1999, Build.changed(made, 1999, 44));
        LOADS.wrong("the last function counts", 2000 - 196, Build.changed(made, 1999, Op.YIELD));

        int[] state = {2, 4, 4, 7, 7, 5, 3, 7, 1, 6, 0, 5, 255, 4};
        int[] most = many(bytes(83, 77, 8), 8, bytes(6, 0, 0, 0, 0, 0, 0), 4);
        for (int c = 0; c < 4; c++) {
            most = many(Build.joined(most, 8), 8, state);
        }
        most = many(Build.joined(most, 10), 10, bytes(4, 5, 3, 7, 1, 4, 7, 3, 7, 1, 7, 5, 3, 7, 1, 10, 1, Op.EXIT));
        SealedProcesses y = LOADS.right("the most of all", most);
        CHECK.due("records", y.module(0, 0, 0), 8);
        CHECK.due("contracts", y.module(0, 0, 1), 4);
        CHECK.due("functions", y.module(0, 0, 2), 10);
        CHECK.due("parameters", y.module(0, 9, 10), 4);
        CHECK.due("locals", y.module(0, 9, 11), 10);
    }
}
