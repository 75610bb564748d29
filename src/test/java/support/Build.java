import java.util.ArrayList;
import java.util.List;

/** Builds modules and manifests, and feeds them. */
final class Build {
    private final List<int[]> records = new ArrayList<>();
    private final List<int[]> contracts = new ArrayList<>();
    private final List<int[]> functions = new ArrayList<>();
    /** Where the code of each function begins in the module. */
    private final List<Integer> heads = new ArrayList<>();

    /** A record, told by the bytes of its types. */
    Build record(int fields, int... types) {
        records.add(joined(new int[] {fields}, types));
        return this;
    }

    Build contract(int states, int... bytes) {
        contracts.add(joined(new int[] {states}, bytes));
        return this;
    }

    /** A function without parameters and result. */
    Build function(int locals, Code code) {
        return function(0, new int[0], new int[] {Op.NOTHING}, locals, code);
    }

    Build function(int parameters, int[] types, int[] result, int locals, Code code) {
        int[] bytes = code.bytes();
        int[] head = joined(joined(new int[] {parameters}, types), joined(result, new int[] {locals, bytes.length}));
        heads.add(head.length);
        functions.add(joined(head, bytes));
        return this;
    }

    int[] bytes() {
        int[] made = {83, 77, records.size()};
        made = joined(made, all(records));
        made = joined(joined(made, new int[] {contracts.size()}), all(contracts));
        return joined(joined(made, new int[] {functions.size()}), all(functions));
    }

    int codeStart(int f) {
        int at = 5 + all(records).length + all(contracts).length;
        for (int i = 0; i < f; i++) {
            at += functions.get(i).length;
        }
        return at + heads.get(f);
    }

    private static int[] all(List<int[]> parts) {
        int[] made = {};
        for (int[] part : parts) {
            made = joined(made, part);
        }
        return made;
    }

    static int[] joined(int[] a, int... b) {
        int[] made = new int[a.length + b.length];
        System.arraycopy(a, 0, made, 0, a.length);
        System.arraycopy(b, 0, made, a.length, b.length);
        return made;
    }

    static int[] types(int... bytes) {
        return bytes;
    }

    /** The bytes with one of them changed. */
    static int[] changed(int[] bytes, int at, int to) {
        int[] made = bytes.clone();
        made[at] = to;
        return made;
    }

    static int[] first(int[] bytes, int count) {
        return java.util.Arrays.copyOf(bytes, count);
    }

    /** Feeds the bytes, filled up with 0. */
    static void feed(SealedProcesses x, int... bytes) {
        for (int i = 0; i < bytes.length; i += 20) {
            x.feed(word(bytes, i), word(bytes, i + 4), word(bytes, i + 8), word(bytes, i + 12), word(bytes, i + 16));
        }
    }

    static int load(SealedProcesses x, int... bytes) {
        feed(x, bytes);
        return x.load(bytes.length);
    }

    static int boot(SealedProcesses x, int... bytes) {
        feed(x, bytes);
        return x.boot(bytes.length);
    }

    /** A new object with one module, whose functions are begun, each once, with the smallest heap. */
    static SealedProcesses booted(Build module, int... functions) {
        SealedProcesses x = new SealedProcesses();
        load(x, module.bytes());
        int[] manifest = {83, 70, functions.length};
        for (int f : functions) {
            manifest = joined(manifest, 0, f, 1);
        }
        boot(x, manifest);
        return x;
    }

    private static int word(int[] bytes, int at) {
        int word = 0;
        for (int i = at; i < at + 4; i++) {
            word = word << 8 | (i < bytes.length ? bytes[i] : 0);
        }
        return word;
    }
}
