import java.util.ArrayList;
import java.util.HashMap;
import java.util.List;
import java.util.Map;

/** The code of a function, with names for its places. */
final class Code {
    private final List<Integer> bytes = new ArrayList<>();
    private final Map<String, Integer> places = new HashMap<>();
    private final Map<Integer, String> wanted = new HashMap<>();

    Code op(int... more) {
        for (int one : more) {
            bytes.add(one);
        }
        return this;
    }

    Code push(int number) {
        return op(Op.PUSH, number >> 24 & 255, number >> 16 & 255, number >> 8 & 255, number & 255);
    }

    Code label(String name) {
        places.put(name, bytes.size());
        return this;
    }

    Code jump(String name) {
        return op(Op.JUMP).target(name);
    }

    Code zero(String name) {
        return op(Op.ZERO).target(name);
    }

    Code receive(String... names) {
        op(Op.RECEIVE, names.length);
        for (String name : names) {
            target(name);
        }
        return this;
    }

    /** Puts many of the same instruction. */
    Code times(int count, int... more) {
        for (int i = 0; i < count; i++) {
            op(more);
        }
        return this;
    }

    int place(String name) {
        return places.get(name);
    }

    int[] bytes() {
        int[] made = new int[bytes.size()];
        for (int i = 0; i < made.length; i++) {
            made[i] = wanted.containsKey(i) ? places.get(wanted.get(i)) : bytes.get(i);
        }
        return made;
    }

    private Code target(String name) {
        wanted.put(bytes.size(), name);
        return op(0);
    }
}
