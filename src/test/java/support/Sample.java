import java.util.ArrayList;
import java.util.EnumSet;
import java.util.List;
import java.util.Set;

/**
 * One of each sort of type that can come to a stack, with a module that has them all. Function 0 is
 * what a test looks at; the others put samples on its stack or take them, and do nothing else.
 */
enum Sample {
    INT(0), NIL(6),
    NODE_A(1, 0), NODE_B(1, 1), ROW(2), ROWS_A(3, 0), ROWS_B(3, 1),
    BLOCK_B(4, 1), BLOCK_C(4, 2),
    CLIENT_0(5, 0, 0, 0), SERVER_0(5, 0, 0, 1), CLIENT_1(5, 0, 1, 0), SERVER_1(5, 0, 1, 1),
    CLIENT_2(5, 0, 2, 0), SERVER_2(5, 0, 2, 1), CLIENT_3(5, 0, 3, 0), SERVER_3(5, 0, 3, 1),
    OTHER_CLIENT(5, 1, 0, 0), OTHER_SERVER(5, 1, 0, 1);

    final int[] bytes;

    Sample(int... bytes) {
        this.bytes = bytes;
    }

    static final Set<Sample> ALL = EnumSet.allOf(Sample.class);
    static final Set<Sample> LINEAR = EnumSet.range(BLOCK_B, OTHER_SERVER);
    static final Set<Sample> PLAIN = EnumSet.complementOf(EnumSet.range(BLOCK_B, OTHER_SERVER));
    static final Set<Sample> POINTERS = EnumSet.range(NODE_A, ROWS_B);
    static final Set<Sample> BLOCKS = EnumSet.of(BLOCK_B, BLOCK_C);
    static final Set<Sample> ENDS = EnumSet.range(CLIENT_0, OTHER_SERVER);

    /** As the first byte of a type. */
    int kind() {
        return bytes[0];
    }

    boolean isLinear() {
        return LINEAR.contains(this);
    }

    boolean isPointer() {
        return POINTERS.contains(this);
    }

    /** Whether it may come to a place of that type, as the document says. */
    boolean fits(Sample wanted) {
        return this == wanted || this == NIL && wanted.isPointer();
    }

    /**
     * Record 0 (A) has a field of each type, 1 (B) one INT, 2 (C) two. Contract 0: in state 0 the
     * client sends message 0 bare, 1 with an INT, 2 with a block of B, 3 with a client's end of contract
     * 1, to states 1, 1, 2 and 3; in state 1 the server sends a bare one (to 0); state 2 is nobody's;
     * in state 3 the server sends an INT (to 0) or a bare one (to 2). In contract 1 it is nobody's turn.
     */
    static Build declarations() {
        return new Build()
            .record(6, 0, 1, 0, 2, 3, 1, 1, 1, 0).record(1, 0).record(2, 0, 0)
            .contract(4, 1, 4, 255, 1, 0, 1, 4, 1, 2, 5, 1, 0, 0, 3, 2, 1, 255, 0, 0, 0, 2, 2, 0, 0, 255, 2)
            .contract(1, 0, 0);
    }

    /** A module whose function 0 has that code, and behind it functions that the code calls. */
    static Build module(int locals, Code code, Functions called) {
        Build build = declarations().function(locals, code);
        called.build(build);
        return build;
    }

    /** Functions 1 and on, made as they are wanted. */
    static final class Functions {
        private final List<Sample> givers = new ArrayList<>();
        private final List<List<Sample>> takers = new ArrayList<>();
        private final List<Boolean> gives = new ArrayList<>();

        /** A function that gives the sample; its number. */
        int giver(Sample sample) {
            return number(true, sample, List.of());
        }

        /** A function that takes such parameters; its number. */
        int taker(List<Sample> parameters) {
            return number(false, INT, parameters);
        }

        private int number(boolean giver, Sample given, List<Sample> taken) {
            for (int i = 0; i < gives.size(); i++) {
                if (gives.get(i) == giver && givers.get(i) == given && takers.get(i).equals(taken)) {
                    return i + 1;
                }
            }
            gives.add(giver);
            givers.add(given);
            takers.add(taken);
            return gives.size();
        }

        void build(Build build) {
            Code exit = new Code().op(Op.EXIT);
            for (int i = 0; i < gives.size(); i++) {
                int[] types = {};
                for (Sample taken : takers.get(i)) {
                    types = Build.joined(types, taken.bytes);
                }
                int[] result = gives.get(i) ? givers.get(i).bytes : new int[] {Op.NOTHING};
                build.function(takers.get(i).size(), types, result, takers.get(i).size(), exit);
            }
        }

        /** Code that puts the samples on the stack. */
        int[] put(List<Sample> samples) {
            Code code = new Code();
            for (Sample sample : samples) {
                if (sample == NIL) {
                    code.op(Op.NIL);
                } else {
                    code.op(Op.CALL, giver(sample));
                }
            }
            return code.bytes();
        }
    }
}
