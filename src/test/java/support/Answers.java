import java.util.ArrayList;
import java.util.List;
import java.util.function.Supplier;
import java.util.function.ToLongFunction;

/** All that an object tells, to compare two objects. Since an object is used for 512 calls, it is made anew for each hundred. */
final class Answers {
    private static final int A_TIME = 100;

    private final List<String> calls = new ArrayList<>();
    private final List<ToLongFunction<SealedProcesses>> asks = new ArrayList<>();

    private void ask(String call, ToLongFunction<SealedProcesses> ask) {
        calls.add(call);
        asks.add(ask);
    }

    private Answers() {
        for (int what = 0; what < 2; what++) {
            int w = what;
            ask("fault(" + w + ")", x -> x.fault(w));
        }
        for (int what = -1; what < 8; what++) {
            int w = what;
            ask("about(" + w + ")", x -> x.about(w));
        }
        for (int m = -1; m < 7; m++) {
            shelf(m);
        }
        for (int p = -1; p < 13; p++) {
            process(p);
        }
        for (int b = -1; b < 130; b++) {
            block(b);
        }
        for (int e = -2; e < 26; e++) {
            end(e);
        }
        for (int i = -1; i <= 500; i++) {
            int number = i;
            ask("output(" + i + ", 0)", x -> x.output(number, 0));
            ask("output(" + i + ", 1)", x -> x.output(number, 1));
        }
    }

    private void shelf(int m) {
        for (int what = 0; what < 4; what++) {
            int w = what;
            ask("module(" + m + ", 0, " + what + ")", x -> x.module(m, 0, w));
        }
        for (int f = -1; f < 4; f++) {
            int function = f;
            for (int what = 10; what < 15; what++) {
                int w = what;
                ask("module(" + m + ", " + f + ", " + what + ")", x -> x.module(m, function, w));
            }
            for (int i = 0; i < 40; i++) {
                int place = i;
                ask("typeAt(" + m + ", " + f + ", " + i + ", 0, 0)", x -> x.typeAt(m, function, place, 0, 0));
                ask("typeAt(" + m + ", " + f + ", " + i + ", 1, 0)", x -> x.typeAt(m, function, place, 1, 0));
            }
        }
    }

    private void process(int p) {
        for (int what = -1; what < 11; what++) {
            int w = what;
            ask("process(" + p + ", " + what + ")", x -> x.process(p, w));
        }
        for (int i = -1; i < 17; i++) {
            int place = i;
            ask("value(" + p + ", 0, " + i + ")", x -> x.value(p, 0, place));
            ask("value(" + p + ", 1, " + i + ")", x -> x.value(p, 1, place));
        }
    }

    private void block(int b) {
        for (int what : new int[] {0, 1, 10, 11, 12, 13, 14, 15, 16}) {
            ask("block(" + b + ", " + what + ")", x -> x.block(b, what));
        }
    }

    private void end(int e) {
        int c = Math.floorDiv(e, 2);
        int side = Math.floorMod(e, 2);
        for (int what = 0; what < 3; what++) {
            int w = what;
            ask("channel(" + c + ", " + side + ", " + what + ")", x -> x.channel(c, side, w));
        }
    }

    private static final Answers ALL = new Answers();

    /** Both tell the same, and have as much on their tapes, and go on alike. */
    static void same(Check check, String what, Supplier<SealedProcesses> one, Supplier<SealedProcesses> other) {
        for (int from = 0; from < ALL.calls.size(); from += A_TIME) {
            SealedProcesses a = one.get();
            SealedProcesses b = other.get();
            for (int i = from; i < Math.min(from + A_TIME, ALL.calls.size()); i++) {
                check.due(what + ": " + ALL.calls.get(i), ALL.asks.get(i).applyAsLong(b), ALL.asks.get(i).applyAsLong(a));
            }
        }
        SealedProcesses a = one.get();
        SealedProcesses b = other.get();
        check.due(what + ": feed", b.feed(1, 2, 3, 4, 5), a.feed(1, 2, 3, 4, 5));
        for (int steps : new int[] {0, 1, 2, 5, 13, 100}) {
            check.due(what + ": run", b.run(steps), a.run(steps));
            for (int p = 0; p < 12; p++) {
                check.due(what + ": process(" + p + ", 0)", b.process(p, 0), a.process(p, 0));
                check.due(what + ": process(" + p + ", 4)", b.process(p, 4), a.process(p, 4));
                check.due(what + ": process(" + p + ", 9)", b.process(p, 9), a.process(p, 9));
            }
        }
    }
}
