/** Loads modules, each into a new object, and compares what is told of their faults. */
final class Loads {
    private final Check check;

    Loads(Check check) {
        this.check = check;
    }

    SealedProcesses right(String what, int... bytes) {
        return told(what, 0, -1, bytes);
    }

    /** Fault 1: a byte with which no module goes on, the end, or a name of what is not there. */
    void faulty(String what, int place, int... bytes) {
        told(what, 1, place, bytes);
    }

    /** Fault 2: the function whose code begins there is not right. */
    void wrong(String what, int place, int... bytes) {
        told(what, 2, place, bytes);
    }

    /** Fault 1, or none. */
    void told(String what, boolean right, int place, int... bytes) {
        told(what, right ? 0 : 1, right ? -1 : place, bytes);
    }

    private SealedProcesses told(String what, int fault, int place, int[] bytes) {
        SealedProcesses x = new SealedProcesses();
        check.due(what + ": load", Build.load(x, bytes), fault == 0 ? 0 : -1);
        check.due(what + ": fault(0)", x.fault(0), fault);
        check.due(what + ": fault(1)", x.fault(1), place);
        check.due(what + ": bytes on the shelf", x.module(0, 0, 3), fault == 0 ? bytes.length : -1);
        return x;
    }
}
