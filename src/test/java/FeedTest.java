/** Promise 2: twenty bytes a call, the highest first, and no more than 2,000. */
public final class FeedTest {
    public static void main(String[] args) {
        Check check = new Check("promise 2");
        SealedProcesses x = new SealedProcesses();
        for (int i = 1; i <= 100; i++) {
            check.due("feed no. " + i, x.feed(-1, 0, Integer.MIN_VALUE, i, 7), 20 * i);
        }
        check.due("feed beyond 2,000", x.feed(0, 0, 0, 0, 0), -1);
        check.due("load of more than there are", x.load(2001), -2);
        check.due("load of all", x.load(2000), -1);
        check.due("feed on the empty tape", x.feed(0, 0, 0, 0, 0), 20);

        // 83, 77, 0, 0, 1 function: 0 parameters, no result, 0 locals, 1 byte: RETURN.
        SealedProcesses y = new SealedProcesses();
        y.feed(0x534D0000, 0x0100FF00, 0x011F0000, 0, 0);
        check.due("load of bytes in their order", y.load(10), 0);
        y.feed(0x00004D53, 0x00FF0001, 0x00001F01, 0, 0);
        check.due("load of bytes in another order", y.load(10), -1);
        check.due("fault(1)", y.fault(1), 0);
        y.feed(0x534D0000, 0x0100FF00, 0x011F0000, 0, 0);
        y.feed(-1, -1, -1, -1, -1);
        check.due("load of the first bytes", y.load(10), 1);
        check.due("feed behind it", y.feed(0, 0, 0, 0, 0), 20);
        check.end();
    }
}
