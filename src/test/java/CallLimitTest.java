import java.lang.management.ManagementFactory;

/** The document's limit of 512 calls an object: the last of them is answered as any, and none needs new room. */
public final class CallLimitTest {
    private static final int CALLS = 512;
    /** Some 8,000 elements: hundreds of objects fit into the room of one run. */
    private static final long MOST_BYTES_OF_A_NEW_OBJECT = 64 * 1024;

    private final Check check = new Check();
    private final com.sun.management.ThreadMXBean memory =
        (com.sun.management.ThreadMXBean) ManagementFactory.getThreadMXBean();

    public static void main(String[] args) {
        CallLimitTest test = new CallLimitTest();
        test.theLastCall();
        test.roomOfANewObject();
        test.roomOfCalls();
        test.check.end();
    }

    private static HeadTrees weighed() {
        HeadTrees x = new HeadTrees();
        x.words(7);
        for (int d = 1; d <= 7; d++) {
            for (int h = 0; h <= 7; h++) {
                x.weight(h, d, 37 * h * d % 100 - 50);
            }
        }
        return x;
    }

    private void theLastCall() {
        HeadTrees once = weighed();
        int all = once.best(0, 30);
        int smooth = once.best(1, 30);
        long digest = once.digest();
        HeadTrees often = weighed();
        for (int call = 57; call < CALLS - 1; call += 2) {
            check.due("call " + (call + 1) + ", best(0, 30)", often.best(0, 30), all);
            check.due("call " + (call + 2) + ", best(1, 30)", often.best(1, 30), smooth);
        }
        check.due("call " + CALLS + ", digest()", often.digest(), digest);
        HeadTrees asked = new HeadTrees();
        for (int call = 1; call < CALLS; call += 2) {
            check.due("call " + call + ", ask()", asked.ask(3, 3, 0), 1);
            check.due("call " + (call + 1) + ", clear()", asked.clear(), 1);
        }
        HeadTrees kept = new HeadTrees();
        for (int call = 1; call <= CALLS; call++) {
            check.due("call " + call + ", keep()", kept.keep(), call <= 20 ? call - 1 : HeadTrees.FULL);
        }
    }

    private void roomOfANewObject() {
        HeadTrees first = new HeadTrees();
        long before = memory.getCurrentThreadAllocatedBytes();
        HeadTrees x = new HeadTrees();
        long made = memory.getCurrentThreadAllocatedBytes() - before;
        check.due("a new object is as the first", x.digest(), first.digest());
        check.holds("a new object takes little room: " + made, made <= MOST_BYTES_OF_A_NEW_OBJECT);
    }

    private void roomOfCalls() {
        HeadTrees x = weighed();
        x.keep();
        x.ask(0, 0, 1);
        allLooks(x);
        long before = memory.getCurrentThreadAllocatedBytes();
        for (int round = 0; round < 20; round++) {
            allLooks(x);
        }
        long made = memory.getCurrentThreadAllocatedBytes() - before;
        check.holds("calls make nothing new: " + made, made <= 1024);
    }

    private static void allLooks(HeadTrees x) {
        x.best(0, 30);
        x.best(1, 30);
        x.trees(0);
        x.trees(1);
        x.rank(0);
        x.rank(1);
        x.is();
        x.sum();
        x.about(7, 3);
        x.learn();
        x.answers(0);
        x.answer(0, 3);
        x.agree(0, -1);
        x.near(0, -1);
        x.digest();
    }
}
