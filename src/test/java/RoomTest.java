import com.sun.management.ThreadMXBean;
import java.lang.management.ManagementFactory;

/** All calls of a run live in one room: no call but the constructor may make more than crumbs. */
public final class RoomTest {
    private static final String TEXT = text();

    private static String text() {
        StringBuilder text = new StringBuilder("points 25;subs 12;edge 100;");
        for (int k = 0; k < 12; k++) {
            text.append("ours ").append((char) ('a' + k)).append(" 50 ").append(40 + k).append(" 50;");
            text.append("theirs ").append((char) ('n' + k)).append(" 50 50 ").append(40 + k).append(';');
        }
        return text.append("free l;start ours a b c d e f;start theirs n o p q r s;").toString();
    }

    public static void main(String[] args) {
        Check check = new Check();
        ThreadMXBean bean = (ThreadMXBean) ManagementFactory.getThreadMXBean();
        long me = Thread.currentThread().getId();
        askAll(told());
        long before = bean.getThreadAllocatedBytes(me);
        CourtSix x = told();
        long made = bean.getThreadAllocatedBytes(me) - before;
        check.due("a new object and its text take " + made + " bytes, at most 64 KiB", made <= 65536, true);
        before = bean.getThreadAllocatedBytes(me);
        for (int k = 0; k < 10; k++) {
            askAll(x);
        }
        made = bean.getThreadAllocatedBytes(me) - before;
        check.due("calls take " + made + " bytes, at most 8 KiB", made <= 8192, true);
        check.end();
    }

    private static CourtSix told() {
        CourtSix x = new CourtSix();
        Tape.tell(x, TEXT);
        return x;
    }

    private static int askAll(CourtSix x) {
        int sum = x.value() + x.worth(0) + x.length() + x.likely(3, 4) + x.ends(0, 20) + x.table(1, 2);
        sum += x.safe(0, 0) + x.saddle() + x.reply(0, 1) + x.bestSwap(0, 0) + x.ifSwapped(0, 1, 2);
        sum += x.bestSub(0, 0) + x.bestSub(1, 2) + x.bestMove(0, 0) + x.subsNow(0) + x.streak(0, 10);
        sum += x.weak(0, 0) + x.strong(1, 0) + x.strength(0, 0) + x.ranked(0, 3) + x.named(0, 5);
        sum += x.move(0, 5) + x.point(1) + x.point(0) + x.sub(0, 1, 7) + (x.stand(0, 1, 1, 1) ? 1 : 0);
        sum += x.run(2) + x.was(0, 0) + x.till(0, 0, 3) + x.together(0, 0, 2, 1) + x.wrong(0, 0);
        sum += x.undo() + x.undo() + x.undo() + x.undo() + x.undo() + x.count(6);
        sum += x.feed(1, 2, 3, 4, 5) + x.text(20) + x.fault(0);
        return sum;
    }
}
