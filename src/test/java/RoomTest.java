import com.sun.management.ThreadMXBean;
import java.lang.management.ManagementFactory;

/** All calls of a run live in one room: the dearest ones, 500 times, must make next to nothing. */
public final class RoomTest {
    public static void main(String[] args) {
        Due due = new Due();
        due.part("room");
        work(new SandPicture());
        SandPicture x = new SandPicture();
        ThreadMXBean threads = (ThreadMXBean) ManagementFactory.getThreadMXBean();
        long id = Thread.currentThread().getId();
        threads.getThreadAllocatedBytes(id);
        long before = threads.getThreadAllocatedBytes(id);
        int sum = work(x);
        long bytes = threads.getThreadAllocatedBytes(id) - before;
        System.out.println("500 calls and more made " + bytes + " bytes (" + sum + ")");
        due.is("bytes made are few", bytes < 100000 ? 1 : 0, 1);
        due.end();
    }

    private static int work(SandPicture x) {
        x.deal(10);
        x.sheet(0, 1, 6);
        x.keep();
        int sum = 0;
        for (int i = 0; i < 30; i++) {
            x.feed(0x706f7572, 0x20702b78, 0x2d642f33);
            sum += x.text();
            sum += x.dry(0) + x.never() + x.slower(0, 20) + x.paced(0, 1, 1) + x.goes(2, 60, 0) + x.blamed(60);
            sum += x.behind(100, 0) + x.lacks(100) + x.hours(3) + x.check(30);
            sum += x.sheet(1, 0, 24) + x.lay(i % 5, 2, 1) + x.copy(1, 0, 1, 1, 20) + x.keep() + x.back();
        }
        return sum;
    }
}
