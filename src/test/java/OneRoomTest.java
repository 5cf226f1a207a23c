import com.sun.management.ThreadMXBean;
import java.lang.management.ManagementFactory;

/** All calls of a run live in one room: rows are made with the object, and calls make none. */
final class OneRoomTest {
    private static final int TIMES = 2000;
    private static final long OBJECT_BYTES = 20000;

    private OneRoomTest() {
    }

    public static void main(String[] args) {
        ThreadMXBean threads = (ThreadMXBean) ManagementFactory.getThreadMXBean();
        long self = Thread.currentThread().getId();
        int[] numbers = numbers(Check.houses(7) + Check.wrongs("bcdefga") + ";street a b minutes 5;person p home a at b");
        WrongRoom x = new WrongRoom();
        calls(x, numbers);
        long before = threads.getThreadAllocatedBytes(self);
        for (int i = 0; i < TIMES; i++) {
            calls(x, numbers);
        }
        long made = threads.getThreadAllocatedBytes(self) - before;
        Check.due("bytes made by " + TIMES + " rounds of calls: " + made, made < TIMES, true);
        before = threads.getThreadAllocatedBytes(self);
        x = new WrongRoom();
        made = threads.getThreadAllocatedBytes(self) - before;
        Check.due("bytes made by an object: " + made, made < OBJECT_BYTES, true);
        Check.due("the object is new", x.size(2), 0);
        Check.end();
    }

    private static int[] numbers(String text) {
        byte[] bytes = text.getBytes(java.nio.charset.StandardCharsets.ISO_8859_1);
        int[] numbers = new int[(bytes.length + 19) / 20 * 5];
        for (int i = 0; i < numbers.length; i++) {
            numbers[i] = Check.number(bytes, 4 * i);
        }
        return numbers;
    }

    private static void calls(WrongRoom x, int[] numbers) {
        for (int i = 0; i < numbers.length; i += 5) {
            x.feed(numbers[i], numbers[i + 1], numbers[i + 2], numbers[i + 3], numbers[i + 4]);
        }
        x.town(4 * numbers.length);
        x.way(0, 6, 0);
        x.farthest(0, 0);
        x.fits();
        x.askLeaves();
        x.net(0, true);
        x.paired();
        x.stands(5);
        x.rests(0, 1);
        x.builders(1, 60);
        x.exchange(0, 2);
        x.shut(0, true);
        x.waits(0, 5);
        x.go(0, 0);
        x.led(0);
        x.mark();
        x.back(0);
        x.undo();
        x.house(99, 99);
    }
}
