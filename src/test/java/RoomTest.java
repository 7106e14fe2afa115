import com.sun.management.ThreadMXBean;
import java.lang.management.ManagementFactory;

/** What a run takes: the dearest calls there are, 250 of them on one object, make next to nothing. */
public final class RoomTest {
    private static final ThreadMXBean THREADS = (ThreadMXBean) ManagementFactory.getThreadMXBean();

    public static void main(String[] args) {
        warmUp();
        long start = made();
        FivePlayers x = fullPlay();
        long object = made() - start;
        System.out.println("a full play made " + object + " bytes");
        Due.is("a full play makes at most 60000 bytes", object <= 60000 ? 1 : 0, 1);
        start = made();
        long nanos = System.nanoTime();
        long sum = 0;
        for (int i = 0; i < 25; i++) {
            sum += dearest(x);
        }
        long calls = made() - start;
        System.out.println("250 of the dearest calls made " + calls + " bytes in "
                + (System.nanoTime() - nanos) / 1000000 + " ms");
        Due.is("250 of the dearest calls make at most 20000 bytes", calls <= 20000 ? 1 : 0, 1);
        Due.is("their answers", sum, 25 * dearest(x));
        Due.end();
    }

    private static long made() {
        return THREADS.getThreadAllocatedBytes(Thread.currentThread().getId());
    }

    private static void warmUp() {
        FivePlayers x = fullPlay();
        for (int i = 0; i < 20; i++) {
            dearest(x);
        }
    }

    /** As many of all as there may be, nobody barred, everybody able, by long TEXTS. */
    private static FivePlayers fullPlay() {
        FivePlayers x = new FivePlayers();
        x.lines(200);
        for (int part = 0; part < 10; part++) {
            x.part(5, part);
        }
        for (int entry = 0; entry < 40; entry++) {
            x.entry(entry % 10, entry * 5, entry * 5 + 1, entry % 4);
        }
        for (int player = 0; player < 6; player++) {
            x.player(player, 0);
        }
        text(x, 0, "g+a+n+y+k+1*1*1*1*1*1*1*1*1*1*1*1*1*1*1*1*1*1*1*1*");
        text(x, 1, "(w+v+k+q+s)*0*0*0*0*0*0*0*0*0*0*0*0*0*0*0*0*0*0*0*");
        text(x, 2, "g+a+n+y+k+l*g+a+n+y+k+l*g+a+n+y+k+l*g+a+n+y+k+l*g");
        return x;
    }

    private static void text(FivePlayers x, int use, String signs) {
        for (int i = 0; i < 49; i++) {
            x.feed(signs.charAt(i), 1);
        }
        x.text(use);
    }

    private static long dearest(FivePlayers x) {
        return x.best(0, 63, 0) + x.best(2, 63, 0) + x.castings(63) + x.leave(63, 0) + x.never(63, 5, 0)
                + x.fewest() + x.image() * 0 + x.restore() + x.check(1) + x.voice(9, 3, 7);
    }
}
