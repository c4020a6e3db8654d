import java.lang.management.ManagementFactory;

/** A run lives in one room: no call of the face makes anything, but for the constructor. */
public final class RoomTest {
    public static void main(String[] args) {
        com.sun.management.ThreadMXBean bean = (com.sun.management.ThreadMXBean) ManagementFactory.getThreadMXBean();
        long id = Thread.currentThread().getId();
        SealedLips x = new SealedLips();
        run(x);
        SealedLips[] others = new SealedLips[10];
        for (int i = 0; i < others.length; i++) {
            others[i] = new SealedLips();
        }
        long ahead = bean.getThreadAllocatedBytes(id);
        long nothing = bean.getThreadAllocatedBytes(id) - ahead;
        long start = bean.getThreadAllocatedBytes(id);
        for (SealedLips other : others) {
            run(other);
        }
        long used = bean.getThreadAllocatedBytes(id) - start - nothing;
        Check.due("bytes made by calls, beyond some of the machine's own: " + used, used < 20_000 ? 1 : 0, 1);
        start = bean.getThreadAllocatedBytes(id);
        SealedLips y = new SealedLips();
        used = bean.getThreadAllocatedBytes(id) - start;
        Check.due("bytes of an object: " + used, used < 8_000 && y.count(0) == 0 ? 1 : 0, 1);
        Check.finish();
    }

    private static void run(SealedLips x) {
        String text = "4/6;p01,l25,d0,e3,f1,p";
        for (int i = 0; i < text.length(); i++) {
            x.type(text.charAt(i));
        }
        x.court();
        x.days(3, 5);
        x.drift(3);
        x.seats(0, 1);
        x.trust(5, 7);
        x.seal(5, 7);
        x.image();
        for (int sheet = 0; sheet < 4; sheet++) {
            x.sheet(sheet, sheet, 24);
            x.film(0, 24, 5, sheet, sheet, 0);
            x.told(0, sheet, sheet, 0, 6);
            x.copy(sheet, 0, sheet, 1, 20);
            x.item(sheet, sheet, 0, 5L);
            x.drop(sheet);
        }
        x.table(20, 5, 0);
        x.renew(0, 60, 5, 0, 1);
        x.thick(30, 5);
        x.cool(30);
        x.from(0, 60, 5);
        x.out(0, 5);
        x.leaks(60, 5);
        x.rankAhead(0, 60, 5);
        x.undo();
        x.restore();
        x.rivals(1);
        x.count(6);
    }
}
