import java.lang.management.ManagementFactory;

/** All calls of one run live in one room: only a new object and law() may make anything. */
public final class RoomTest {
    private static final Trial t = new Trial("RoomTest");
    private static final com.sun.management.ThreadMXBean BEAN = (com.sun.management.ThreadMXBean) ManagementFactory.getThreadMXBean();

    public static void main(String[] args) {
        // The first object of all also loads the classes.
        NightColander x = new NightColander();
        long ahead = bytes();
        x = new NightColander();
        t.due("a new object takes little", bytes() - ahead < 20000 ? 1 : 0, 1);
        x.force(Trial.law(x, "runs hole+1 if field<4;leaks level/9;pays 3;bars if field=7"));
        for (int b = 0; b < 3; b++) {
            x.bucket(50, b);
        }
        calls(x);
        ahead = bytes();
        for (int i = 0; i < 20; i++) {
            calls(x);
        }
        t.due("calls make nothing", bytes() - ahead < 4000 ? 1 : 0, 1);
        long most = 0;
        for (int i = 0; i < 200; i++) {
            x.back(1);
            Trial.feed(x, "runs 1" + "+1".repeat(49) + ";bars".repeat(11));
            ahead = bytes();
            x.law();
            most = Math.max(most, bytes() - ahead);
        }
        t.due("law() makes little", most < 3000 ? 1 : 0, 1);
        t.end();
    }

    private static long bytes() {
        return BEAN.getThreadAllocatedBytes(Thread.currentThread().getId());
    }

    private static void calls(NightColander x) {
        x.image(1);
        x.image(0);
        x.feed(0x70617373, 0x2074696d, 0x65732039, 0x20202020, 0x20202020);
        x.orders();
        x.feed(0x70617373, 0x20686f77, 0, 0, 0);
        x.orders();
        x.fault();
        x.feed(0, 0x01010100, 0, 0, 0);
        x.row();
        x.block(1, 1);
        x.ream(1, 1);
        x.set(0, 5);
        x.pass();
        x.undo();
        x.when(0, 400);
        x.placed(9, 0);
        x.seen(0, 10);
        x.settings(-1);
        x.look(0);
        x.wanted(0, 10);
        x.turned(-1);
        x.cleared(0, 400, 0);
        x.drought(0);
        x.luck(0);
        x.together(0, 1);
        x.settled(0);
        x.few(20, 99);
        x.worth(0);
        x.years(1, 60);
        x.drawn(0, 0);
        x.count(1);
        x.back(0);
    }
}
