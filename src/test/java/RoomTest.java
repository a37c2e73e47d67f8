import java.lang.management.ManagementFactory;

/** What one object takes: all calls of a run live in one room, so asking must make no objects. */
public final class RoomTest {
    private static final int CALLS = 512;

    private static long taken() {
        return ((com.sun.management.ThreadMXBean) ManagementFactory.getThreadMXBean()).getThreadAllocatedBytes(Thread.currentThread().getId());
    }

    private static NineSails ready() {
        NineSails x = new NineSails();
        for (int i = 0; i < 6; i++) x.sail(i, 1 + i / 2);
        for (int i = 0; i < 10; i++) x.rule(i % 7, i);
        Checks.race(x, "go 9 s<3;go 7 s>3&w>1;tear 20 w>1&h<5;wind 0 1 3;wind 1 2 3;wind 2 3 3;wind 3 0 5;lose 2;wind 1 3 1");
        for (int i = 0; i < 6; i++) x.squall(i % 4);
        return x;
    }

    private static void ask(NineSails x, int i) {
        int r = i % 10;
        switch (i % 16) {
            case 0: x.mean(r, 4, 0); break;
            case 1: x.sure(r, 4, 20, 0); break;
            case 2: x.edge(4); break;
            case 3: x.few(r, 6, 3); break;
            case 4: x.torn(r, i % 6, 4, 1); break;
            case 5: x.sleep(r, 4, 1); break;
            case 6: x.lines(2, i % 4); break;
            case 7: x.made(r); break;
            case 8: x.worst(r, 4); break;
            case 9: x.judge(0, 0); break;
            case 10: x.image(); break;
            case 11: x.undo(); break;
            case 12: x.act(r, 2, i); break;
            case 13: x.tape(i % 6, i % 5, 60); break;
            case 14: Checks.feed(x, "go 9 (s<3|w>2)&!t=5;"); break;
            default: x.race(); break;
        }
    }

    public static void main(String[] args) {
        Checks checks = new Checks();
        NineSails warm = ready();
        for (int i = 0; i < 4 * CALLS; i++) ask(warm, i);
        long empty = taken();
        NineSails x = ready();
        long made = taken() - empty;
        checks.due("an object takes little: " + made, made < 40000 ? 1 : 0, 1);
        long before = taken();
        for (int i = 0; i < CALLS; i++) ask(x, i);
        long used = taken() - before;
        checks.due("asking takes nothing: " + used, used < 2000 ? 1 : 0, 1);
        System.out.println("an object takes " + made + " bytes, " + CALLS + " calls " + used + " more");
        checks.end();
    }
}
