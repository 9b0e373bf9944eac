import java.lang.management.ManagementFactory;

/** All calls of one run live in one room: what 512 calls make stays far below it. Long runs of wild numbers throw nothing. */
public final class RoomTest extends Checks {
    // 7.3 million elements are 29 million bytes at four each; one object's run must stay far below.
    private static final long MOST_BYTES = 3_000_000L;

    private static long made() {
        return ((com.sun.management.ThreadMXBean) ManagementFactory.getThreadMXBean())
            .getThreadAllocatedBytes(Thread.currentThread().getId());
    }

    private static void fill(WarHouses x) {
        for (int a = 0; a < 3; a++) {
            write(x, "need brick base bricks rooms*3;work brick base 2;need hut shell kits least[rooms,3];work hut fit 1;"
                + "points persons*9+waited if ill=0 or have<3;huts 40;squat 3;licence brick 2;rent rooms*3;first hut if week>9;"
                + "points 1+1+1+1+1+1+1+1+1+1+1+1+1+1+1+1+1+1;work steel base 3;need steel fit steel 4");
            told(x, "act", x.act(0, 0), a);
        }
        for (int i = 0; i < 8; i++) {
            x.works(i % 5, 1, (i + 1) % 5, 1, (i + 2) % 5, 3, 9, 0);
        }
        for (int i = 0; i < 60; i++) {
            x.deliver(i % 5, i * 3, 100 + i, 0);
        }
        for (int c = 0; c < 6; c++) {
            x.gangs(c, 2, 0, 0);
        }
        for (int i = 0; i < 30; i++) {
            x.plot(i % 2, i % 3, 1 + i % 6, 0);
            if (i >= 6) {
                x.start(i, i * 2, 0);
            } else {
                x.wish(i);
            }
        }
        for (int i = 0; i < 60; i++) {
            x.entry(i % 2, 0, 1 + i % 12, 0, i % 9, 0, 0);
            x.mark(i, 0, i / 3);
            x.mark(i, 1, i / 3);
        }
    }

    private static void dearest(String name, int which) {
        long before = made();
        WarHouses x = new WarHouses();
        fill(x);
        int callsEach = which == 2 || which == 3 ? 2 : which == 5 ? 3 : 1;
        int left = (512 - 390) / callsEach;
        for (int i = 0; i < left; i++) {
            switch (which) {
                case 0:
                    x.best(i % 20);
                    break;
                case 1:
                    x.image(i % 3);
                    break;
                case 2:
                    x.back(0);
                    x.image(0);
                    break;
                case 3:
                    x.offer(i);
                    x.image(i % 3);
                    break;
                case 4:
                    x.knock(i, 1 + i % 26);
                    break;
                default:
                    x.beside(0, i, i, i + 1);
                    x.family(i % 60, i);
                    x.rent(i % 30, i, i);
                    break;
            }
        }
        long bytes = made() - before;
        System.out.println("room: " + name + " made " + bytes + " bytes");
        holds(name + " makes no more than " + MOST_BYTES + " bytes", bytes <= MOST_BYTES);
    }

    private static int wild(java.util.Random r) {
        int[] some = {Integer.MIN_VALUE, -3, -2, -1, 0, 1, 2, 3, 5, 6, 12, 13, 19, 20, 29, 30, 59, 60, 259, 260,
            10_000, Integer.MAX_VALUE};
        return r.nextInt(3) == 0 ? some[r.nextInt(some.length)] : r.nextInt(2) == 0 ? r.nextInt(7) : r.nextInt(60);
    }

    /** Any arguments in any state; an exception ends the test by itself. */
    private static void wildCalls(int seed) throws Exception {
        java.util.Random r = new java.util.Random(seed);
        WarHouses x = new WarHouses();
        if (seed % 2 == 0) {
            fill(x);
        }
        java.util.List<java.lang.reflect.Method> methods = new java.util.ArrayList<>();
        for (java.lang.reflect.Method m : WarHouses.class.getDeclaredMethods()) {
            if (java.lang.reflect.Modifier.isPublic(m.getModifiers())) {
                methods.add(m);
            }
        }
        methods.sort(java.util.Comparator.comparing(java.lang.reflect.Method::getName));
        for (int i = 0; i < 512; i++) {
            java.lang.reflect.Method m = methods.get(r.nextInt(methods.size()));
            Object[] values = new Object[m.getParameterCount()];
            for (int v = 0; v < values.length; v++) {
                values[v] = wild(r);
            }
            m.invoke(x, values);
        }
    }

    public static void main(String[] args) throws Exception {
        at("the room");
        dearest("best", 0);
        dearest("image", 1);
        dearest("back", 2);
        dearest("offer", 3);
        dearest("knock", 4);
        dearest("lists", 5);
        for (int seed = 0; seed < 300; seed++) {
            wildCalls(seed);
        }
        finish("room");
    }
}
