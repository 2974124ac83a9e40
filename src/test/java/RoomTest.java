import java.lang.management.ManagementFactory;
import java.lang.reflect.Array;
import java.lang.reflect.Field;
import java.lang.reflect.Modifier;
import java.util.IdentityHashMap;
import java.util.Map;

/** The room of an archive: what one is made of, counted, and that its calls make no objects. */
final class RoomTest {
    /** Some bytes for what the machine itself may make beside a hundred thousand calls. */
    private static final long SLACK = 20_000;
    private static final int TURNS = 1000;

    private static long elements = 0;
    private static int seed = 1;

    public static void main(String[] args) throws IllegalAccessException {
        anArchiveIsSmall();
        callsMakeNoObjects();
        Rig.finish();
    }

    private static void anArchiveIsSmall() throws IllegalAccessException {
        Map<Object, Boolean> seen = new IdentityHashMap<>();
        count(new SectorArchive(), seen);
        Rig.same("objects and arrays of an archive, " + seen.size() + ", are few", seen.size() <= 100 ? 1 : 0, 1);
        Rig.same("fields and elements of an archive, " + elements + ", are few", elements <= 6000 ? 1 : 0, 1);
    }

    private static void count(Object o, Map<Object, Boolean> seen) throws IllegalAccessException {
        if (o == null || seen.put(o, true) != null) {
            return;
        }
        Class<?> type = o.getClass();
        if (type.isArray()) {
            elements += Array.getLength(o);
            for (int i = 0; !type.getComponentType().isPrimitive() && i < Array.getLength(o); i++) {
                count(Array.get(o, i), seen);
            }
            return;
        }
        for (Field f : type.getDeclaredFields()) {
            if (!Modifier.isStatic(f.getModifiers())) {
                elements++;
                f.setAccessible(true);
                if (!f.getType().isPrimitive()) {
                    count(f.get(o), seen);
                }
            }
        }
    }

    private static int next(int bound) {
        seed = seed * 1103515245 + 12345;
        return (seed >>> 8) % bound;
    }

    /** Some 120 calls, of every kind, with large and small blocks, damage, stops and refusals. */
    private static void use(SectorArchive x) {
        for (int turn = 0; turn < 4; turn++) {
            for (int file = 0; file < 5; file++) {
                long w = turn == 0 ? 0x0807060504030201L : turn == 1 ? next(1 << 20) * 0x10000001L : turn == 2 ? 7 : next(4);
                x.write(8, w);
                x.write(8, w + file);
                x.write(1 + next(9), w);
                x.add(next(9));
            }
            x.remove(x.file(0, 0), x.file(0, 1));
            x.limit(turn == 3 ? next(20) : 200);
            x.commit();
            x.damage(next(60), next(12), 1 + next(255));
            for (int k = 0; k < x.files(); k++) {
                x.extract(x.file(k, 0), x.file(k, 1));
                x.extracted(next(24));
            }
            x.at(next(61), next(13));
            x.repair();
            x.number();
            x.down();
            x.drop();
            x.open();
        }
    }

    private static void callsMakeNoObjects() {
        if (!(ManagementFactory.getThreadMXBean() instanceof com.sun.management.ThreadMXBean bean)
                || !bean.isThreadAllocatedMemorySupported()) {
            System.out.println("this machine does not tell what a thread makes");
            return;
        }
        bean.setThreadAllocatedMemoryEnabled(true);
        use(new SectorArchive());
        SectorArchive[] archives = new SectorArchive[TURNS];
        for (int i = 0; i < TURNS; i++) {
            archives[i] = new SectorArchive();
        }
        bean.getCurrentThreadAllocatedBytes();
        long before = bean.getCurrentThreadAllocatedBytes();
        for (SectorArchive x : archives) {
            use(x);
        }
        long made = bean.getCurrentThreadAllocatedBytes() - before;
        System.out.println(elements + " fields and elements an archive, " + made + " bytes made by calls");
        Rig.same("calls made objects of " + made + " bytes", made <= SLACK ? 1 : 0, 1);
    }
}
