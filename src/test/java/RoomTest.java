import java.lang.management.ManagementFactory;
import java.lang.reflect.Array;
import java.lang.reflect.Field;
import java.lang.reflect.Modifier;
import java.util.Collections;
import java.util.IdentityHashMap;
import java.util.Set;

/** What a run may make in all: even if each of its calls were the dearest one, the constructor's. */
public final class RoomTest {
    private static final int CALLS = 512;
    private static final int OBJECTS_IN_ALL = 600_000;
    private static final int PARTS_IN_ALL = 7_300_000;
    private static final int BYTES_OF_A_CALL = 256;
    private static final Bench bench = new Bench();

    private final Set<Object> objects = Collections.newSetFromMap(new IdentityHashMap<>());
    private int parts = 0;

    public static void main(String[] args) throws IllegalAccessException {
        fits("a new object", new TextBridge());
        TextBridge used = Bench.bounded(Bench.bytes("\"" + "\\u0001".repeat(600) + "\""), 40, 6000);
        used.toCbor();
        used.take();
        used.toJson();
        fits("a used object", used);
        conversionsMakeLittle();
        bench.finish("RoomTest");
    }

    private static void fits(String name, TextBridge x) throws IllegalAccessException {
        RoomTest count = new RoomTest();
        count.add(x);
        bench.due(name + ": objects in all", count.objects.size() * CALLS <= OBJECTS_IN_ALL ? 1 : 0, 1);
        bench.due(name + ": fields and elements in all", count.parts * CALLS <= PARTS_IN_ALL ? 1 : 0, 1);
    }

    private void add(Object object) throws IllegalAccessException {
        if (object == null || !objects.add(object)) {
            return;
        }
        if (object.getClass().isArray()) {
            parts += Array.getLength(object);
            return;
        }
        for (Field field : object.getClass().getDeclaredFields()) {
            if (!Modifier.isStatic(field.getModifiers())) {
                parts++;
                addReferred(field, object);
            }
        }
    }

    private void addReferred(Field field, Object owner) throws IllegalAccessException {
        if (!field.getType().isPrimitive()) {
            field.setAccessible(true);
            add(field.get(owner));
        }
    }

    /** A conversion makes its readers and nothing that grows with the TAPE. */
    private static void conversionsMakeLittle() {
        TextBridge json = Bench.loaded(Bench.bytes("[" + "\"\\u00e9\",".repeat(400) + "[{\"a\":-12345}]]"));
        TextBridge cbor = Bench.loaded(Bench.unhex("990190" + "62c3a9".repeat(399) + "81a16161393038"));
        bench.due("toCbor", json.toCbor() > 0 ? 1 : 0, 1);
        bench.due("toJson", cbor.toJson() > 0 ? 1 : 0, 1);
        if (!(ManagementFactory.getThreadMXBean() instanceof com.sun.management.ThreadMXBean threads)) {
            System.out.println("this machine does not tell what a call makes");
            return;
        }
        long id = Thread.currentThread().getId();
        threads.getThreadAllocatedBytes(id);
        long start = threads.getThreadAllocatedBytes(id);
        for (int i = 0; i < 100; i++) {
            json.toCbor();
            cbor.toJson();
        }
        long made = threads.getThreadAllocatedBytes(id) - start;
        bench.due("200 conversions make little", made <= 200L * BYTES_OF_A_CALL ? 1 : 0, 1);
    }
}
