import com.sun.management.ThreadMXBean;
import java.lang.management.ManagementFactory;
import java.lang.reflect.Array;
import java.lang.reflect.Field;
import java.lang.reflect.Modifier;
import java.util.ArrayList;
import java.util.IdentityHashMap;
import java.util.List;
import java.util.Map;

/** All rows are made with the object: it stays as large as it was, and a call makes nothing. */
public final class RoomTest {
    private static final String LARGEST = "int a[16];int b[16];int c[16];int d[16];"
            + "int f(int p,int q,int r,int s){a[p]=q;return f(1,f(2,r,q,s),3,4);}"
            + "int main(){int i=0;while(i<30){print(i);i=i+1;}return f(1,2,3,read());}";

    public static void main(String[] args) throws IllegalAccessException {
        rowsStay();
        callsMakeNothing();
        Check.end();
    }

    private static void rowsStay() throws IllegalAccessException {
        TinyForge x = new TinyForge();
        String size = sizeOf(x);
        Check.due("a new object " + size, sizeOf(new TinyForge()), size);
        Check.typeAll(x, LARGEST);
        x.forge();
        x.run();
        Check.due("an object that was used", sizeOf(x), size);
        for (int k = 0; k < 400; k++) {
            useOnce(x, k);
        }
        Check.due("an object after many calls", sizeOf(x), size);
        String[] numbers = size.split("\\D+");
        Check.due("few objects", Integer.parseInt(numbers[1]) <= 40, true);
        Check.due("few elements", Integer.parseInt(numbers[2]) <= 5000, true);
    }

    /** Calls of which none throws, from whatever state. */
    private static int useOnce(TinyForge x, int k) {
        int sum = x.forge() + x.run() + x.result() + x.ticks() + x.why() + x.where();
        return sum + x.output(k % 32 - 1) + x.empty() + x.give(k) + x.empty();
    }

    private static void callsMakeNothing() {
        ThreadMXBean bean = (ThreadMXBean) ManagementFactory.getThreadMXBean();
        if (!bean.isThreadAllocatedMemorySupported()) {
            return;
        }
        long thread = Thread.currentThread().getId();
        TinyForge x = Check.typed(LARGEST);
        useOnce(x, 0);
        bean.getThreadAllocatedBytes(thread);
        long ahead = bean.getThreadAllocatedBytes(thread);
        for (int k = 0; k < 10000; k++) {
            useOnce(x, k);
        }
        long made = bean.getThreadAllocatedBytes(thread) - ahead;
        // An object has sixteen bytes or so: not even one in a hundred rounds of ten calls.
        Check.due("bytes made by 100000 calls: " + made, made < 1600, true);
    }

    /** How many objects and arrays belong to an object, and how many fields and elements they have. */
    private static String sizeOf(Object root) throws IllegalAccessException {
        Map<Object, Boolean> seen = new IdentityHashMap<>();
        List<Object> objects = new ArrayList<>(List.of(root));
        seen.put(root, true);
        int elements = 0;
        for (int k = 0; k < objects.size(); k++) {
            Object one = objects.get(k);
            if (one.getClass().isArray()) {
                elements += Array.getLength(one);
                continue;
            }
            for (Field field : one.getClass().getDeclaredFields()) {
                if (Modifier.isStatic(field.getModifiers())) {
                    continue;
                }
                elements++;
                field.setAccessible(true);
                Object part = field.get(one);
                if (!field.getType().isPrimitive() && part != null && seen.put(part, true) == null) {
                    objects.add(part);
                }
            }
        }
        return "has " + objects.size() + " objects, " + elements + " elements";
    }
}
