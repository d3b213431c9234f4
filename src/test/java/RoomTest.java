import com.sun.management.ThreadMXBean;
import java.lang.management.ManagementFactory;
import java.lang.reflect.Array;
import java.lang.reflect.Field;
import java.lang.reflect.Modifier;
import java.util.ArrayDeque;
import java.util.Collections;
import java.util.Deque;
import java.util.IdentityHashMap;
import java.util.Set;

/** The room that all calls of one run have: what an object holds from the first on, and that no call makes more. */
public final class RoomTest {
    private static final Check CHECK = new Check("RoomTest");
    private static final String DEAREST = "square 9 by 9 tower 4 4 high 9;law a;law b;"
            + "person pa at 0 0 tall 9 pace 2 does a spin 8 force 3;person pb at 8 8 tall 8 pace 2 does b spin 1 force 3;"
            + "person pc at 0 8 tall 7 pace 2 does a spin 2 force 3;person pd at 8 0 tall 6 pace 2 does b spin 3 force 3;"
            + "person pe at 4 0 tall 5 pace 2 does a spin 4 force 3;person pf at 0 4 tall 4 pace 2 does b spin 5 force 3;"
            + "wall 1 1;wall 2 2;winds noon*noon+height*(noon-7)/max(height-3,2);"
            + "may not [wore<terms and height*height>tall+pace] or noon=noon;gust 30;";

    private static final String QUESTION = "total gets*spin force+min(wore,terms)";

    private int objects = 0;
    private long elements = 0;
    private final Set<Object> found = Collections.newSetFromMap(new IdentityHashMap<>());
    private final Deque<Object> toLook = new ArrayDeque<>();

    private RoomTest(Object from) throws IllegalAccessException {
        meet(from);
        while (!toLook.isEmpty()) {
            look(toLook.pop());
        }
    }

    private void meet(Object one) {
        if (one != null && found.add(one)) {
            toLook.push(one);
        }
    }

    private void look(Object one) throws IllegalAccessException {
        objects++;
        if (one.getClass().isArray()) {
            elements += Array.getLength(one);
            for (int k = 0; k < Array.getLength(one) && !one.getClass().getComponentType().isPrimitive(); k++) {
                meet(Array.get(one, k));
            }
            return;
        }
        for (Class<?> kind = one.getClass(); kind.getName().startsWith("NoonHat"); kind = kind.getSuperclass()) {
            for (Field field : kind.getDeclaredFields()) {
                if (!Modifier.isStatic(field.getModifiers())) {
                    elements++;
                    field.setAccessible(true);
                    if (!field.getType().isPrimitive() && !field.getType().isEnum()) {
                        meet(field.get(one));
                    }
                }
            }
        }
    }

    /** Some hundred calls, among them each that has much to do; the texts' bytes are made ahead of them. */
    private static void calls(NoonHat x, int[] square, int[] question, int[] image) {
        feed(x, square);
        x.square();
        x.image();
        feed(x, question);
        x.ask();
        x.noons(50);
        x.chance(50);
        for (int p = 0; p < 6; p++) {
            x.stand(p, 2);
            x.likely(p, 0);
            x.change(p, 2);
            x.move(p, 3, p);
            x.train(p, p, 1);
        }
        x.hatless();
        x.later(60, 0);
        x.lasts(0, 60);
        x.feed(0x00ff0100, 0x01ff0000, 0, 0, 0);
        x.end(7);
        x.see();
        x.asked(0);
        x.wears(6);
        x.undo();
        feed(x, image);
        x.on();
        x.toss(8, 3, 0);
        x.kept(0, 0);
        x.seed(7);
    }

    private static void feed(NoonHat x, int[] bytes) {
        x.end(0);
        for (int from = 0; from < bytes.length; from += 20) {
            x.feed(number(bytes, from), number(bytes, from + 4), number(bytes, from + 8), number(bytes, from + 12),
                    number(bytes, from + 16));
        }
        x.end(bytes.length);
    }

    private static int number(int[] bytes, int from) {
        int number = 0;
        for (int k = from; k < from + 4; k++) {
            number = number << 8 | (k < bytes.length ? bytes[k] : 32);
        }
        return number;
    }

    private static void holds() throws IllegalAccessException {
        RoomTest fresh = new RoomTest(new NoonHat());
        // a run is one object of at most 512 calls, so what one holds is far below 600,000 and 7.3 million
        CHECK.due("objects: " + fresh.objects, fresh.objects > 20 && fresh.objects < 1000, true);
        CHECK.due("elements: " + fresh.elements, fresh.elements > 1600 && fresh.elements < 50000, true);
        NoonHat x = Check.told(DEAREST);
        int[] square = Check.bytesOf(DEAREST);
        int[] question = Check.bytesOf(QUESTION);
        calls(x, square, question, Check.picture(x));
        CHECK.due("all was taken", x.status(1) + x.status(3) + x.status(5) + x.fault(0), 0);
        RoomTest used = new RoomTest(x);
        CHECK.due("objects of a used one", used.objects, fresh.objects);
        CHECK.due("elements of a used one", used.elements, fresh.elements);
    }

    /** Nothing is made by the calls of an object: the bytes that this thread takes do not grow with their number. */
    private static void makesNothing() {
        ThreadMXBean room = (ThreadMXBean) ManagementFactory.getThreadMXBean();
        if (!room.isThreadAllocatedMemorySupported() || !room.isThreadAllocatedMemoryEnabled()) {
            System.out.println("RoomTest: this machine does not tell what a thread takes");
            return;
        }
        NoonHat x = Check.told(DEAREST);
        int[] square = Check.bytesOf(DEAREST);
        int[] question = Check.bytesOf(QUESTION);
        int[] image = Check.picture(x);
        calls(x, square, question, image);
        long taken = Long.MAX_VALUE;
        // the machine may take some for itself the first times
        for (int again = 0; again < 5 && taken > 0; again++) {
            long before = room.getCurrentThreadAllocatedBytes();
            for (int k = 0; k < 100; k++) {
                calls(x, square, question, image);
            }
            taken = Math.min(taken, room.getCurrentThreadAllocatedBytes() - before);
        }
        CHECK.due("taken by 100 runs, less than one object a run: " + taken, taken < 1600, true);
    }

    public static void main(String[] args) throws IllegalAccessException {
        holds();
        makesNothing();
        CHECK.end();
    }
}
