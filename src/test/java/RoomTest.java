import java.lang.reflect.Array;
import java.lang.reflect.Field;
import java.lang.reflect.Modifier;
import java.util.ArrayDeque;
import java.util.Collections;
import java.util.IdentityHashMap;
import java.util.Set;

/** The room of a run: what an object is made of is little, and many calls later it is the very same objects. */
final class RoomTest {
    private static final Check check = new Check();

    private Set<Object> objects;
    private long elements;

    public static void main(String[] args) throws IllegalAccessException {
        GiftsOfCourts x = new GiftsOfCourts();
        RoomTest before = new RoomTest();
        before.walk(x);
        // A run may have 600,000 objects and arrays, 7.3 million fields and elements: a thousandth of that each.
        check.due("at most 600 objects, " + before.objects.size(), before.objects.size() <= 600, true);
        check.due("at most 7300 fields and elements, " + before.elements, before.elements <= 7300, true);
        use(x);
        RoomTest after = new RoomTest();
        after.walk(x);
        check.due("the same objects are kept", before.objects.equals(after.objects), true);
        check.due("fields and elements", after.elements, before.elements);
        check.end();
    }

    private static void use(GiftsOfCourts x) {
        Check.courts(x, "355555;255955;955595");
        Check.gifts(x, "120,50;240,01;199,92");
        for (int i = 0; i < 20; i++) {
            Check.rule(x, i % 2 == 0 ? "(w+k)*-h<7" : "w*");
            Check.law(x, "w*k");
            Check.year(x, "s01m1p012");
            x.send(i % 3, i % 2);
            x.months(i);
            x.wins(0, 1);
            x.settle();
            x.ring();
            x.years(i, 60);
            x.keep(i % 3);
            x.again(i % 3);
        }
    }

    /** All that can be reached from an object. */
    private void walk(Object root) throws IllegalAccessException {
        objects = Collections.newSetFromMap(new IdentityHashMap<>());
        ArrayDeque<Object> open = new ArrayDeque<>();
        open.add(root);
        while (!open.isEmpty()) {
            Object one = open.remove();
            if (!objects.add(one)) {
                continue;
            }
            if (one.getClass().isArray()) {
                elements += Array.getLength(one);
                for (int i = 0; one instanceof Object[] && i < Array.getLength(one); i++) {
                    open.add(Array.get(one, i));
                }
                continue;
            }
            for (Field field : one.getClass().getDeclaredFields()) {
                if (!Modifier.isStatic(field.getModifiers())) {
                    elements++;
                    field.setAccessible(true);
                    if (!field.getType().isPrimitive()) {
                        // No field is ever null, nor an element of an array of objects: ArrayDeque refuses one.
                        open.add(field.get(one));
                    }
                }
            }
        }
    }
}
