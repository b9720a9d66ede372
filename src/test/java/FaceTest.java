import java.lang.reflect.Constructor;
import java.lang.reflect.Field;
import java.lang.reflect.Method;
import java.lang.reflect.Modifier;
import java.util.NoSuchElementException;
import java.util.Set;
import java.util.TreeSet;

/** The class has the face of the document, and no other member that can be seen. */
final class FaceTest {
    private static final String[] FACE = {
        "sign(int)int", "end(int)boolean", "courts()int", "gifts()int", "rule()int",
        "court(int,int)int", "between(int,int,int)int", "gift(int,int)int", "road(int,int,int)int",
        "sheet(int,int,int,int)int", "send(int,int)int", "months(int)int", "envoy(int,int,int)int",
        "forgive(int,int)int", "year()int", "undo()int", "value(int,int)int", "where(int)int",
        "answer(int,int)int", "wins(int,int)int", "unseen(int)int", "swaps()int", "way(int,int)int",
        "walks(int,int,int,int)int", "alive(int,int,int)int", "feeds(int)int", "starves(int,int)int",
        "net(int)int", "settle()int", "ring()int", "ranks()int", "league()int", "heard(int,int)int",
        "forget()int", "fits()int", "ask()int", "law()int", "rests(int)int", "years(int,int)int",
        "keep(int)boolean", "again(int)boolean", "count(int)int", "row(int)long"};
    private static final Set<String> THROWING = Set.of("court", "between", "gift", "row");

    private static final Check check = new Check();

    public static void main(String[] args) {
        Class<?> face = GiftsOfCourts.class;
        check.due("public and final", Modifier.isPublic(face.getModifiers()) && Modifier.isFinal(face.getModifiers()), true);
        constructors(face);
        fields(face);
        methods(face);
        classesInside(face, new TreeSet<>(Set.of(FACE)));
        check.end();
    }

    private static void constructors(Class<?> face) {
        Constructor<?>[] all = face.getDeclaredConstructors();
        check.due("constructors", all.length, 1);
        check.due("public constructor without parameters",
                Modifier.isPublic(all[0].getModifiers()) && all[0].getParameterCount() == 0, true);
    }

    private static void fields(Class<?> face) {
        for (Field field : face.getDeclaredFields()) {
            boolean none = field.getName().equals("NONE");
            check.due("field " + field.getName() + " is private", Modifier.isPrivate(field.getModifiers()), !none);
            if (Modifier.isStatic(field.getModifiers())) {
                check.due("static " + field.getName() + " is final", Modifier.isFinal(field.getModifiers()), true);
            }
        }
        check.due("NONE", GiftsOfCourts.NONE, -1);
    }

    private static void methods(Class<?> face) {
        Set<String> seen = new TreeSet<>();
        Set<String> names = new TreeSet<>();
        for (Method method : face.getDeclaredMethods()) {
            if (!Modifier.isPrivate(method.getModifiers())) {
                seen.add(told(method));
                names.add(method.getName());
                boolean throwing = method.getExceptionTypes().length == 1
                        && method.getExceptionTypes()[0] == NoSuchElementException.class;
                check.due(method.getName() + " says that it throws", throwing, THROWING.contains(method.getName()));
            }
        }
        check.due("the methods of the face " + seen, seen.equals(new TreeSet<>(Set.of(FACE))), true);
        for (Method method : face.getDeclaredMethods()) {
            if (Modifier.isPrivate(method.getModifiers())) {
                check.due("a private method named " + method.getName(), names.contains(method.getName()), false);
            }
        }
    }

    private static String told(Method method) {
        StringBuilder told = new StringBuilder(method.getName()).append('(');
        for (int i = 0; i < method.getParameterCount(); i++) {
            told.append(i == 0 ? "" : ",").append(method.getParameterTypes()[i].getName());
        }
        return told.append(')').append(method.getReturnType().getName()).toString();
    }

    private static void classesInside(Class<?> face, Set<String> told) {
        Set<String> names = new TreeSet<>();
        for (String method : told) {
            names.add(method.substring(0, method.indexOf('(')));
        }
        Class<?>[] inside = face.getDeclaredClasses();
        check.due("at most twelve classes", inside.length + 1 <= 12, true);
        for (Class<?> one : inside) {
            boolean hidden = !Modifier.isPublic(one.getModifiers()) && !Modifier.isProtected(one.getModifiers());
            check.due(one.getName() + " is hidden and static", hidden && Modifier.isStatic(one.getModifiers()), true);
            for (Method method : one.getDeclaredMethods()) {
                check.due("a method inside named " + method.getName(), names.contains(method.getName()), false);
            }
            check.due(one.getName() + " has some twenty fields at most", one.getDeclaredFields().length <= 20, true);
        }
    }
}
