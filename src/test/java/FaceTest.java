import java.lang.reflect.Constructor;
import java.lang.reflect.Field;
import java.lang.reflect.Method;
import java.lang.reflect.Modifier;
import java.util.HashMap;
import java.util.HashSet;
import java.util.Map;
import java.util.Set;

/** The public face is the document's, and nothing else can be seen from outside. */
public final class FaceTest {
    private static final String[] FACE = {
        "int hole(int,int,int,int,int,int)", "int of(int,int)", "int becomes(int,int,int)", "int taken(int,int)",
        "int wire(int,int,int)", "int wired(int,int)", "int cut(int)", "int rule(int,int)", "int drop()", "int time(int,int)",
        "int shot(int,int)", "int shake(int)", "int worst(int)", "int safe(int)", "long ring(int)", "int sets(int)",
        "int loads(int,int,int,int,int)", "int misfire(int,int)", "int broken(int,int)", "int critical(int)", "int plan(int)",
        "int planned(int)", "int adopt()", "int feed(int)", "int read()", "int spell()", "int paper(int)", "int step()",
        "int stepped(int)", "int list(int,int)", "int put(int,int,long)", "long get(int,int)", "int fill(int,int)",
        "int judge(int,int)", "int move(int,int,int,int,int)", "int count(int)", "int image()", "int undo()"};

    public static void main(String[] args) throws ReflectiveOperationException {
        Check check = new Check();
        check.holds("public and final", Modifier.isPublic(BlastFace.class.getModifiers()) && Modifier.isFinal(BlastFace.class.getModifiers()));
        methods(check);
        constants(check);
        constructors(check);
        inside(check);
        check.end("FaceTest");
    }

    private static String told(Method m) {
        StringBuilder all = new StringBuilder(m.getReturnType() + " " + m.getName() + "(");
        for (Class<?> c : m.getParameterTypes()) all.append(all.charAt(all.length() - 1) == '(' ? "" : ",").append(c);
        return all + ")";
    }

    private static void methods(Check check) {
        Set<String> face = new HashSet<>(Set.of(FACE));
        Set<String> names = new HashSet<>();
        for (String f : FACE) names.add(f.substring(f.indexOf(' ') + 1, f.indexOf('(')));
        for (Method m : BlastFace.class.getDeclaredMethods()) {
            if (Modifier.isPrivate(m.getModifiers())) {
                check.holds("no private method bears a public name: " + m.getName(), !names.contains(m.getName()));
            } else {
                check.holds("told by the document: " + told(m), face.remove(told(m)) && Modifier.isPublic(m.getModifiers()));
                check.holds("no static method: " + m.getName(), !Modifier.isStatic(m.getModifiers()));
            }
        }
        check.holds("all are there, but " + face, face.isEmpty());
    }

    private static void constants(Check check) throws ReflectiveOperationException {
        Map<String, Long> due = new HashMap<>(Map.of("NONE", -1L, "BAD", -2L, "STATE", -3L, "FULL", -4L, "NO", Long.MIN_VALUE));
        for (Field f : BlastFace.class.getDeclaredFields()) {
            if (Modifier.isPrivate(f.getModifiers())) continue;
            Long want = due.remove(f.getName());
            check.holds("a constant of the document: " + f.getName(), want != null && Modifier.isFinal(f.getModifiers()));
            check.due(f.getName(), ((Number) f.get(null)).longValue(), want == null ? 0 : want);
            check.holds("its type", f.getType() == (f.getName().equals("NO") ? long.class : int.class));
        }
        check.holds("all constants are there, but " + due, due.isEmpty());
    }

    private static void constructors(Check check) {
        Constructor<?>[] all = BlastFace.class.getDeclaredConstructors();
        check.due("constructors", all.length, 1);
        check.holds("a public one without arguments", Modifier.isPublic(all[0].getModifiers()) && all[0].getParameterCount() == 0);
    }

    private static void inside(Check check) {
        Class<?>[] all = BlastFace.class.getDeclaredClasses();
        check.holds("some twelve classes at most", all.length < 12);
        for (Class<?> c : all) {
            int m = c.getModifiers();
            check.holds("static, not public: " + c.getName(), Modifier.isStatic(m) && !Modifier.isPublic(m) && !Modifier.isProtected(m));
            check.holds("some twenty fields: " + c.getName(), fields(c) <= 20);
        }
        check.holds("some twenty fields", fields(BlastFace.class) <= 20);
    }

    private static int fields(Class<?> c) {
        int n = 0;
        for (Field f : c.getDeclaredFields()) if (!Modifier.isStatic(f.getModifiers())) n++;
        return n;
    }
}
