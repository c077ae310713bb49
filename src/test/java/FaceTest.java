import java.lang.reflect.Constructor;
import java.lang.reflect.Field;
import java.lang.reflect.Method;
import java.lang.reflect.Modifier;
import java.util.Set;
import java.util.TreeSet;

/** The public face, and promise 1: a new object. */
public final class FaceTest {
    private static final String[] METHODS = {
        "int room(int)", "int hour(int,int,int,int,int)", "int of(int,int)", "int at(int,int)",
        "int fault(int,boolean)", "int row(int,int,int)", "int give(int,int)", "int inside(int,int)",
        "int held(int,int)", "int feed(int)", "int office()", "int told(int)", "int pass(int)", "int waste(int)",
        "int on(int,int)", "int most(int)", "int dearest(int)", "int best(int)", "int holds(int)",
        "int sudden(int,int,int)", "int see(int,int,boolean,int)", "int can(int,int)", "int where(int)",
        "long odds(int,int)", "long mean(int,int)", "int plan(int,int)", "int ends(int)", "int book(int,int)",
        "int looked()", "int judge(int,int)", "int image()", "int undo()", "int act(int,int,int)", "int trace(int)",
        "int taken(int,int)", "int count(int)", "int tape(int,int,int)", "int item(int,int,long)",
        "long read(int,int)", "int shift(int,int,int,int,int)",
    };

    public static void main(String[] args) {
        Check c = new Check("FaceTest");
        face(c);
        constants(c);
        anew(c);
        c.end();
    }

    private static void face(Check c) {
        Set<String> want = new TreeSet<>(Set.of(METHODS));
        Set<String> got = new TreeSet<>();
        for (Method m : BookedEmpty.class.getDeclaredMethods()) {
            if (Modifier.isPrivate(m.getModifiers())) {
                c.isTrue("no private " + m, !names().contains(m.getName()));
                continue;
            }
            c.isTrue(m + " is public, not static", Modifier.isPublic(m.getModifiers())
                && !Modifier.isStatic(m.getModifiers()));
            StringBuilder s = new StringBuilder(m.getReturnType() + " " + m.getName() + "(");
            for (Class<?> p : m.getParameterTypes()) {
                s.append(s.charAt(s.length() - 1) == '(' ? "" : ",").append(p);
            }
            got.add(s.append(")").toString());
        }
        c.isTrue("the methods are " + got, got.equals(want));
        for (Field f : BookedEmpty.class.getDeclaredFields()) {
            boolean told = Set.of("NONE", "BAD", "STATE", "FULL", "NO").contains(f.getName());
            c.isTrue(f + " is as told", told ? Modifier.isPublic(f.getModifiers()) : Modifier.isPrivate(f.getModifiers()));
        }
        Constructor<?>[] made = BookedEmpty.class.getDeclaredConstructors();
        c.isTrue("one constructor", made.length == 1 && made[0].getParameterCount() == 0
            && Modifier.isPublic(made[0].getModifiers()));
        c.isTrue("final", Modifier.isFinal(BookedEmpty.class.getModifiers()));
        c.isTrue("at most twelve classes", BookedEmpty.class.getDeclaredClasses().length + 1 <= 12);
        for (Class<?> inner : BookedEmpty.class.getDeclaredClasses()) {
            c.isTrue(inner + " is static, not public", Modifier.isStatic(inner.getModifiers())
                && !Modifier.isPublic(inner.getModifiers()));
            for (Method m : inner.getDeclaredMethods()) {
                c.isTrue("no private " + m, !Modifier.isPrivate(m.getModifiers()) || !names().contains(m.getName()));
            }
        }
    }

    private static Set<String> names() {
        Set<String> names = new TreeSet<>();
        for (String method : METHODS) {
            names.add(method.substring(method.indexOf(' ') + 1, method.indexOf('(')));
        }
        return names;
    }

    private static void constants(Check c) {
        c.due("NONE", BookedEmpty.NONE, -1);
        c.due("BAD", BookedEmpty.BAD, -2);
        c.due("STATE", BookedEmpty.STATE, -3);
        c.due("FULL", BookedEmpty.FULL, -4);
        c.due("NO", BookedEmpty.NO, Long.MIN_VALUE);
    }

    private static void anew(Check c) {
        BookedEmpty x = new BookedEmpty();
        for (int what = 0; what <= 7; what++) {
            c.due("new: count(" + what + ")", x.count(what), 0);
        }
        c.due("new: told(0)", x.told(0), 0);
        c.due("new: told(1)", x.told(1), 2);
        c.due("new: told(2)", x.told(2), 40);
        c.due("new: told(3)", x.told(3), 0);
        c.due("new: told(4)", x.told(4), 0);
        c.due("new: at(0, 0)", x.at(0, 0), -1);
        c.due("new: of(0, 0)", x.of(0, 0), -1001);
        c.due("new: undo()", x.undo(), -3);
        c.due("new: trace(0)", x.trace(0), -1);
        for (int tape = 0; tape < 6; tape++) {
            c.due("new: item of tape " + tape, x.item(tape, 0, 1), -11);
        }
    }
}
