import java.lang.reflect.Constructor;
import java.lang.reflect.Field;
import java.lang.reflect.Member;
import java.lang.reflect.Method;
import java.lang.reflect.Modifier;
import java.util.Set;
import java.util.TreeSet;

/** The public face: what the document lists, and nothing else that is not private. */
public final class FaceTest {
    private static final Set<String> METHODS = Set.of("players(int)", "line(int,int,int)",
            "weight(int,int)", "pay(int,int,int)", "bar(int)", "hold(int,boolean)", "state(int)",
            "wage(int,int)", "sum()", "step(int,int)", "after(int,int)", "goes(int,int)",
            "end(int,int)", "basin(int,int,int)", "lone(int)", "before(int,int)", "rise()",
            "highest()", "rests()", "restMany()", "tip(int)", "share(int)", "hangs(int,int)",
            "told(int)");
    private static final Set<String> CONSTANTS =
            Set.of("NONE", "UNKNOWN", "OUTSIDE", "STATE", "LOST");

    public static void main(String[] args) {
        Due.is("NONE", GameNet.NONE, -6);
        Due.is("UNKNOWN", GameNet.UNKNOWN, -1);
        Due.is("OUTSIDE", GameNet.OUTSIDE, -2);
        Due.is("STATE", GameNet.STATE, -3);
        Due.is("LOST", GameNet.LOST, -100000);

        int kind = GameNet.class.getModifiers();
        Due.holds("the class is public and final",
                Modifier.isPublic(kind) && Modifier.isFinal(kind));
        constructors();
        methods();
        constants();
        Due.end();
    }

    private static void constructors() {
        Constructor<?>[] all = GameNet.class.getDeclaredConstructors();
        Due.is("constructors", all.length, 1);
        Due.holds("the constructor is public, without arguments",
                Modifier.isPublic(all[0].getModifiers()) && all[0].getParameterCount() == 0);
    }

    private static void methods() {
        Set<String> open = new TreeSet<>();
        Set<String> names = new TreeSet<>();
        for (Method method : GameNet.class.getDeclaredMethods()) {
            if (isOpen(method)) {
                String text = method.toString();
                open.add(text.substring(text.indexOf("GameNet.") + "GameNet.".length()));
                names.add(method.getName());
                Due.holds(method + " is public, not static, and answers an int",
                        Modifier.isPublic(method.getModifiers())
                        && !Modifier.isStatic(method.getModifiers())
                        && method.getReturnType() == int.class);
            }
        }
        Due.holds("the methods are the document's: " + open, open.equals(METHODS));
        for (Method method : GameNet.class.getDeclaredMethods()) {
            Due.holds(method + " bears no public method's name",
                    isOpen(method) || !names.contains(method.getName()));
        }
    }

    private static void constants() {
        Set<String> open = new TreeSet<>();
        for (Field field : GameNet.class.getDeclaredFields()) {
            int kind = field.getModifiers();
            if (isOpen(field)) {
                open.add(field.getName());
                Due.holds(field + " is a constant of int", Modifier.isPublic(kind)
                        && Modifier.isStatic(kind) && field.getType() == int.class);
            }
            Due.holds(field + " is final, if it is static",
                    !Modifier.isStatic(kind) || Modifier.isFinal(kind));
        }
        Due.holds("the constants are the document's: " + open, open.equals(CONSTANTS));
    }

    private static boolean isOpen(Member member) {
        return !Modifier.isPrivate(member.getModifiers());
    }
}
