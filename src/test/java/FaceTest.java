import java.lang.reflect.Constructor;
import java.lang.reflect.Field;
import java.lang.reflect.Method;
import java.lang.reflect.Modifier;
import java.util.Arrays;
import java.util.TreeSet;

/** Promise 1 and the public face: what a laid table is, and that nothing more can be seen from outside. */
final class FaceTest {
    private static final String[] FACE = {
        "state(int)int", "boat(int,int,int,int)int", "set(int,int,int)boolean", "act(int,int,int)boolean",
        "minutes(int)int", "feed(int,int,int,int,int)int", "end(int)boolean", "text(int)int", "fault(int)int",
        "of(int,int)int", "seat(int,int)int", "got(int,int)int", "book(int,int)int", "goes(int,int)int",
        "brings(int,int)int", "hands(int,int,int)int", "letter(int,int)int", "both(int)int",
        "candles(int,int,int)int", "stained(int)int", "convoy(int,int)int", "meets(int)int", "flag(int)int",
        "spoons(int,int)int", "treaty(int,int,int)int", "gives(int,int)int", "way(int)int", "cloth(int,int)int",
        "free(int,int)int", "report(int,int)int", "sprouts(int)int", "jar(int,int)int", "stowed(int,int,int)int",
        "game(int)int", "undo()boolean", "image(boolean)boolean", "look(int)int"
    };

    public static void main(String[] args) {
        Check check = new Check("FaceTest");
        TreeSet<String> seen = new TreeSet<>();
        TreeSet<String> names = new TreeSet<>();
        for (Method m : GravyBoats.class.getDeclaredMethods()) {
            if (!Modifier.isPrivate(m.getModifiers()) && !m.isSynthetic()) {
                seen.add(signature(m));
                names.add(m.getName());
            }
        }
        check.due("the methods are those of the face", seen.equals(new TreeSet<>(Arrays.asList(FACE))), true);
        checkHidden(check, GravyBoats.class, names);
        Constructor<?>[] constructors = GravyBoats.class.getDeclaredConstructors();
        check.due("constructors", constructors.length, 1);
        check.due("constructor's parameters", constructors[0].getParameterCount(), 0);
        check.due("public final", GravyBoats.class.getModifiers(), Modifier.PUBLIC | Modifier.FINAL);
        check.due("NONE", GravyBoats.NONE, -1);
        laidTable(check);
        check.close();
    }

    private static String signature(Method m) {
        StringBuilder text = new StringBuilder(m.getName()).append('(');
        for (Class<?> type : m.getParameterTypes()) {
            text.append(text.charAt(text.length() - 1) == '(' ? "" : ",").append(type.getName());
        }
        return text.append(')').append(m.getReturnType().getName()).toString();
    }

    private static void checkHidden(Check check, Class<?> type, TreeSet<String> names) {
        checkFields(check, type);
        for (Field f : type.getDeclaredFields()) {
            boolean ok = Modifier.isPrivate(f.getModifiers()) || f.getName().equals("NONE");
            check.due("field " + f.getName() + " is private", ok, true);
        }
        for (Method m : type.getDeclaredMethods()) {
            if (Modifier.isPrivate(m.getModifiers()) && !m.isSynthetic()) {
                check.due("private " + m.getName() + " bears no public name", names.contains(m.getName()), false);
            }
            check.due("parameters of " + m.getName(), m.getParameterCount() <= 7, true);
        }
        for (Class<?> inner : type.getDeclaredClasses()) {
            check.due(inner + " is static", Modifier.isStatic(inner.getModifiers()), true);
            check.due(inner + " is not public", Modifier.isPublic(inner.getModifiers()), false);
            checkFields(check, inner);
            for (Method m : inner.getDeclaredMethods()) {
                check.due(inner + " method " + m.getName(), names.contains(m.getName()), false);
                check.due("parameters of " + m.getName(), m.getParameterCount() <= 7, true);
            }
        }
    }

    private static void checkFields(Check check, Class<?> type) {
        long fields = Arrays.stream(type.getDeclaredFields()).filter(f -> !Modifier.isStatic(f.getModifiers())).count();
        check.due("fields of " + type + ": " + fields, fields <= 20, true);
        boolean open = Arrays.stream(type.getDeclaredFields())
                .anyMatch(f -> Modifier.isStatic(f.getModifiers()) && !Modifier.isFinal(f.getModifiers()));
        check.due("static fields of " + type + " are final", open, false);
    }

    private static void laidTable(Check check) {
        GravyBoats x = new GravyBoats();
        for (int what = 0; what <= 11; what++) {
            check.due("look(" + what + ")", x.look(what), 0);
        }
        for (int seat = 0; seat < 12; seat++) {
            check.due("STEADY", x.seat(seat, 0), 5);
            for (int what = 1; what <= 4; what++) {
                check.due("seat(" + seat + ", " + what + ")", x.seat(seat, what), 0);
            }
            int beside = (seat > 0 ? 1 << seat - 1 : 0) | (seat < 11 ? 1 << seat + 1 : 0);
            check.due("seat(" + seat + ", 5)", x.seat(seat, 5), beside);
        }
        for (int kind = 0; kind < 5; kind++) {
            check.due("got(0, " + kind + ")", x.got(0, kind), 0);
            check.due("got(11, " + kind + ")", x.got(11, kind), 0);
        }
        check.due("fault(0)", x.fault(0), 0);
        check.due("fault(1)", x.fault(1), -1);
        check.due("book(0, 0)", x.book(0, 0), -1);
        check.due("undo()", x.undo(), false);
        check.due("image(false)", x.image(false), false);
        check.due("end(0)", x.end(0), true);
        check.due("end(1)", x.end(1), false);
        check.due("both(0)", x.both(0), 0);
        check.due("meets(0)", x.meets(0), 0);
        check.due("spoons(0, 2)", x.spoons(0, 2), -1);
        check.due("way(0)", x.way(0), 0);
        check.due("free(99, 0)", x.free(99, 0), 0);
        check.due("sprouts(1)", x.sprouts(1), 0);
        check.due("stowed(99, 99, 0)", x.stowed(99, 99, 0), 0);
        check.due("game(0)", x.game(0), -1);
    }
}
