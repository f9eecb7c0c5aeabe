import java.lang.reflect.Constructor;
import java.lang.reflect.Field;
import java.lang.reflect.Member;
import java.lang.reflect.Method;
import java.lang.reflect.Modifier;
import java.util.ArrayList;
import java.util.List;
import java.util.TreeSet;

/** The public face as the document has it, and promise 1: a new object. */
public final class FaceTest {
    private static final String[] FACE = {
        "boolean singer 5", "boolean ears 1", "boolean tempo 1", "int anew 0", "int feed 5", "int law 1",
        "int roll 2", "int ticks 1", "int tried 2", "int singerIs 2", "int drift 1", "int beat 3", "int end 2",
        "int spread 1", "int firstCome 2", "int sounds 1", "int canon 3", "int returns 3", "int backwards 2",
        "int range 1", "int alone 1", "int together 3", "int attacks 1", "int key 2", "int tune 2",
        "int breaths 3", "int clock 2", "int meet 2", "int agree 3", "int leads 1", "int groups 1", "int order 1",
        "boolean seed 1", "int keep 0", "boolean undo 0", "int check 1", "int count 1",
    };

    public static void main(String[] args) {
        face();
        newObject();
        Due.finish("FaceTest");
    }

    private static void face() {
        Due.due("public and final", true, Modifier.isPublic(ClockChoir.class.getModifiers())
                && Modifier.isFinal(ClockChoir.class.getModifiers()));
        TreeSet<String> seen = new TreeSet<>();
        TreeSet<String> hidden = new TreeSet<>();
        for (Method m : ClockChoir.class.getDeclaredMethods()) {
            if (Modifier.isPrivate(m.getModifiers())) {
                hidden.add(m.getName());
                continue;
            }
            boolean ints = true;
            for (Class<?> p : m.getParameterTypes()) {
                ints &= p == int.class;
            }
            Due.due(m.getName() + " is public, not static, of ints", true,
                    ints && Modifier.isPublic(m.getModifiers()) && !Modifier.isStatic(m.getModifiers()));
            seen.add(m.getReturnType() + " " + m.getName() + " " + m.getParameterCount());
            Due.due("just the document's: " + m.getName(), true, List.of(FACE).contains(
                    m.getReturnType() + " " + m.getName() + " " + m.getParameterCount()));
        }
        Due.due("methods of the face", FACE.length, seen.size());
        for (String f : FACE) {
            Due.due("no private method is named as " + f, false, hidden.contains(f.split(" ")[1]));
        }
        Constructor<?>[] makers = ClockChoir.class.getDeclaredConstructors();
        Due.due("one constructor, public, of nothing", true,
                makers.length == 1 && Modifier.isPublic(makers[0].getModifiers()) && makers[0].getParameterCount() == 0);
        List<Member> open = new ArrayList<>();
        for (Field f : ClockChoir.class.getDeclaredFields()) {
            if (!Modifier.isPrivate(f.getModifiers())) {
                open.add(f);
            }
        }
        Due.due("one constant, NONE", true, open.size() == 1 && open.get(0).getName().equals("NONE"));
        Due.due("NONE", -1, ClockChoir.NONE);
        for (Class<?> inside : ClockChoir.class.getDeclaredClasses()) {
            Due.due(inside + " is static and not public", true,
                    Modifier.isStatic(inside.getModifiers()) && !Modifier.isPublic(inside.getModifiers()));
        }
    }

    private static void newObject() {
        ClockChoir x = new ClockChoir();
        int[] due = {0, 0, 0, 0, 15, 120, 0, 0, 1, -1, 0, 0, 0, 0, 0, 0, 0, 0, -1, -1, 0, 0, 0, 0, 0, 0, 0, 0, -1};
        for (int what = 0; what < due.length; what++) {
            Due.due("new: count(" + what + ")", due[what], x.count(what));
        }
        Due.due("new: undo()", false, x.undo());
        Due.due("new: sounds(0)", 0, x.sounds(0));
        Due.due("new: groups(100)", 0, x.groups(100));
        Due.due("new: firstCome(9, 0)", -2, x.firstCome(9, 0));
        Due.due("new: spread(9)", 0, x.spread(9));
        Due.due("new: agree(5, 5, 0)", 0, x.agree(5, 5, 0));
        Due.due("new: agree(5, 5, 1)", 0, x.agree(5, 5, 1));
        Due.due("new: order(1)", 0, x.order(1));
        Due.due("new: singerIs(0, 0)", -1, x.singerIs(0, 0));
    }
}
