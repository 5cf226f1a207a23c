import java.lang.reflect.Constructor;
import java.lang.reflect.Field;
import java.lang.reflect.Method;
import java.lang.reflect.Modifier;
import java.util.Set;
import java.util.TreeSet;

/** The public face: the document's constant, constructor and methods, and nothing else that can be seen. */
final class FaceTest {
    private static final String FACE = "feed(int,int,int,int,int)int town(int)int fault()int where()int "
            + "house(int,int)int open(int,int)int street(int,int)int person(int,int)int candle(int)int "
            + "candleAt(int,int)int mutual()int judge()int way(int,int,int)int wayAt(int,int,int,int)int "
            + "saves(int,int,int)int farthest(int,int)int homeIn(int)int fits()int could(int)int surely(int)int "
            + "firstOf(int)int ask()int askLeaves()int owes(int,boolean)long net(int,boolean)long debtor()int "
            + "paired()int fewest()int exchangeAt(int)int stands(int)int gain(int,int,int,int,boolean)int "
            + "rests(int,int)int rest(int,int)int builders(int,int)int builtOf(int,int,int)int "
            + "exchange(int,int)boolean shut(int,boolean)boolean go(int,int)int waits(int,int)int undo()boolean "
            + "mark()int back(int)boolean led(int)int size(int)int trouble()int";

    private FaceTest() {
    }

    public static void main(String[] args) throws NoSuchMethodException {
        Set<String> due = new TreeSet<>(Set.of(FACE.split(" ")));
        Set<String> got = new TreeSet<>();
        Set<String> names = new TreeSet<>();
        for (Method m : WrongRoom.class.getDeclaredMethods()) {
            if (Modifier.isPrivate(m.getModifiers())) {
                Check.due("private " + m.getName() + " bears a name of the face",
                        (" " + FACE).contains(" " + m.getName() + "("), false);
                continue;
            }
            names.add(m.getName());
            StringBuilder types = new StringBuilder();
            for (Class<?> type : m.getParameterTypes()) {
                types.append(types.length() == 0 ? "" : ",").append(type.getName());
            }
            got.add(m.getName() + "(" + types + ")" + m.getReturnType().getName());
            Check.due(m.getName() + " is public and no more", m.getModifiers(), Modifier.PUBLIC);
        }
        Check.due("the face is " + got, got.equals(due), true);
        Check.due("led throws", WrongRoom.class.getMethod("led", int.class).getExceptionTypes().length, 1);
        Constructor<?>[] made = WrongRoom.class.getDeclaredConstructors();
        Check.due("constructors", made.length, 1);
        Check.due("constructor's arguments", made[0].getParameterCount(), 0);
        Check.due("constructor is public", made[0].getModifiers(), Modifier.PUBLIC);
        for (Field f : WrongRoom.class.getDeclaredFields()) {
            Check.due(f.getName() + " is private", Modifier.isPrivate(f.getModifiers()), !f.getName().equals("NONE"));
        }
        Check.due("WrongRoom is public and final", WrongRoom.class.getModifiers(),
                Modifier.PUBLIC | Modifier.FINAL);
        for (Class<?> c : WrongRoom.class.getDeclaredClasses()) {
            Check.due(c.getName() + " is static", Modifier.isStatic(c.getModifiers()), true);
            Check.due(c.getName() + " can't be seen", c.getModifiers() & (Modifier.PUBLIC | Modifier.PROTECTED), 0);
            for (Method m : c.getDeclaredMethods()) {
                Check.due(c.getName() + "'s " + m.getName() + " bears a name of the face", names.contains(m.getName()),
                        false);
            }
        }
        Check.end();
    }
}
